/-! ===== the first n cells of a run (by mk/mkini.py) ===== -/
set_option maxRecDepth 100000
theorem gT_0 : pw_gam.take 0 ++ [(11, 17)] = pw_gam.take 1 := by decide +kernel
theorem gT_1 : pw_gam.take 1 ++ [(4, 6)] = pw_gam.take 2 := by decide +kernel
theorem gT_2 : pw_gam.take 2 ++ [(100, 64)] = pw_gam.take 3 := by decide +kernel
theorem gT_3 : pw_gam.take 3 ++ [(100, 64)] = pw_gam.take 4 := by decide +kernel
theorem gT_4 : pw_gam.take 4 ++ [(100, 4)] = pw_gam.take 5 := by decide +kernel
theorem gT_5 : pw_gam.take 5 ++ [(4, 6)] = pw_gam.take 6 := by decide +kernel
theorem gT_6 : pw_gam.take 6 ++ [(100, 64)] = pw_gam.take 7 := by decide +kernel
theorem gT_7 : pw_gam.take 7 ++ [(100, 64)] = pw_gam.take 8 := by decide +kernel
theorem gT_8 : pw_gam.take 8 ++ [(100, 4)] = pw_gam.take 9 := by decide +kernel
theorem gT_9 : pw_gam.take 9 ++ [(4, 6)] = pw_gam.take 10 := by decide +kernel
theorem gT_10 : pw_gam.take 10 ++ [(100, 64)] = pw_gam.take 11 := by decide +kernel
theorem gT_11 : pw_gam.take 11 ++ [(100, 64)] = pw_gam.take 12 := by decide +kernel
theorem gT_12 : pw_gam.take 12 ++ [(100, 4)] = pw_gam.take 13 := by decide +kernel
theorem gT_13 : pw_gam.take 13 ++ [(104, 3)] = pw_gam.take 14 := by decide +kernel
theorem gT_14 : pw_gam.take 14 ++ [(103, 3)] = pw_gam.take 15 := by decide +kernel
theorem gT_15 : pw_gam.take 15 ++ [(3, 3)] = pw_gam.take 16 := by decide +kernel
theorem gT_16 : pw_gam.take 16 ++ [(104, 12)] = pw_gam.take 17 := by decide +kernel
theorem gT_17 : pw_gam.take 17 ++ [(4, 6)] = pw_gam.take 18 := by decide +kernel
theorem gT_18 : pw_gam.take 18 ++ [(100, 64)] = pw_gam.take 19 := by decide +kernel
theorem gT_19 : pw_gam.take 19 ++ [(100, 64)] = pw_gam.take 20 := by decide +kernel
theorem gT_20 : pw_gam.take 20 ++ [(100, 4)] = pw_gam.take 21 := by decide +kernel
theorem gT_21 : pw_gam.take 21 ++ [(4, 6)] = pw_gam.take 22 := by decide +kernel
theorem gT_22 : pw_gam.take 22 ++ [(100, 64)] = pw_gam.take 23 := by decide +kernel
theorem gT_23 : pw_gam.take 23 ++ [(100, 64)] = pw_gam.take 24 := by decide +kernel
theorem gT_24 : pw_gam.take 24 ++ [(100, 4)] = pw_gam.take 25 := by decide +kernel
theorem gT_25 : pw_gam.take 25 ++ [(4, 6)] = pw_gam.take 26 := by decide +kernel
theorem gT_26 : pw_gam.take 26 ++ [(100, 64)] = pw_gam.take 27 := by decide +kernel
theorem gT_27 : pw_gam.take 27 ++ [(100, 64)] = pw_gam.take 28 := by decide +kernel
theorem gT_28 : pw_gam.take 28 ++ [(100, 4)] = pw_gam.take 29 := by decide +kernel
theorem gT_29 : pw_gam.take 29 ++ [(4, 6)] = pw_gam.take 30 := by decide +kernel
theorem gT_30 : pw_gam.take 30 ++ [(100, 64)] = pw_gam.take 31 := by decide +kernel
theorem gT_31 : pw_gam.take 31 ++ [(100, 64)] = pw_gam.take 32 := by decide +kernel
theorem gT_32 : pw_gam.take 32 ++ [(100, 4)] = pw_gam.take 33 := by decide +kernel
theorem gT_33 : pw_gam.take 33 ++ [(4, 6)] = pw_gam.take 34 := by decide +kernel
theorem gT_34 : pw_gam.take 34 ++ [(100, 64)] = pw_gam.take 35 := by decide +kernel
theorem gT_35 : pw_gam.take 35 ++ [(100, 64)] = pw_gam.take 36 := by decide +kernel
theorem gT_36 : pw_gam.take 36 ++ [(100, 4)] = pw_gam.take 37 := by decide +kernel
theorem gT_37 : pw_gam.take 37 ++ [(4, 6)] = pw_gam.take 38 := by decide +kernel
theorem gT_38 : pw_gam.take 38 ++ [(100, 64)] = pw_gam.take 39 := by decide +kernel
theorem gT_39 : pw_gam.take 39 ++ [(100, 64)] = pw_gam.take 40 := by decide +kernel
theorem gT_40 : pw_gam.take 40 ++ [(100, 4)] = pw_gam.take 41 := by decide +kernel
theorem gT_41 : pw_gam.take 41 ++ [(4, 6)] = pw_gam.take 42 := by decide +kernel
theorem gT_42 : pw_gam.take 42 ++ [(100, 64)] = pw_gam.take 43 := by decide +kernel
theorem gT_43 : pw_gam.take 43 ++ [(100, 64)] = pw_gam.take 44 := by decide +kernel
theorem gT_44 : pw_gam.take 44 ++ [(100, 4)] = pw_gam.take 45 := by decide +kernel
theorem gT_45 : pw_gam.take 45 ++ [(4, 6)] = pw_gam.take 46 := by decide +kernel
theorem gT_46 : pw_gam.take 46 ++ [(100, 64)] = pw_gam.take 47 := by decide +kernel
theorem gT_47 : pw_gam.take 47 ++ [(100, 64)] = pw_gam.take 48 := by decide +kernel
theorem gT_48 : pw_gam.take 48 ++ [(100, 4)] = pw_gam.take 49 := by decide +kernel
theorem gT_49 : pw_gam.take 49 ++ [(4, 6)] = pw_gam.take 50 := by decide +kernel
theorem gT_50 : pw_gam.take 50 ++ [(100, 64)] = pw_gam.take 51 := by decide +kernel
theorem gT_51 : pw_gam.take 51 ++ [(100, 64)] = pw_gam.take 52 := by decide +kernel
theorem gT_52 : pw_gam.take 52 ++ [(100, 4)] = pw_gam.take 53 := by decide +kernel
theorem gT_53 : pw_gam.take 53 ++ [(4, 6)] = pw_gam.take 54 := by decide +kernel
theorem gT_54 : pw_gam.take 54 ++ [(100, 64)] = pw_gam.take 55 := by decide +kernel
theorem gT_55 : pw_gam.take 55 ++ [(100, 64)] = pw_gam.take 56 := by decide +kernel
theorem gT_56 : pw_gam.take 56 ++ [(100, 4)] = pw_gam.take 57 := by decide +kernel
theorem gT_57 : pw_gam.take 57 ++ [(4, 6)] = pw_gam.take 58 := by decide +kernel
theorem gT_58 : pw_gam.take 58 ++ [(100, 64)] = pw_gam.take 59 := by decide +kernel
theorem gT_59 : pw_gam.take 59 ++ [(100, 64)] = pw_gam.take 60 := by decide +kernel
theorem gT_60 : pw_gam.take 60 ++ [(100, 4)] = pw_gam.take 61 := by decide +kernel
theorem gT_61 : pw_gam.take 61 ++ [(4, 6)] = pw_gam.take 62 := by decide +kernel
theorem gT_62 : pw_gam.take 62 ++ [(100, 64)] = pw_gam.take 63 := by decide +kernel
theorem gT_63 : pw_gam.take 63 ++ [(100, 64)] = pw_gam.take 64 := by decide +kernel
theorem gT_64 : pw_gam.take 64 ++ [(100, 4)] = pw_gam.take 65 := by decide +kernel
theorem gT_65 : pw_gam.take 65 ++ [(6, 2)] = pw_gam.take 66 := by decide +kernel
theorem gT_66 : pw_gam.take 66 ++ [(100, 64)] = pw_gam.take 67 := by decide +kernel
theorem gT_67 : pw_gam.take 67 ++ [(103, 64)] = pw_gam.take 68 := by decide +kernel
theorem gT_68 : pw_gam.take 68 ++ [(2, 1)] = pw_gam.take 69 := by decide +kernel
theorem gT_69 : pw_gam.take 69 ++ [(101, 256)] = pw_gam.take 70 := by decide +kernel
theorem gT_70 : pw_gam.take 70 ++ [(2, 1)] = pw_gam.take 71 := by decide +kernel
theorem gT_71 : pw_gam.take 71 ++ [(101, 256)] = pw_gam.take 72 := by decide +kernel
theorem gT_72 : pw_gam.take 72 ++ [(100, 64)] = pw_gam.take 73 := by decide +kernel
theorem gT_73 : pw_gam.take 73 ++ [(100, 64)] = pw_gam.take 74 := by decide +kernel
theorem gT_74 : pw_gam.take 74 ++ [(7, 2)] = pw_gam.take 75 := by decide +kernel
theorem gT_75 : pw_gam.take 75 ++ [(102, 500)] = pw_gam.take 76 := by decide +kernel
theorem gT_76 : pw_gam.take 76 ++ [(8, 4)] = pw_gam.take 77 := by decide +kernel
theorem gT_77 : pw_gam.take 77 ++ [(9, 6)] = pw_gam.take 78 := by decide +kernel
theorem gT_78 : pw_gam.take 78 ++ [(2, 1)] = pw_gam.take 79 := by decide +kernel
theorem gT_79 : pw_gam.take 79 ++ [(101, 256)] = pw_gam.take 80 := by decide +kernel
theorem gT_80 : pw_gam.take 80 ++ [(100, 64)] = pw_gam.take 81 := by decide +kernel
theorem gT_81 : pw_gam.take 81 ++ [(10, 1)] = pw_gam.take 82 := by decide +kernel
theorem gT_82 : pw_gam.take 82 ++ [(100, 64)] = pw_gam.take 83 := by decide +kernel
theorem gT_83 : pw_gam.take 83 ++ [(1, 4)] = pw_gam.take 84 := by decide +kernel
theorem gT_84 : pw_gam.take 84 ++ [(100, 4)] = pw_gam.take 85 := by decide +kernel
theorem gT_85 : pw_gam.take 85 ++ [(100, 61)] = pw_gam.take 86 := by decide +kernel
theorem gT_86 : pw_gam.take 86 ++ [(100, 61)] = pw_gam.take 87 := by decide +kernel
theorem gT_87 : pw_gam.take 87 ++ [(0, 2)] = pw_gam.take 88 := by decide +kernel
theorem gT_88 : pw_gam.take 88 ++ [(100, 64)] = pw_gam.take 89 := by decide +kernel
theorem gT_89 : pw_gam.take 89 ++ [(5, 6)] = pw_gam.take 90 := by decide +kernel
theorem gT_90 : pw_gam.take 90 ++ [(100, 21)] = pw_gam.take 91 := by decide +kernel
theorem gT_91 : pw_gam.take 91 ++ [(4, 6)] = pw_gam.take 92 := by decide +kernel
theorem gT_92 : pw_gam.take 92 ++ [(100, 64)] = pw_gam.take 93 := by decide +kernel
theorem gT_93 : pw_gam.take 93 ++ [(100, 64)] = pw_gam.take 94 := by decide +kernel
theorem gT_94 : pw_gam.take 94 ++ [(100, 4)] = pw_gam.take 95 := by decide +kernel
theorem gT_95 : pw_gam.take 95 ++ [(4, 6)] = pw_gam.take 96 := by decide +kernel
theorem gT_96 : pw_gam.take 96 ++ [(100, 64)] = pw_gam.take 97 := by decide +kernel
theorem gT_97 : pw_gam.take 97 ++ [(100, 64)] = pw_gam.take 98 := by decide +kernel
theorem gT_98 : pw_gam.take 98 ++ [(100, 4)] = pw_gam.take 99 := by decide +kernel
theorem gT_99 : pw_gam.take 99 ++ [(4, 6)] = pw_gam.take 100 := by decide +kernel
theorem gT_100 : pw_gam.take 100 ++ [(100, 64)] = pw_gam.take 101 := by decide +kernel
theorem gT_101 : pw_gam.take 101 ++ [(100, 64)] = pw_gam.take 102 := by decide +kernel
theorem gT_102 : pw_gam.take 102 ++ [(100, 4)] = pw_gam.take 103 := by decide +kernel
theorem gT_103 : pw_gam.take 103 ++ [(12, 45)] = pw_gam.take 104 := by decide +kernel
theorem gT_104 : pw_gam.take 104 ++ [(100, 127)] = pw_gam.take 105 := by decide +kernel
theorem gT_105 : pw_gam.take 105 ++ [(100, 127)] = pw_gam.take 106 := by decide +kernel
theorem gT_106 : pw_gam.take 106 ++ [(100, 1524)] = pw_gam.take 107 := by decide +kernel
theorem gT_107 : pw_gam.take 107 ++ [(100, 381)] = pw_gam.take 108 := by decide +kernel
theorem gT_108 : pw_gam.take 108 ++ [(103, 3)] = pw_gam.take 109 := by decide +kernel
theorem gT_109 : pw_gam.take 109 ++ [(101, 256)] = pw_gam.take 110 := by decide +kernel
theorem gT_110 : pw_gam.take 110 ++ [(102, 500)] = pw_gam.take 111 := by decide +kernel
theorem gT_111 : pw_gam.take 111 ++ [(100, 64)] = pw_gam.take 112 := by decide +kernel
theorem gT_112 : pw_gam.take 112 ++ [(100, 64)] = pw_gam.take 113 := by decide +kernel
theorem gT_113 : pw_gam.take 113 ++ [(100, 32)] = pw_gam.take 114 := by decide +kernel
theorem gT_114 : pw_gam.take 114 ++ [(100, 32)] = pw_gam.take 115 := by decide +kernel
theorem gT_115 : pw_gam.take 115 ++ [(103, 64)] = pw_gam.take 116 := by decide +kernel
theorem gT_116 : pw_gam.take 116 ++ [(100, 64)] = pw_gam.take 117 := by decide +kernel
theorem gT_117 : pw_gam.take 117 ++ [(101, 64)] = pw_gam.take 118 := by decide +kernel
theorem gT_118 : pw_gam.take 118 ++ [(100, 64)] = pw_gam.take 119 := by decide +kernel
theorem gT_119 : pw_gam.take 119 ++ [(100, 64)] = pw_gam.take 120 := by decide +kernel
theorem gT_120 : pw_gam.take 120 ++ [(100, 127)] = pw_gam.take 121 := by decide +kernel
theorem gT_121 : pw_gam.take 121 ++ [(103, 10000)] = pw_gam.take 122 := by decide +kernel
theorem gT_122 : pw_gam.take 122 ++ [(100, 10000)] = pw_gam.take 123 := by decide +kernel
theorem gT_123 : pw_gam.take 123 ++ [(100, 10000)] = pw_gam.take 124 := by decide +kernel
theorem gT_124 : pw_gam.take 124 ++ [(100, 10000)] = pw_gam.take 125 := by decide +kernel
theorem gT_125 : pw_gam.take 125 ++ [(101, 16)] = pw_gam.take 126 := by decide +kernel
theorem gT_126 : pw_gam.take 126 ++ [(103, 10000)] = pw_gam.take 127 := by decide +kernel
theorem gT_127 : pw_gam.take 127 ++ [(100, 10000)] = pw_gam.take 128 := by decide +kernel
theorem gT_128 : pw_gam.take 128 ++ [(100, 64)] = pw_gam.take 129 := by decide +kernel
theorem gT_129 : pw_gam.take 129 ++ [(101, 1)] = pw_gam.take 130 := by decide +kernel
theorem gL_0 : ((pw_gam.take 0).length : Int) = 0 := by decide +kernel
theorem gL_1 : ((pw_gam.take 1).length : Int) = 1 := by decide +kernel
theorem gL_2 : ((pw_gam.take 2).length : Int) = 2 := by decide +kernel
theorem gL_3 : ((pw_gam.take 3).length : Int) = 3 := by decide +kernel
theorem gL_4 : ((pw_gam.take 4).length : Int) = 4 := by decide +kernel
theorem gL_5 : ((pw_gam.take 5).length : Int) = 5 := by decide +kernel
theorem gL_6 : ((pw_gam.take 6).length : Int) = 6 := by decide +kernel
theorem gL_7 : ((pw_gam.take 7).length : Int) = 7 := by decide +kernel
theorem gL_8 : ((pw_gam.take 8).length : Int) = 8 := by decide +kernel
theorem gL_9 : ((pw_gam.take 9).length : Int) = 9 := by decide +kernel
theorem gL_10 : ((pw_gam.take 10).length : Int) = 10 := by decide +kernel
theorem gL_11 : ((pw_gam.take 11).length : Int) = 11 := by decide +kernel
theorem gL_12 : ((pw_gam.take 12).length : Int) = 12 := by decide +kernel
theorem gL_13 : ((pw_gam.take 13).length : Int) = 13 := by decide +kernel
theorem gL_14 : ((pw_gam.take 14).length : Int) = 14 := by decide +kernel
theorem gL_15 : ((pw_gam.take 15).length : Int) = 15 := by decide +kernel
theorem gL_16 : ((pw_gam.take 16).length : Int) = 16 := by decide +kernel
theorem gL_17 : ((pw_gam.take 17).length : Int) = 17 := by decide +kernel
theorem gL_18 : ((pw_gam.take 18).length : Int) = 18 := by decide +kernel
theorem gL_19 : ((pw_gam.take 19).length : Int) = 19 := by decide +kernel
theorem gL_20 : ((pw_gam.take 20).length : Int) = 20 := by decide +kernel
theorem gL_21 : ((pw_gam.take 21).length : Int) = 21 := by decide +kernel
theorem gL_22 : ((pw_gam.take 22).length : Int) = 22 := by decide +kernel
theorem gL_23 : ((pw_gam.take 23).length : Int) = 23 := by decide +kernel
theorem gL_24 : ((pw_gam.take 24).length : Int) = 24 := by decide +kernel
theorem gL_25 : ((pw_gam.take 25).length : Int) = 25 := by decide +kernel
theorem gL_26 : ((pw_gam.take 26).length : Int) = 26 := by decide +kernel
theorem gL_27 : ((pw_gam.take 27).length : Int) = 27 := by decide +kernel
theorem gL_28 : ((pw_gam.take 28).length : Int) = 28 := by decide +kernel
theorem gL_29 : ((pw_gam.take 29).length : Int) = 29 := by decide +kernel
theorem gL_30 : ((pw_gam.take 30).length : Int) = 30 := by decide +kernel
theorem gL_31 : ((pw_gam.take 31).length : Int) = 31 := by decide +kernel
theorem gL_32 : ((pw_gam.take 32).length : Int) = 32 := by decide +kernel
theorem gL_33 : ((pw_gam.take 33).length : Int) = 33 := by decide +kernel
theorem gL_34 : ((pw_gam.take 34).length : Int) = 34 := by decide +kernel
theorem gL_35 : ((pw_gam.take 35).length : Int) = 35 := by decide +kernel
theorem gL_36 : ((pw_gam.take 36).length : Int) = 36 := by decide +kernel
theorem gL_37 : ((pw_gam.take 37).length : Int) = 37 := by decide +kernel
theorem gL_38 : ((pw_gam.take 38).length : Int) = 38 := by decide +kernel
theorem gL_39 : ((pw_gam.take 39).length : Int) = 39 := by decide +kernel
theorem gL_40 : ((pw_gam.take 40).length : Int) = 40 := by decide +kernel
theorem gL_41 : ((pw_gam.take 41).length : Int) = 41 := by decide +kernel
theorem gL_42 : ((pw_gam.take 42).length : Int) = 42 := by decide +kernel
theorem gL_43 : ((pw_gam.take 43).length : Int) = 43 := by decide +kernel
theorem gL_44 : ((pw_gam.take 44).length : Int) = 44 := by decide +kernel
theorem gL_45 : ((pw_gam.take 45).length : Int) = 45 := by decide +kernel
theorem gL_46 : ((pw_gam.take 46).length : Int) = 46 := by decide +kernel
theorem gL_47 : ((pw_gam.take 47).length : Int) = 47 := by decide +kernel
theorem gL_48 : ((pw_gam.take 48).length : Int) = 48 := by decide +kernel
theorem gL_49 : ((pw_gam.take 49).length : Int) = 49 := by decide +kernel
theorem gL_50 : ((pw_gam.take 50).length : Int) = 50 := by decide +kernel
theorem gL_51 : ((pw_gam.take 51).length : Int) = 51 := by decide +kernel
theorem gL_52 : ((pw_gam.take 52).length : Int) = 52 := by decide +kernel
theorem gL_53 : ((pw_gam.take 53).length : Int) = 53 := by decide +kernel
theorem gL_54 : ((pw_gam.take 54).length : Int) = 54 := by decide +kernel
theorem gL_55 : ((pw_gam.take 55).length : Int) = 55 := by decide +kernel
theorem gL_56 : ((pw_gam.take 56).length : Int) = 56 := by decide +kernel
theorem gL_57 : ((pw_gam.take 57).length : Int) = 57 := by decide +kernel
theorem gL_58 : ((pw_gam.take 58).length : Int) = 58 := by decide +kernel
theorem gL_59 : ((pw_gam.take 59).length : Int) = 59 := by decide +kernel
theorem gL_60 : ((pw_gam.take 60).length : Int) = 60 := by decide +kernel
theorem gL_61 : ((pw_gam.take 61).length : Int) = 61 := by decide +kernel
theorem gL_62 : ((pw_gam.take 62).length : Int) = 62 := by decide +kernel
theorem gL_63 : ((pw_gam.take 63).length : Int) = 63 := by decide +kernel
theorem gL_64 : ((pw_gam.take 64).length : Int) = 64 := by decide +kernel
theorem gL_65 : ((pw_gam.take 65).length : Int) = 65 := by decide +kernel
theorem gL_66 : ((pw_gam.take 66).length : Int) = 66 := by decide +kernel
theorem gL_67 : ((pw_gam.take 67).length : Int) = 67 := by decide +kernel
theorem gL_68 : ((pw_gam.take 68).length : Int) = 68 := by decide +kernel
theorem gL_69 : ((pw_gam.take 69).length : Int) = 69 := by decide +kernel
theorem gL_70 : ((pw_gam.take 70).length : Int) = 70 := by decide +kernel
theorem gL_71 : ((pw_gam.take 71).length : Int) = 71 := by decide +kernel
theorem gL_72 : ((pw_gam.take 72).length : Int) = 72 := by decide +kernel
theorem gL_73 : ((pw_gam.take 73).length : Int) = 73 := by decide +kernel
theorem gL_74 : ((pw_gam.take 74).length : Int) = 74 := by decide +kernel
theorem gL_75 : ((pw_gam.take 75).length : Int) = 75 := by decide +kernel
theorem gL_76 : ((pw_gam.take 76).length : Int) = 76 := by decide +kernel
theorem gL_77 : ((pw_gam.take 77).length : Int) = 77 := by decide +kernel
theorem gL_78 : ((pw_gam.take 78).length : Int) = 78 := by decide +kernel
theorem gL_79 : ((pw_gam.take 79).length : Int) = 79 := by decide +kernel
theorem gL_80 : ((pw_gam.take 80).length : Int) = 80 := by decide +kernel
theorem gL_81 : ((pw_gam.take 81).length : Int) = 81 := by decide +kernel
theorem gL_82 : ((pw_gam.take 82).length : Int) = 82 := by decide +kernel
theorem gL_83 : ((pw_gam.take 83).length : Int) = 83 := by decide +kernel
theorem gL_84 : ((pw_gam.take 84).length : Int) = 84 := by decide +kernel
theorem gL_85 : ((pw_gam.take 85).length : Int) = 85 := by decide +kernel
theorem gL_86 : ((pw_gam.take 86).length : Int) = 86 := by decide +kernel
theorem gL_87 : ((pw_gam.take 87).length : Int) = 87 := by decide +kernel
theorem gL_88 : ((pw_gam.take 88).length : Int) = 88 := by decide +kernel
theorem gL_89 : ((pw_gam.take 89).length : Int) = 89 := by decide +kernel
theorem gL_90 : ((pw_gam.take 90).length : Int) = 90 := by decide +kernel
theorem gL_91 : ((pw_gam.take 91).length : Int) = 91 := by decide +kernel
theorem gL_92 : ((pw_gam.take 92).length : Int) = 92 := by decide +kernel
theorem gL_93 : ((pw_gam.take 93).length : Int) = 93 := by decide +kernel
theorem gL_94 : ((pw_gam.take 94).length : Int) = 94 := by decide +kernel
theorem gL_95 : ((pw_gam.take 95).length : Int) = 95 := by decide +kernel
theorem gL_96 : ((pw_gam.take 96).length : Int) = 96 := by decide +kernel
theorem gL_97 : ((pw_gam.take 97).length : Int) = 97 := by decide +kernel
theorem gL_98 : ((pw_gam.take 98).length : Int) = 98 := by decide +kernel
theorem gL_99 : ((pw_gam.take 99).length : Int) = 99 := by decide +kernel
theorem gL_100 : ((pw_gam.take 100).length : Int) = 100 := by decide +kernel
theorem gL_101 : ((pw_gam.take 101).length : Int) = 101 := by decide +kernel
theorem gL_102 : ((pw_gam.take 102).length : Int) = 102 := by decide +kernel
theorem gL_103 : ((pw_gam.take 103).length : Int) = 103 := by decide +kernel
theorem gL_104 : ((pw_gam.take 104).length : Int) = 104 := by decide +kernel
theorem gL_105 : ((pw_gam.take 105).length : Int) = 105 := by decide +kernel
theorem gL_106 : ((pw_gam.take 106).length : Int) = 106 := by decide +kernel
theorem gL_107 : ((pw_gam.take 107).length : Int) = 107 := by decide +kernel
theorem gL_108 : ((pw_gam.take 108).length : Int) = 108 := by decide +kernel
theorem gL_109 : ((pw_gam.take 109).length : Int) = 109 := by decide +kernel
theorem gL_110 : ((pw_gam.take 110).length : Int) = 110 := by decide +kernel
theorem gL_111 : ((pw_gam.take 111).length : Int) = 111 := by decide +kernel
theorem gL_112 : ((pw_gam.take 112).length : Int) = 112 := by decide +kernel
theorem gL_113 : ((pw_gam.take 113).length : Int) = 113 := by decide +kernel
theorem gL_114 : ((pw_gam.take 114).length : Int) = 114 := by decide +kernel
theorem gL_115 : ((pw_gam.take 115).length : Int) = 115 := by decide +kernel
theorem gL_116 : ((pw_gam.take 116).length : Int) = 116 := by decide +kernel
theorem gL_117 : ((pw_gam.take 117).length : Int) = 117 := by decide +kernel
theorem gL_118 : ((pw_gam.take 118).length : Int) = 118 := by decide +kernel
theorem gL_119 : ((pw_gam.take 119).length : Int) = 119 := by decide +kernel
theorem gL_120 : ((pw_gam.take 120).length : Int) = 120 := by decide +kernel
theorem gL_121 : ((pw_gam.take 121).length : Int) = 121 := by decide +kernel
theorem gL_122 : ((pw_gam.take 122).length : Int) = 122 := by decide +kernel
theorem gL_123 : ((pw_gam.take 123).length : Int) = 123 := by decide +kernel
theorem gL_124 : ((pw_gam.take 124).length : Int) = 124 := by decide +kernel
theorem gL_125 : ((pw_gam.take 125).length : Int) = 125 := by decide +kernel
theorem gL_126 : ((pw_gam.take 126).length : Int) = 126 := by decide +kernel
theorem gL_127 : ((pw_gam.take 127).length : Int) = 127 := by decide +kernel
theorem gL_128 : ((pw_gam.take 128).length : Int) = 128 := by decide +kernel
theorem gL_129 : ((pw_gam.take 129).length : Int) = 129 := by decide +kernel
theorem gL_130 : ((pw_gam.take 130).length : Int) = 130 := by decide +kernel
theorem gK0_1 : ms_kd (pw_gam.take 1) 0 = 11 := by decide +kernel
theorem gK0_2 : ms_kd (pw_gam.take 2) 0 = 11 := by decide +kernel
theorem gK0_3 : ms_kd (pw_gam.take 3) 0 = 11 := by decide +kernel
theorem gK0_4 : ms_kd (pw_gam.take 4) 0 = 11 := by decide +kernel
theorem gK0_5 : ms_kd (pw_gam.take 5) 0 = 11 := by decide +kernel
theorem gK0_6 : ms_kd (pw_gam.take 6) 0 = 11 := by decide +kernel
theorem gK0_7 : ms_kd (pw_gam.take 7) 0 = 11 := by decide +kernel
theorem gK0_8 : ms_kd (pw_gam.take 8) 0 = 11 := by decide +kernel
theorem gK0_9 : ms_kd (pw_gam.take 9) 0 = 11 := by decide +kernel
theorem gK0_10 : ms_kd (pw_gam.take 10) 0 = 11 := by decide +kernel
theorem gK0_11 : ms_kd (pw_gam.take 11) 0 = 11 := by decide +kernel
theorem gK0_12 : ms_kd (pw_gam.take 12) 0 = 11 := by decide +kernel
theorem gK0_13 : ms_kd (pw_gam.take 13) 0 = 11 := by decide +kernel
theorem gK0_14 : ms_kd (pw_gam.take 14) 0 = 11 := by decide +kernel
theorem gK0_15 : ms_kd (pw_gam.take 15) 0 = 11 := by decide +kernel
theorem gK0_16 : ms_kd (pw_gam.take 16) 0 = 11 := by decide +kernel
theorem gK0_17 : ms_kd (pw_gam.take 17) 0 = 11 := by decide +kernel
theorem gK0_18 : ms_kd (pw_gam.take 18) 0 = 11 := by decide +kernel
theorem gK0_19 : ms_kd (pw_gam.take 19) 0 = 11 := by decide +kernel
theorem gK0_20 : ms_kd (pw_gam.take 20) 0 = 11 := by decide +kernel
theorem gK0_21 : ms_kd (pw_gam.take 21) 0 = 11 := by decide +kernel
theorem gK0_22 : ms_kd (pw_gam.take 22) 0 = 11 := by decide +kernel
theorem gK0_23 : ms_kd (pw_gam.take 23) 0 = 11 := by decide +kernel
theorem gK0_24 : ms_kd (pw_gam.take 24) 0 = 11 := by decide +kernel
theorem gK0_25 : ms_kd (pw_gam.take 25) 0 = 11 := by decide +kernel
theorem gK0_26 : ms_kd (pw_gam.take 26) 0 = 11 := by decide +kernel
theorem gK0_27 : ms_kd (pw_gam.take 27) 0 = 11 := by decide +kernel
theorem gK0_28 : ms_kd (pw_gam.take 28) 0 = 11 := by decide +kernel
theorem gK0_29 : ms_kd (pw_gam.take 29) 0 = 11 := by decide +kernel
theorem gK0_30 : ms_kd (pw_gam.take 30) 0 = 11 := by decide +kernel
theorem gK0_31 : ms_kd (pw_gam.take 31) 0 = 11 := by decide +kernel
theorem gK0_32 : ms_kd (pw_gam.take 32) 0 = 11 := by decide +kernel
theorem gK0_33 : ms_kd (pw_gam.take 33) 0 = 11 := by decide +kernel
theorem gK0_34 : ms_kd (pw_gam.take 34) 0 = 11 := by decide +kernel
theorem gK0_35 : ms_kd (pw_gam.take 35) 0 = 11 := by decide +kernel
theorem gK0_36 : ms_kd (pw_gam.take 36) 0 = 11 := by decide +kernel
theorem gK0_37 : ms_kd (pw_gam.take 37) 0 = 11 := by decide +kernel
theorem gK0_38 : ms_kd (pw_gam.take 38) 0 = 11 := by decide +kernel
theorem gK0_39 : ms_kd (pw_gam.take 39) 0 = 11 := by decide +kernel
theorem gK0_40 : ms_kd (pw_gam.take 40) 0 = 11 := by decide +kernel
theorem gK0_41 : ms_kd (pw_gam.take 41) 0 = 11 := by decide +kernel
theorem gK0_42 : ms_kd (pw_gam.take 42) 0 = 11 := by decide +kernel
theorem gK0_43 : ms_kd (pw_gam.take 43) 0 = 11 := by decide +kernel
theorem gK0_44 : ms_kd (pw_gam.take 44) 0 = 11 := by decide +kernel
theorem gK0_45 : ms_kd (pw_gam.take 45) 0 = 11 := by decide +kernel
theorem gK0_46 : ms_kd (pw_gam.take 46) 0 = 11 := by decide +kernel
theorem gK0_47 : ms_kd (pw_gam.take 47) 0 = 11 := by decide +kernel
theorem gK0_48 : ms_kd (pw_gam.take 48) 0 = 11 := by decide +kernel
theorem gK0_49 : ms_kd (pw_gam.take 49) 0 = 11 := by decide +kernel
theorem gK0_50 : ms_kd (pw_gam.take 50) 0 = 11 := by decide +kernel
theorem gK0_51 : ms_kd (pw_gam.take 51) 0 = 11 := by decide +kernel
theorem gK0_52 : ms_kd (pw_gam.take 52) 0 = 11 := by decide +kernel
theorem gK0_53 : ms_kd (pw_gam.take 53) 0 = 11 := by decide +kernel
theorem gK0_54 : ms_kd (pw_gam.take 54) 0 = 11 := by decide +kernel
theorem gK0_55 : ms_kd (pw_gam.take 55) 0 = 11 := by decide +kernel
theorem gK0_56 : ms_kd (pw_gam.take 56) 0 = 11 := by decide +kernel
theorem gK0_57 : ms_kd (pw_gam.take 57) 0 = 11 := by decide +kernel
theorem gK0_58 : ms_kd (pw_gam.take 58) 0 = 11 := by decide +kernel
theorem gK0_59 : ms_kd (pw_gam.take 59) 0 = 11 := by decide +kernel
theorem gK0_60 : ms_kd (pw_gam.take 60) 0 = 11 := by decide +kernel
theorem gK0_61 : ms_kd (pw_gam.take 61) 0 = 11 := by decide +kernel
theorem gK0_62 : ms_kd (pw_gam.take 62) 0 = 11 := by decide +kernel
theorem gK0_63 : ms_kd (pw_gam.take 63) 0 = 11 := by decide +kernel
theorem gK0_64 : ms_kd (pw_gam.take 64) 0 = 11 := by decide +kernel
theorem gK0_65 : ms_kd (pw_gam.take 65) 0 = 11 := by decide +kernel
theorem gK0_66 : ms_kd (pw_gam.take 66) 0 = 11 := by decide +kernel
theorem gK0_67 : ms_kd (pw_gam.take 67) 0 = 11 := by decide +kernel
theorem gK0_68 : ms_kd (pw_gam.take 68) 0 = 11 := by decide +kernel
theorem gK0_69 : ms_kd (pw_gam.take 69) 0 = 11 := by decide +kernel
theorem gK0_70 : ms_kd (pw_gam.take 70) 0 = 11 := by decide +kernel
theorem gK0_71 : ms_kd (pw_gam.take 71) 0 = 11 := by decide +kernel
theorem gK0_72 : ms_kd (pw_gam.take 72) 0 = 11 := by decide +kernel
theorem gK0_73 : ms_kd (pw_gam.take 73) 0 = 11 := by decide +kernel
theorem gK0_74 : ms_kd (pw_gam.take 74) 0 = 11 := by decide +kernel
theorem gK0_75 : ms_kd (pw_gam.take 75) 0 = 11 := by decide +kernel
theorem gK0_76 : ms_kd (pw_gam.take 76) 0 = 11 := by decide +kernel
theorem gK0_77 : ms_kd (pw_gam.take 77) 0 = 11 := by decide +kernel
theorem gK0_78 : ms_kd (pw_gam.take 78) 0 = 11 := by decide +kernel
theorem gK0_79 : ms_kd (pw_gam.take 79) 0 = 11 := by decide +kernel
theorem gK0_80 : ms_kd (pw_gam.take 80) 0 = 11 := by decide +kernel
theorem gK0_81 : ms_kd (pw_gam.take 81) 0 = 11 := by decide +kernel
theorem gK0_82 : ms_kd (pw_gam.take 82) 0 = 11 := by decide +kernel
theorem gK0_83 : ms_kd (pw_gam.take 83) 0 = 11 := by decide +kernel
theorem gK0_84 : ms_kd (pw_gam.take 84) 0 = 11 := by decide +kernel
theorem gK0_85 : ms_kd (pw_gam.take 85) 0 = 11 := by decide +kernel
theorem gK0_86 : ms_kd (pw_gam.take 86) 0 = 11 := by decide +kernel
theorem gK0_87 : ms_kd (pw_gam.take 87) 0 = 11 := by decide +kernel
theorem gK0_88 : ms_kd (pw_gam.take 88) 0 = 11 := by decide +kernel
theorem gK0_89 : ms_kd (pw_gam.take 89) 0 = 11 := by decide +kernel
theorem gK0_90 : ms_kd (pw_gam.take 90) 0 = 11 := by decide +kernel
theorem gK0_91 : ms_kd (pw_gam.take 91) 0 = 11 := by decide +kernel
theorem gK0_92 : ms_kd (pw_gam.take 92) 0 = 11 := by decide +kernel
theorem gK0_93 : ms_kd (pw_gam.take 93) 0 = 11 := by decide +kernel
theorem gK0_94 : ms_kd (pw_gam.take 94) 0 = 11 := by decide +kernel
theorem gK0_95 : ms_kd (pw_gam.take 95) 0 = 11 := by decide +kernel
theorem gK0_96 : ms_kd (pw_gam.take 96) 0 = 11 := by decide +kernel
theorem gK0_97 : ms_kd (pw_gam.take 97) 0 = 11 := by decide +kernel
theorem gK0_98 : ms_kd (pw_gam.take 98) 0 = 11 := by decide +kernel
theorem gK0_99 : ms_kd (pw_gam.take 99) 0 = 11 := by decide +kernel
theorem gK0_100 : ms_kd (pw_gam.take 100) 0 = 11 := by decide +kernel
theorem gK0_101 : ms_kd (pw_gam.take 101) 0 = 11 := by decide +kernel
theorem gK0_102 : ms_kd (pw_gam.take 102) 0 = 11 := by decide +kernel
theorem gK0_103 : ms_kd (pw_gam.take 103) 0 = 11 := by decide +kernel
theorem gKm_104 : ms_kd (pw_gam.take 104) 103 = 12 := by decide +kernel
theorem gKm_105 : ms_kd (pw_gam.take 105) 103 = 12 := by decide +kernel
theorem gKm_106 : ms_kd (pw_gam.take 106) 103 = 12 := by decide +kernel
theorem gKm_107 : ms_kd (pw_gam.take 107) 103 = 12 := by decide +kernel
theorem gKm_108 : ms_kd (pw_gam.take 108) 103 = 12 := by decide +kernel
theorem gKm_109 : ms_kd (pw_gam.take 109) 103 = 12 := by decide +kernel
theorem gKm_110 : ms_kd (pw_gam.take 110) 103 = 12 := by decide +kernel
theorem gKm_111 : ms_kd (pw_gam.take 111) 103 = 12 := by decide +kernel
theorem gKm_112 : ms_kd (pw_gam.take 112) 103 = 12 := by decide +kernel
theorem gKm_113 : ms_kd (pw_gam.take 113) 103 = 12 := by decide +kernel
theorem gKm_114 : ms_kd (pw_gam.take 114) 103 = 12 := by decide +kernel
theorem gKm_115 : ms_kd (pw_gam.take 115) 103 = 12 := by decide +kernel
theorem gKm_116 : ms_kd (pw_gam.take 116) 103 = 12 := by decide +kernel
theorem gKm_117 : ms_kd (pw_gam.take 117) 103 = 12 := by decide +kernel
theorem gKm_118 : ms_kd (pw_gam.take 118) 103 = 12 := by decide +kernel
theorem gKm_119 : ms_kd (pw_gam.take 119) 103 = 12 := by decide +kernel
theorem gKm_120 : ms_kd (pw_gam.take 120) 103 = 12 := by decide +kernel
theorem gKm_121 : ms_kd (pw_gam.take 121) 103 = 12 := by decide +kernel
theorem gKm_122 : ms_kd (pw_gam.take 122) 103 = 12 := by decide +kernel
theorem gKm_123 : ms_kd (pw_gam.take 123) 103 = 12 := by decide +kernel
theorem gKm_124 : ms_kd (pw_gam.take 124) 103 = 12 := by decide +kernel
theorem gKm_125 : ms_kd (pw_gam.take 125) 103 = 12 := by decide +kernel
theorem gKm_126 : ms_kd (pw_gam.take 126) 103 = 12 := by decide +kernel
theorem gKm_127 : ms_kd (pw_gam.take 127) 103 = 12 := by decide +kernel
theorem gKm_128 : ms_kd (pw_gam.take 128) 103 = 12 := by decide +kernel
theorem gKm_129 : ms_kd (pw_gam.take 129) 103 = 12 := by decide +kernel
theorem gKm_130 : ms_kd (pw_gam.take 130) 103 = 12 := by decide +kernel
theorem gKn_0 : ms_kd (pw_gam.take 1) 0 = 11 := by decide +kernel
theorem gKn_1 : ms_kd (pw_gam.take 2) 1 = 4 := by decide +kernel
theorem gKn_5 : ms_kd (pw_gam.take 6) 5 = 4 := by decide +kernel
theorem gKn_9 : ms_kd (pw_gam.take 10) 9 = 4 := by decide +kernel
theorem gKn_15 : ms_kd (pw_gam.take 16) 15 = 3 := by decide +kernel
theorem gKn_17 : ms_kd (pw_gam.take 18) 17 = 4 := by decide +kernel
theorem gKn_21 : ms_kd (pw_gam.take 22) 21 = 4 := by decide +kernel
theorem gKn_25 : ms_kd (pw_gam.take 26) 25 = 4 := by decide +kernel
theorem gKn_29 : ms_kd (pw_gam.take 30) 29 = 4 := by decide +kernel
theorem gKn_33 : ms_kd (pw_gam.take 34) 33 = 4 := by decide +kernel
theorem gKn_37 : ms_kd (pw_gam.take 38) 37 = 4 := by decide +kernel
theorem gKn_41 : ms_kd (pw_gam.take 42) 41 = 4 := by decide +kernel
theorem gKn_45 : ms_kd (pw_gam.take 46) 45 = 4 := by decide +kernel
theorem gKn_49 : ms_kd (pw_gam.take 50) 49 = 4 := by decide +kernel
theorem gKn_53 : ms_kd (pw_gam.take 54) 53 = 4 := by decide +kernel
theorem gKn_57 : ms_kd (pw_gam.take 58) 57 = 4 := by decide +kernel
theorem gKn_61 : ms_kd (pw_gam.take 62) 61 = 4 := by decide +kernel
theorem gKn_65 : ms_kd (pw_gam.take 66) 65 = 6 := by decide +kernel
theorem gKn_68 : ms_kd (pw_gam.take 69) 68 = 2 := by decide +kernel
theorem gKn_70 : ms_kd (pw_gam.take 71) 70 = 2 := by decide +kernel
theorem gKn_74 : ms_kd (pw_gam.take 75) 74 = 7 := by decide +kernel
theorem gKn_76 : ms_kd (pw_gam.take 77) 76 = 8 := by decide +kernel
theorem gKn_77 : ms_kd (pw_gam.take 78) 77 = 9 := by decide +kernel
theorem gKn_78 : ms_kd (pw_gam.take 79) 78 = 2 := by decide +kernel
theorem gKn_81 : ms_kd (pw_gam.take 82) 81 = 10 := by decide +kernel
theorem gKn_83 : ms_kd (pw_gam.take 84) 83 = 1 := by decide +kernel
theorem gKn_87 : ms_kd (pw_gam.take 88) 87 = 0 := by decide +kernel
theorem gKn_89 : ms_kd (pw_gam.take 90) 89 = 5 := by decide +kernel
theorem gKn_91 : ms_kd (pw_gam.take 92) 91 = 4 := by decide +kernel
theorem gKn_95 : ms_kd (pw_gam.take 96) 95 = 4 := by decide +kernel
theorem gKn_99 : ms_kd (pw_gam.take 100) 99 = 4 := by decide +kernel
