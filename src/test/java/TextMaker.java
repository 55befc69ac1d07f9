import java.nio.charset.StandardCharsets;
import java.util.ArrayList;
import java.util.List;
import java.util.Random;

/** Texts by chance: most can be read, some have a fault of some kind. */
final class TextMaker {
    private final Random chance;
    private final StringBuilder text = new StringBuilder();
    private final List<String> names = new ArrayList<>();

    private TextMaker(Random chance) {
        this.chance = chance;
    }

    static byte[] make(Random chance) {
        TextMaker maker = new TextMaker(chance);
        maker.write();
        if (chance.nextInt(3) == 0) {
            maker.spoil();
        }
        byte[] bytes = maker.text.toString().getBytes(StandardCharsets.ISO_8859_1);
        return bytes.length <= 500 ? bytes : java.util.Arrays.copyOf(bytes, 500);
    }

    private boolean rarely() {
        return chance.nextInt(60) == 0;
    }

    private void gap() {
        int kind = chance.nextInt(6);
        text.append(kind == 0 ? " " : kind == 1 ? "\n " : "");
    }

    private String newName() {
        if (rarely()) {
            return names.isEmpty() ? "want" : known();
        }
        String name = "";
        do {
            name = "";
            for (int i = rarely() ? 4 : chance.nextInt(3); i >= 0; i--) {
                name += (char) ('a' + chance.nextInt(26));
            }
        } while (names.contains(name));
        return name;
    }

    private String known() {
        if (rarely()) {
            return "zzzz";
        }
        int back = chance.nextInt(2) == 0 ? chance.nextInt(2) : chance.nextInt(names.size());
        return names.get(Math.max(0, names.size() - 1 - back));
    }

    private void write() {
        text.append("base");
        for (int bases = rarely() ? 5 : 1 + chance.nextInt(4); bases > 0; bases--) {
            String name = newName();
            text.append(' ').append(name);
            names.add(name);
        }
        gap();
        text.append(';');
        boolean many = chance.nextInt(4) == 0;
        if (chance.nextInt(4) == 0) {
            doublings();
        }
        for (int left = chance.nextInt(many ? 62 : 8); left > 0 && text.length() < 470; left--) {
            statement(many);
        }
        gap();
        text.append("want");
        for (int wants = rarely() ? 5 : 1 + chance.nextInt(4); wants > 0; wants--) {
            text.append(' ').append(known());
        }
        text.append(';');
        gap();
    }

    /** Powers of 2 of the name right ahead, so that exponents come near to the greatest one. */
    private void doublings() {
        for (int left = 44 + chance.nextInt(12); left > 0;) {
            int more = Math.min(left, 1 + chance.nextInt(13));
            String name = newName();
            text.append(name).append('=').append(names.get(names.size() - 1)).append('^').append(1 << more).append(';');
            names.add(name);
            left -= more;
        }
    }

    private void statement(boolean many) {
        String name = newName();
        text.append(name);
        gap();
        text.append('=');
        gap();
        text.append(known());
        gap();
        if (chance.nextInt(many ? 30 : 2) != 0) {
            text.append('*');
            gap();
            text.append(known());
        } else {
            int digits = chance.nextInt(5);
            text.append('^');
            gap();
            text.append(rarely() ? chance.nextInt(2) : rarely() ? 10_000 + chance.nextInt(99) : 2 + chance.nextInt(
                    new int[] {8, 80, 800, 9998, 30}[digits]));
        }
        gap();
        text.append(';');
        names.add(name);
    }

    /** One to three bytes are put in, taken out or told anew. */
    private void spoil() {
        String signs = "abwz059;=*^ \nA\t\u00ff\u0080\u0000+";
        for (int times = chance.nextInt(3); times >= 0 && text.length() > 1; times--) {
            int at = chance.nextInt(text.length());
            char sign = signs.charAt(chance.nextInt(signs.length()));
            switch (chance.nextInt(4)) {
                case 0:
                    text.insert(at, sign);
                    break;
                case 1:
                    text.deleteCharAt(at);
                    break;
                case 2:
                    text.setCharAt(at, sign);
                    break;
                default:
                    text.setLength(chance.nextInt(8) == 0 ? at : text.length());
            }
        }
    }
}
