import java.util.Random;

/**
 * Writes texts over a family A (with B over it, a, a binary function b, and c that gives B of its
 * argument) whose normal forms grow: entries that are functions are applied to one another. Other
 * declarations have types that bring many variables into scope.
 */
final class Grower {
    static final String LAWS = "f;fA;kA;kPAPAA;kPAB0;";
    private static final String[] WIDE = {
        "f;kPAPAPAPAPAPAPAPAA;kA;k1;", "f;kSASASASASASASASAA;kA;kPAA;",
        "f;kSAPASAPASAPASAPAA;kA;kPAA;", "f;kPASAPASAPASAPASAA;kA;kPAA;",
    };

    private final Random random;
    private final Model model;

    Grower(Random random, Model model) {
        this.random = random;
        this.model = model;
    }

    private int dice(int sides) {
        return random.nextInt(sides);
    }

    String laws() {
        return LAWS;
    }

    String wideLaws() {
        return WIDE[dice(WIDE.length)];
    }

    /** A type and a term of it, mostly. */
    String given() {
        switch (dice(11)) {
            case 0:
            case 1:
                return "A" + element(0, false, 4);
            case 2:
            case 3:
            case 4:
                return "PAA" + function(0, 4);
            case 5:
                return "B" + element(0, false, 3) + ".c" + element(0, false, 3);
            case 6:
                return "SAA," + element(0, false, 3) + element(0, false, 3);
            case 7:
                return "PSAASAA\\," + onPair(3) + onPair(3);
            case 8:
                return "SPAAB" + element(1, true, 5) + "," + function(0, 2) + ".c"
                    + element(0, false, 2);
            case 9:
                return "SPAASB" + element(1, true, 4) + "1," + function(0, 1) + ",.c"
                    + element(0, false, 1) + "*";
            default:
                return "PAPAA\\\\" + element(2, false, 4);
        }
    }

    String same() {
        String start = dice(2) == 0 ? "A" : "PAA";
        int n = start.length();
        return start + (n == 1 ? element(0, false, 3) + element(0, false, 3)
            : function(0, 3) + function(0, 3));
    }

    String found() {
        switch (dice(6)) {
            case 0:
                return ".c" + element(0, false, 4);
            case 1:
                return ">:SAB0," + element(0, false, 3) + ".c" + element(0, false, 3);
            case 2:
                return ">:SPAAB" + element(1, true, 4) + "," + function(0, 2) + ".c"
                    + element(0, false, 2);
            case 3:
                return ".:PAPB0" + (dice(2) == 0 ? "B0" : "1") + "\\\\" + dice(2)
                    + element(0, false, 2);
            case 4:
                return ".:PASB0B0\\,.c0.c0" + element(0, false, 3);
            default:
                return element(0, false, 4);
        }
    }

    /** A term under many variables, for the wide laws. */
    String wide() {
        int n = dice(11);
        StringBuilder s = new StringBuilder(dice(3) == 0 ? ":" : "");
        for (int i = 0; i < n; i++) {
            s.append("P1");
        }
        s.append(dice(2) == 0 ? "A" : "1");
        for (int i = 0; i < n; i++) {
            s.append('\\');
        }
        int many = dice(9);
        for (int i = 0; i < many; i++) {
            s.append(".<>".charAt(dice(dice(4) == 0 ? 3 : 1)));
        }
        s.append(dice(4) == 0 ? "b" : "a");
        for (int i = 0; i < many; i++) {
            s.append("b");
        }
        return s.toString();
    }

    private String onPair(int fuel) {
        if (fuel == 0 || dice(3) == 0) {
            return dice(2) == 0 ? "<0" : ">0";
        }
        return "..b" + onPair(fuel - 1) + onPair(fuel - 1);
    }

    private String entryOf(String type) {
        for (int i = 0; i < 6 && !model.entries.isEmpty(); i++) {
            int e = dice(model.entries.size());
            if (model.entries.get(e).typeForm().equals(type)) {
                return "#" + e;
            }
        }
        return "";
    }

    private String function(int n, int fuel) {
        String entry = entryOf("PAA");
        if (dice(3) == 0 && !entry.isEmpty()) {
            return entry;
        }
        return dice(6) == 0 ? ".b" + element(n, false, fuel - 1)
            : "\\" + element(n + 1, false, fuel);
    }

    /** A term of type A where n variables are in scope; those of type A, but perhaps the first. */
    private String element(int n, boolean firstIsFunction, int fuel) {
        int from = firstIsFunction ? 1 : 0;
        if (fuel > 0 && firstIsFunction && dice(4) != 0) {
            return ".0" + element(n, true, dice(4) == 0 ? fuel - 1 : fuel);
        }
        String function = entryOf("PAA");
        if (fuel > 0 && !function.isEmpty() && dice(3) != 0) {
            return "." + function + element(n, firstIsFunction, fuel - 1);
        }
        String pairs = entryOf("PSAASAA");
        if (fuel > 0 && !pairs.isEmpty() && dice(3) == 0) {
            return (dice(2) == 0 ? "<." : ">.") + pairs + "," + element(n, firstIsFunction, fuel - 2)
                + element(n, firstIsFunction, fuel - 2);
        }
        if (fuel > 0 && dice(3) != 0) {
            return "..b" + element(n, firstIsFunction, fuel - 1)
                + element(n, firstIsFunction, fuel - 1);
        }
        String entry = entryOf("A");
        if (!entry.isEmpty() && dice(2) == 0) {
            return entry;
        }
        return n > from && dice(5) != 0 ? String.valueOf(from + dice(n - from)) : "a";
    }
}
