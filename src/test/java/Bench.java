/** A checker under test, with texts written as strings and normal forms read as strings. */
final class Bench {
    private static int wrong = 0;
    private static int checks = 0;

    final JudgedTerms terms = new JudgedTerms();

    Bench() {
    }

    /** A checker with these declarations. */
    Bench(String laws) {
        text(laws);
        int items = terms.laws();
        if (items < 0) {
            due("laws " + laws, items, 0);
        }
    }

    static void due(String what, long got, long want) {
        checks++;
        if (got != want) {
            wrong++;
            System.out.println(what + ": answered " + got + ", due is " + want);
        }
    }

    static void due(String what, String got, String want) {
        checks++;
        if (!got.equals(want)) {
            wrong++;
            System.out.println(what + ": answered " + got + ", due is " + want);
        }
    }

    /** Ends the test, with exit code 1 if an answer was wrong. */
    static void end(String name) {
        System.out.println(name + ": " + checks + " checks, " + wrong + " wrong");
        if (wrong != 0) {
            System.exit(1);
        }
    }

    Bench text(String bytes) {
        terms.clear();
        for (int i = 0; i < bytes.length(); i++) {
            terms.type(bytes.charAt(i));
        }
        return this;
    }

    int laws(String bytes) {
        return text(bytes).terms.laws();
    }

    int enters(String bytes) {
        return text(bytes).terms.enters();
    }

    int sees(String bytes, int like) {
        return text(bytes).terms.sees(like);
    }

    int same(String bytes) {
        return text(bytes).terms.same();
    }

    /** The normal form that given() tells, or "!" and the fault. */
    String given(String bytes) {
        text(bytes);
        int many = terms.given(-1);
        if (many < 0) {
            return "!" + (-10 - many);
        }
        StringBuilder form = new StringBuilder();
        for (int k = 0; k < many; k++) {
            form.append((char) terms.given(k));
        }
        due("given behind the end of " + bytes, terms.given(many), JudgedTerms.NONE);
        return form.toString();
    }

    /** The normal form of the type that found() tells, or "!" and the fault. */
    String found(String bytes) {
        text(bytes);
        int many = terms.found(-1);
        if (many < 0) {
            return "!" + (-10 - many);
        }
        StringBuilder form = new StringBuilder();
        for (int k = 0; k < many; k++) {
            form.append((char) terms.found(k));
        }
        due("found behind the end of " + bytes, terms.found(many), JudgedTerms.NONE);
        return form.toString();
    }

    String entry(int e, int part) {
        StringBuilder form = new StringBuilder();
        for (int k = 0; k <= 50 && terms.entry(e, part, k) > 0; k++) {
            form.append((char) terms.entry(e, part, k));
        }
        return form.toString();
    }

    String law(int kind, int which) {
        StringBuilder form = new StringBuilder();
        for (int k = 0; k <= 50 && terms.law(kind, which, k) > 0; k++) {
            form.append((char) terms.law(kind, which, k));
        }
        return form.toString();
    }

    /** All that can be asked without changing anything, to see that an error changed nothing. */
    String state() {
        StringBuilder all = new StringBuilder();
        for (int what = 0; what < 6; what++) {
            all.append(terms.count(what)).append(' ');
        }
        for (int i = 0; i < 4; i++) {
            all.append(law(0, i)).append(' ').append(law(1, i)).append(' ');
        }
        for (int e = 0; e < terms.count(2); e++) {
            all.append(entry(e, 0)).append(':').append(entry(e, 1)).append(' ');
        }
        return all.append(terms.unseen()).toString();
    }
}
