/** A checker under test, with texts written as strings and normal forms read as strings. */
final class Bench {
    /** A term of A that has 29 signs, with the declarations of sizes(). */
    static final String LEAVES_8 = "..b..b..baa..baa..b..baa..baa";

    private static int wrong = 0;
    private static int checks = 0;
    /** The sentence of the document that is being tested, if the test named one. */
    private static String sentence = "";

    final JudgedTerms terms = new JudgedTerms();

    Bench() {
    }

    /** A checker with these declarations. */
    Bench(String laws) {
        text(laws);
        int items = terms.laws();
        if (items < 0) {
            due("laws " + laws, items, 0);
        }
    }

    /** Tests one sentence of the document; a call that throws breaks it, too. */
    static void test(String words, Runnable checksOfIt) {
        sentence = words + ": ";
        try {
            checksOfIt.run();
        } catch (RuntimeException | StackOverflowError e) {
            wrong++;
            System.out.println(sentence + "threw " + e);
        }
        sentence = "";
    }

    /**
     * A checker whose entries are terms of A with 29, 47, 48, 49 and 50 signs. It has A; B with an
     * index of A; a: A; b: a binary function; c: a pair; d: a function whose type grows with its
     * argument, though its value does not.
     */
    static Bench sizes() {
        Bench b = new Bench("f;fA;kA;kPAPAA;kSAA;kPAPB01;");
        b.enters("A" + LEAVES_8);
        b.enters("A..b#0..b..baa..b<c<c");
        b.enters("A..b#0..b..b<ca..b<c<c");
        b.enters("A..b#0..b..baa..b..baaa");
        b.enters("A..b#0..b..baa..b..baa<c");
        int[] many = {29, 47, 48, 49, 50};
        for (int e = 0; e < many.length; e++) {
            due("signs of entry " + e, b.entry(e, 1).length(), many[e]);
        }
        return b;
    }

    static void due(String what, long got, long want) {
        due(what, String.valueOf(got), String.valueOf(want));
    }

    static void due(String what, String got, String want) {
        checks++;
        if (!got.equals(want)) {
            wrong++;
            System.out.println(sentence + what + ": answered " + got + ", due is " + want);
        }
    }

    /** Ends the test, with exit code 1 if an answer was wrong. */
    static void end(String name) {
        System.out.println(name + ": " + checks + " checks, " + wrong + " wrong");
        if (wrong != 0) {
            System.exit(1);
        }
    }

    Bench text(String bytes) {
        terms.clear();
        for (int i = 0; i < bytes.length(); i++) {
            terms.type(bytes.charAt(i));
        }
        return this;
    }

    int laws(String bytes) {
        return text(bytes).terms.laws();
    }

    int enters(String bytes) {
        return text(bytes).terms.enters();
    }

    int sees(String bytes, int like) {
        return text(bytes).terms.sees(like);
    }

    int same(String bytes) {
        return text(bytes).terms.same();
    }

    /** The normal form that given() tells, or "!" and the fault. */
    String given(String bytes) {
        text(bytes);
        int many = terms.given(-1);
        if (many < 0) {
            return "!" + (-10 - many);
        }
        StringBuilder form = new StringBuilder();
        for (int k = 0; k < many; k++) {
            form.append((char) terms.given(k));
        }
        due("given behind the end of " + bytes, terms.given(many), JudgedTerms.NONE);
        return form.toString();
    }

    /** The normal form of the type that found() tells, or "!" and the fault. */
    String found(String bytes) {
        text(bytes);
        int many = terms.found(-1);
        if (many < 0) {
            return "!" + (-10 - many);
        }
        StringBuilder form = new StringBuilder();
        for (int k = 0; k < many; k++) {
            form.append((char) terms.found(k));
        }
        due("found behind the end of " + bytes, terms.found(many), JudgedTerms.NONE);
        return form.toString();
    }

    /** Tests that given() tells this normal form, or "!" and the fault. */
    void givenIs(String bytes, String want) {
        due("given " + bytes, given(bytes), want);
    }

    void foundIs(String bytes, String want) {
        due("found " + bytes, found(bytes), want);
    }

    String entry(int e, int part) {
        StringBuilder form = new StringBuilder();
        for (int k = 0; k <= 50 && terms.entry(e, part, k) > 0; k++) {
            form.append((char) terms.entry(e, part, k));
        }
        return form.toString();
    }

    String law(int kind, int which) {
        StringBuilder form = new StringBuilder();
        for (int k = 0; k <= 50 && terms.law(kind, which, k) > 0; k++) {
            form.append((char) terms.law(kind, which, k));
        }
        return form.toString();
    }

    /** All that can be asked without changing anything, to see that an error changed nothing. */
    String state() {
        StringBuilder all = new StringBuilder();
        for (int what = 0; what < 6; what++) {
            all.append(terms.count(what)).append(' ');
        }
        for (int i = 0; i < 4; i++) {
            all.append(law(0, i)).append(' ').append(law(1, i)).append(' ');
        }
        for (int e = 0; e < terms.count(2); e++) {
            all.append(entry(e, 0)).append(':').append(entry(e, 1)).append(' ');
        }
        return all.append(terms.unseen()).toString();
    }
}
