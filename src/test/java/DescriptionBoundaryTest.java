/**
 * The section 'Description' of the document, sentence by sentence: each sentence that names a
 * boundary case has a test of its own, which bears its words.
 */
public final class DescriptionBoundaryTest {
    private static final int BAD = JudgedTerms.BAD, STATE = JudgedTerms.STATE,
        FULL = JudgedTerms.FULL, NONE = JudgedTerms.NONE;

    /** A; B with an index of A; a: A; b: a function that gives B of its argument. */
    private static final String BASE = "f;fA;kA;kPAB0;";
    /** A; B with an index of A; a, b: A; c: B of a. */
    private static final String TWO = "f;fA;kA;kA;kBa;";
    /** Ten variables, as many as can be in scope. */
    private static final String TEN_S = "SASASASASASASASASASA", TEN_P = "PAPAPAPAPAPAPAPAPAPA";
    private static final String TEN_LAMBDAS = "\\\\\\\\\\\\\\\\\\\\";

    public static void main(String[] args) {
        typesAndTerms();
        checking();
        normalForms();
        signsTooMany();
        variablesTooMany();
        requiredTypes();
        theText();
        badBytes();
        formsThatDoNotFit();
        faultsOfParts();
        orderOfFaults();
        endsTooEarly();
        returnValues();
        Bench.end("DescriptionBoundaryTest");
    }

    private static void typesAndTerms() {
        Bench.test("At each place some variables are in scope, at most 10", () -> {
            Bench b = new Bench("f;kA;");
            b.givenIs(TEN_S + "A", "!21");
            b.givenIs(TEN_S + "SAA", "!20");
            b.givenIs(TEN_P + "A" + TEN_LAMBDAS + "9", TEN_LAMBDAS + "9");
            b.givenIs(TEN_P + "A" + TEN_LAMBDAS + "\\", "!31");
        });
        Bench.test("They are numbered from the outermost to the innermost one, from 0 on", () -> {
            Bench b = new Bench("f;f;f;");
            b.givenIs("PAPBPCA\\\\\\0", "\\\\\\0");
            b.givenIs("PAPBPCB\\\\\\1", "\\\\\\1");
            b.givenIs("PAPBPCC\\\\\\2", "\\\\\\2");
            b.givenIs("PAPBPCC\\\\\\0", "!10");
            b.givenIs("PAPBPCA\\\\\\2", "!10");
        });
        Bench.test("so if n variables are in scope, the next one gets the number n", () -> {
            Bench b = new Bench("f;f;");
            b.givenIs("PASAB\\,00", "!8");
            b.givenIs("PAPBB\\\\1", "\\\\1");
            b.givenIs("PAPBB\\\\2", "!7");
            b.givenIs("SPAAPBB,\\0\\0", ",\\0\\0");
            b.givenIs("SPAAPBB,\\0\\1", "!11");
        });
        Bench.test("There are at most three families, written A, B, C", () -> {
            Bench b = new Bench("f;f;f;");
            b.givenIs("A", "!1");
            b.givenIs("B", "!1");
            b.givenIs("C", "!1");
            b.givenIs("D", "!0");
            b.givenIs("@", "!0");
        });
        Bench.test("and at most four constants, written a, b, c, d", () -> {
            Bench b = new Bench("k1;k1;k1;k1;");
            b.givenIs("1a", "*");
            b.givenIs("1d", "*");
            b.givenIs("1e", "!1");
            b.givenIs("1`", "!1");
        });
        Bench.test("in the order in which they were declared", () -> {
            Bench b = new Bench("f;k1;f;kB;kA;");
            b.foundIs("a", "1");
            b.foundIs("b", "B");
            b.foundIs("c", "A");
        });
        Bench.test("There are up to six entries (stored terms), numbered from 0", () -> {
            Bench b = new Bench("f;kA;kA;");
            for (int e = 0; e < 6; e++) {
                b.givenIs("A#" + e, "!2");
                Bench.due("enters", b.enters(e % 2 == 0 ? "Aa" : "Ab"), e + 1);
                b.givenIs("A#" + e, e % 2 == 0 ? "a" : "b");
            }
            b.givenIs("A#6", "!2");
            b.givenIs("A#9", "!2");
            b.givenIs("A#0", "a");
        });
        Bench.test("a family that has no index", () -> {
            Bench b = new Bench(BASE);
            b.givenIs("Aa", "a");
            b.givenIs("Aaa", "!2");
        });
        Bench.test("or a family that has an index, followed by a term of its index type", () -> {
            Bench b = new Bench(BASE);
            b.givenIs("Ba.ba", ".ba");
            b.givenIs("B", "!1");
            b.givenIs("B.ba", "!1");
            b.givenIs("B*", "!1");
        });
        Bench.test("S T U: in U one more variable is in scope", () -> {
            Bench b = new Bench(BASE);
            b.foundIs(":SAB0,a.ba", "SAB0");
            b.givenIs("SB0A", "!2");
            b.givenIs("SAB1", "!3");
        });
        Bench.test("P T U: in U one more variable is in scope", () -> {
            Bench b = new Bench(BASE);
            b.givenIs("PAB0b", "\\.b0");
            b.givenIs("PB0A", "!2");
            b.givenIs("PAB1", "!3");
        });
        Bench.test("T must be a data type, that is, there is no P in its normal form", () -> {
            Bench b = new Bench("f;fA;kA;");
            b.givenIs("P1A\\a", "\\a");
            b.givenIs("PAA\\a", "\\a");
            b.givenIs("PBaA\\a", "\\a");
            b.givenIs("PSASABaA\\a", "\\a");
            b.givenIs("PPAAA\\a", "!1");
            b.givenIs("PSPAAAA\\a", "!1");
            b.givenIs("PSASAPAAA\\a", "!1");
            b.givenIs("PAPPAAA", "!3");
            b.givenIs("SPAAA,\\0a", ",\\0a");
            b.givenIs("PAPAA\\\\a", "\\\\a");
            b.givenIs("PB.:PAA\\0aA\\a", "\\a");
        });
        Bench.test("a digit: the variable with this number", () -> {
            Bench b = new Bench("f;kA;");
            b.givenIs("PAA\\0", "\\0");
            b.givenIs("PAA\\1", "!4");
            b.givenIs("A0", "!1");
            b.givenIs("A9", "!1");
        });
        Bench.test("The type of the terms of the first two lines is inferred", () -> {
            Bench b = new Bench("f;fA;kSAA;kPAB0;");
            b.enters("PAB0b");
            b.foundIs("a", "SAA");
            b.foundIs("#0", "PAB0");
            b.foundIs(":1*", "1");
            b.foundIs(".b<a", "B<a");
            b.foundIs("<a", "A");
            b.foundIs(">a", "A");
        });
        Bench.test("The terms of the third line may stand only where a type is required", () -> {
            Bench b = new Bench("f;kA;");
            for (String front : new String[] {"", ".", "<", ">"}) {
                b.foundIs(front + "*", "!" + front.length());
                b.foundIs(front + ",aa", "!" + front.length());
                b.foundIs(front + "\\a", "!" + front.length());
            }
            b.foundIs(":1*", "1");
            b.foundIs(":S11,**", "S11");
            b.foundIs(":P11\\*", "P11");
        });
    }

    private static void checking() {
        Bench.test(", t u: t is checked against T1, then u against U with t", () -> {
            Bench b = new Bench(TWO);
            b.givenIs("SAB0,ac", ",ac");
            b.givenIs("SAB0,bc", "!6");
            b.givenIs("SAB0,cc", "!5");
            b.givenIs("SASB0B0,a,cc", ",a,cc");
            b.givenIs("SASB0B0,b,cc", "!10");
        });
        Bench.test("\\ t: with one more variable in scope, of type T1, t is checked against U", () -> {
            Bench b = new Bench(TWO);
            b.givenIs("PAPB0B0\\\\1", "\\\\1");
            b.givenIs("PAPB0B0\\\\0", "!9");
            b.givenIs("PAPB0Ba\\\\1", "!9");
            b.givenIs("PAPB0Ba\\\\c", "\\\\c");
        });
        Bench.test("For any other term the type is inferred; it must be the same type as T", () -> {
            Bench b = new Bench(TWO);
            b.givenIs("Bac", "c");
            b.givenIs("Bbc", "!2");
            b.givenIs("Ac", "!1");
            b.givenIs("B.:PAA\\0ac", "c");
            b.givenIs("B.:PAA\\0bc", "!9");
        });
        Bench.test(": T t : t is checked against T; the type is T", () -> {
            Bench b = new Bench(TWO);
            b.foundIs(":Bac", "Ba");
            b.foundIs(":Bbc", "!3");
            b.foundIs(":B:Aac", "Ba");
        });
        Bench.test(". t u : it must be a function type; u is checked against T", () -> {
            Bench b = new Bench(BASE);
            b.foundIs(".ba", "Ba");
            b.foundIs(".b.ba", "!2");
            b.foundIs(".aa", "!1");
            b.foundIs(".:SAA,aaa", "!1");
        });
        Bench.test(". t u : the type is U with u", () -> {
            Bench b = new Bench(TWO);
            b.foundIs(".:PAPB0B0\\\\1a", "PBaBa");
            b.foundIs(".:PAPB0B0\\\\1b", "PBbBb");
        });
        Bench.test("< t : it must be a pair type S T U; the type is T", () -> {
            Bench b = new Bench(TWO);
            b.foundIs("<:SAB0,ac", "A");
            b.foundIs("<a", "!1");
            b.foundIs("<:PAA\\0", "!1");
        });
        Bench.test("> t : likewise; the type is U with < t", () -> {
            Bench b = new Bench("f;fA;kSAB0;");
            b.foundIs(">a", "B<a");
            b.foundIs(">:SAB0,<a>a", "B<a");
            b.foundIs(">>a", "!1");
        });
    }

    private static void normalForms() {
        Bench.test("of the unit type: *", () -> {
            Bench b = new Bench("k1;kP11;kS11;");
            b.givenIs("1a", "*");
            b.givenIs("1.ba", "*");
            b.givenIs("1>c", "*");
            b.givenIs("P11\\0", "\\*");
        });
        Bench.test("of a type S T U: , then the normal forms of its components", () -> {
            Bench b = new Bench("f;kSASA1;");
            b.givenIs("SASA1a", ",<a,<>a*");
            b.givenIs("SA1>a", ",<>a*");
        });
        Bench.test("of a type P T U: \\ then the term applied to a new variable", () -> {
            Bench b = new Bench("f;kPAPAA;kA;");
            b.givenIs("PAPAAa", "\\\\..a01");
            b.givenIs("PAA.ab", "\\..ab0");
        });
        Bench.test("which has the number of variables in scope as its number", () -> {
            Bench b = new Bench("f;kPAPAA;kA;");
            b.givenIs("P1PAPAA\\a", "\\\\\\..a12");
            b.givenIs("S1PAPAA,*a", ",*\\\\..a01");
            b.givenIs("PAPAA\\.a0", "\\\\..a01");
            b.givenIs("PAP1PAA\\\\.a0", "\\\\\\..a02");
        });
        Bench.test("functions written with \\ are applied to their arguments", () -> {
            Bench b = new Bench("f;kPAPAA;kA;");
            b.givenIs("A.:PAA\\..a00b", "..abb");
            b.givenIs("A..:PAPAA\\\\1b..abb", "..abb");
            b.givenIs("A..:PAPAA\\\\0b..abb", "b");
        });
        Bench.test("components of pairs written with a comma are taken", () -> {
            Bench b = new Bench("f;kA;kA;");
            b.givenIs("A<:SAA,ab", "a");
            b.givenIs("A>:SAA,ab", "b");
            b.givenIs("A<>:SASAA,a,ba", "b");
        });
        Bench.test("annotations (:) and entries are replaced by their terms", () -> {
            Bench b = new Bench("f;kPAPAA;kA;");
            b.givenIs("A:A:Ab", "b");
            b.enters("PAA\\..a00");
            b.givenIs("A.#0b", "..abb");
            b.givenIs("A.#0.#0b", "..a..abb..abb");
            b.givenIs("PAA#0", "\\..a00");
            b.givenIs("P1PAA\\#0", "\\\\..a11");
        });
        Bench.test("What is left is a variable or a constant; or . < > before it", () -> {
            Bench b = new Bench("f;kSPASAAA;kA;");
            b.givenIs("PAA\\0", "\\0");
            b.givenIs("Ab", "b");
            b.givenIs("A<.<ab", "<.<ab");
            b.givenIs("A>.<ab", ">.<ab");
            b.givenIs("A>a", ">a");
            b.givenIs("SAA.<a>a", ",<.<a>a>.<a>a");
        });
        Bench.test("and the normal form (by its type) of the argument", () -> {
            Bench b = new Bench("f;kSA1;kPSA1A;kA;");
            b.givenIs("A.ba", ".b,<a*");
            b.givenIs("A.b,c>a", ".b,c*");
        });
        Bench.test("In the normal form of a type all terms are in normal form", () -> {
            Bench b = new Bench("f;fA;fSA1;kA;kC,a*;kSA1;");
            b.foundIs(":PB.:PAA\\0aA\\a", "PBaA");
            b.foundIs(":PCcA\\a", "PC,<c*A");
            Bench.due("law", b.law(1, 1), "C,a*");
            Bench.due("enters", b.enters("PB.:PAA\\0aA\\a"), 1);
            Bench.due("its type", b.entry(0, 0), "PBaA");
        });
        Bench.test("Two types are the same if their normal forms are equal", () -> {
            Bench b = new Bench("f;fSA1;kSA1;kBa;");
            b.givenIs("Bab", "b");
            b.givenIs("B,<a*b", "b");
            b.givenIs("B,<a>ab", "b");
            b.givenIs("B,<:SA1a*b", "b");
            b.givenIs("PSA1B0\\b", "!7");
        });
        Bench.test("or two terms of the same type, are the same if their normal forms are equal", () -> {
            Bench b = new Bench("f;kA;kA;kPAA;kP11;");
            Bench.due("variables", b.same("Aab"), 0);
            Bench.due("itself", b.same("Aaa"), 1);
            Bench.due("eta", b.same("PAAc\\.c0"), 1);
            Bench.due("not eta", b.same("PAAc\\.c.c0"), 0);
            Bench.due("unit", b.same("P11d\\*"), 1);
            Bench.due("pair", b.same("SAA,ab,ba"), 0);
            Bench.due("lengths", b.same("A.caa"), 0);
        });
    }

    private static void signsTooMany() {
        Bench.test("A type is too large if it has more than 50 signs: a family", () -> {
            Bench b = Bench.sizes();
            b.givenIs("B#3", "!3");
            b.givenIs("B#4", "!0");
        });
        Bench.test("A type is too large if it has more than 50 signs: S and P", () -> {
            Bench b = Bench.sizes();
            b.givenIs("SB#11", "!5");
            b.givenIs("SB#21", "!0");
            b.givenIs("S1B#1", "!5");
            b.givenIs("S1B#2", "!0");
            b.givenIs("PB#11", "!5");
            b.givenIs("PB#21", "!0");
        });
        Bench.test("a type that is too large: the index of its first byte", () -> {
            Bench b = Bench.sizes();
            b.givenIs("S1B#4", "!2");
            b.givenIs("S1S1B#1", "!0");
            b.givenIs("1:B#4", "!2");
            b.foundIs(":S1B#2", "!1");
            b.givenIs("SB#4X", "!1");
        });
        Bench.test("A term is too large if it has more than 50 signs: a constant or variable", () -> {
            // Pairs in pairs: each component's sign < or > is written in every leaf behind it.
            String fifty = "SASASASASASASAA";
            String more = "SAS1SASASASASASA1";
            Bench b = new Bench("f;k" + fifty + ";");
            Bench.due("signs", b.given(fifty + "a").length(), 50);
            b.givenIs("P" + fifty + "A\\<0", "\\<0");
            b = new Bench("f;k" + more + ";");
            b.givenIs(more + "a", "!17");
            b.foundIs("<a", "!1");
            b.givenIs("P" + more + "A\\<0", "!21");
        });
        Bench.test("A term whose type is inferred, if the term is too large: its first byte", () -> {
            Bench b = Bench.sizes();
            Bench.due("50 signs", b.given("A#4").length(), 50);
            b.givenIs("A..b#0..b..baa..b..ba<c<c", "!1");
            b.foundIs("..b#0..b..baa..b..ba<c<c", "!0");
            b.givenIs("A..ba..b#0..b..baa..b..ba<c<c", "!5");
            Bench.due("50 signs", b.given("PAA.b..b#0..b..baa..baa").length(), 50);
            b.givenIs("PAA.b..b#0..b..baa..ba<c", "!3");
            b.givenIs("A..b#3a", "!2");
        });
        Bench.test("A term whose type is inferred, if that type is too large: its first byte", () -> {
            Bench b = Bench.sizes();
            Bench.due("50 signs", b.found(".d#1").length(), 50);
            b.foundIs(".d#2", "!0");
            b.foundIs("..d#2*", "!1");
            b.givenIs("A.d#2", "!1");
        });
        Bench.test("a function that is checked against a type, if it is too large: its first byte", () -> {
            Bench b = Bench.sizes();
            Bench.due("50 signs", b.given("P1A\\#3").length(), 50);
            b.givenIs("P1A\\#4", "!3");
            b.givenIs("P1P1A\\\\#3", "!5");
            Bench.due("49 and 2 signs", b.given("P1P1A\\\\#2").length(), 50);
        });
        Bench.test("a pair that is checked against a type, if it is too large: its first byte", () -> {
            Bench b = Bench.sizes();
            Bench.due("50 signs", b.given("S1A,*#2").length(), 50);
            b.givenIs("S1A,*#3", "!3");
            Bench.due("50 signs", b.given("SA1,#2*").length(), 50);
            b.givenIs("SA1,#3*", "!3");
            b.givenIs("S1S1A,*,*#2", "!5");
        });
    }

    private static void variablesTooMany() {
        Bench.test("an eleventh variable would be in scope: in an inferred function type", () -> {
            Bench b = new Bench("f;kPAPAPAPAPAPAPAPAA;kA;");
            b.givenIs("P1P1A\\\\........abbbbbbbb", "\\\\........abbbbbbbb");
            b.givenIs("P1P1P1A\\\\\\........abbbbbbbb", "!18");
            b.givenIs("P1P1P1A\\\\\\b", "\\\\\\b");
        });
        Bench.test("an eleventh variable would be in scope: in an inferred pair type", () -> {
            Bench b = new Bench("kS1S1S1S1S1S1S1S11;");
            b.givenIs("P1P11\\\\<a", "\\\\*");
            b.givenIs("P1P1P11\\\\\\<a", "!11");
            b.givenIs("P1P1P11\\\\\\*", "\\\\\\*");
        });
        Bench.test("an eleventh variable would be in scope: in a term without an annotation", () -> {
            Bench b = new Bench("f;kPAPAPAPAPAPAPAPAA;");
            b.givenIs("P1P1PAPAPAPAPAPAPAPAA\\\\a", TEN_LAMBDAS + "........a23456789");
            b.givenIs("SP1P1PAPAPAPAPAPAPAPAA1,\\\\a*", "," + TEN_LAMBDAS + "........a23456789*");
        });
        Bench.test("an eleventh variable would be in scope: behind .", () -> {
            Bench b = new Bench("f;fA;kPAA;kA;");
            // The type of a has a variable of its own, the type of b has none.
            b.givenIs("S1S1S1S1S1S1S1S1S1B.ab,", "!23");
            b.givenIs("S1S1S1S1S1S1S1S1S1S1B.ab,", "!22");
            b.givenIs("S1S1S1S1S1S1S1S1S1S1Bb,", "!23");
            b.givenIs("P1P1P1P1P1P1P1P1PAA\\\\\\\\\\\\\\\\\\.a8", "\\\\\\\\\\\\\\\\\\.a8");
        });
        Bench.test("counting those that are in scope where it stands", () -> {
            Bench b = new Bench("f;f1;kP1P1P1P1P1P1P1P1P11;k1;");
            b.foundIs("a", "P1P1P1P1P1P1P1P1P11");
            b.givenIs("P11\\.........abbbbbbbbb", "\\*");
            b.givenIs("P1P11\\\\.........abbbbbbbbb", "!16");
            b.givenIs("P1B.........abbbbbbbbb\\*", "!23");
            b.givenIs("P1P1B.........abbbbbbbbb\\\\*", "!14");
        });
        Bench.test("an entry has no more variables in scope than its place", () -> {
            Bench b = new Bench("");
            b.enters("P1P1P1P1P1P1P1P1P11\\\\\\\\\\\\\\\\\\*");
            b.givenIs("P11\\.........#0*********", "\\*");
            b.givenIs("P1P11\\\\.........#0*********", "!16");
        });
    }

    private static void requiredTypes() {
        Bench.test("not a type that is merely required, as U with t for the second component", () -> {
            Bench b = Bench.sizes();
            // The type that is required of the second component has 63 signs.
            b.givenIs("SAPB0PB01,#0\\\\*", "," + Bench.LEAVES_8 + "\\\\*");
            b.foundIs("<:SAPB0PB01,#0\\\\*", "A");
        });
        Bench.test("Of types, those that are inferred are examined", () -> {
            Bench b = Bench.sizes();
            b.foundIs(">:SAPB0PB01,#0\\\\*", "!0");
        });
        Bench.test("A type that is merely required: its eleventh variable is not examined", () -> {
            Bench b = new Bench("fS11;kS11;");
            // The index type has a variable of its own, beside the ten where the index stands.
            b.givenIs("S1S1S1S1S1S1S1S1S1S1A,**", "!24");
            b.givenIs("S1S1S1S1S1S1S1S1S1S1Aa", "!21");
            b.givenIs("S1S1S1S1S1S1S1S1S1Aa", "!20");
        });
        Bench.test("A term is not of a required type that is too large", () -> {
            Bench b = new Bench("f;fA;kA;kPAPAA;kPAB0;");
            b.enters("A" + Bench.LEAVES_8);
            b.givenIs("SAB..b00,#0:Ba.ca", "!11");
            b.givenIs("SAB..b00,#0.ca", "!11");
        });
    }

    private static void theText() {
        Bench.test("The text is a buffer of at most 32 bytes", () -> {
            Bench b = new Bench("f;kA;");
            String whole = TEN_P + "A" + TEN_LAMBDAS + "9";
            Bench.due("length", whole.length(), 32);
            b.givenIs(whole, TEN_LAMBDAS + "9");
            Bench.due("one more", b.text(whole).terms.type('9'), FULL);
            Bench.due("still whole", b.terms.given(-1), 11);
            b.givenIs(TEN_P + "A" + TEN_LAMBDAS + ":", "!32");
        });
        Bench.test("it is an index in the text, from 0", () -> {
            Bench b = new Bench("f;kA;");
            b.givenIs("?", "!0");
            b.givenIs("A?", "!1");
            b.givenIs(TEN_P + "A" + TEN_LAMBDAS + "?", "!31");
        });
        Bench.test("It is read beginning without variables in scope", () -> {
            Bench b = new Bench("f;fA;kA;");
            b.foundIs("0", "!0");
            b.givenIs("A0", "!1");
            b.givenIs("B0", "!1");
            Bench.due("laws", b.laws("f;fA;kB0;"), -17);
            Bench.due("same", b.same("PAA\\00"), -15);
        });
        Bench.test("The first error that is found is the fault", () -> {
            Bench b = new Bench(BASE);
            b.givenIs("Ab?", "!1");
            b.givenIs("A.aa", "!2");
            b.givenIs("SAA,b,", "!4");
        });
        Bench.test("A part is checked as soon as its last byte has been read, inner parts first", () -> {
            Bench b = new Bench(BASE);
            b.givenIs("B.ba?", "!1");
            b.givenIs("SB.baA", "!2");
            b.givenIs("A.b.bb", "!5");
            b.givenIs("A.b.ba", "!3");
            b.givenIs("A.ba", "!1");
        });
    }

    private static void badBytes() {
        Bench.test("a byte that cannot stand at its place: its own index", () -> {
            Bench b = new Bench("f;kA;");
            for (int letter = 0; letter < 256; letter++) {
                String s = String.valueOf((char) letter);
                boolean type = "1A".indexOf(letter) >= 0;
                boolean more = "SP".indexOf(letter) >= 0;
                b.givenIs(s, type || more ? "!1" : "!0");
                boolean front = ":.<>#".indexOf(letter) >= 0;
                b.givenIs("A" + s, letter == 'a' ? "a" : front ? "!2" : "!1");
                b.givenIs("Aa" + s, "!2");
                b.foundIs(s, letter == 'a' ? "A" : front ? "!1" : "!0");
                Bench.due("laws " + letter, b.laws(s), letter == 'f' || letter == 'k' ? -11 : -10);
                Bench.due("laws k " + letter, b.laws("k" + s), letter == '1' || more ? -12 : -11);
                if (letter != ';') {
                    Bench.due("laws k1 " + letter, b.laws("k1" + s), -12);
                }
            }
        });
        Bench.test("This includes a family that does not exist there", () -> {
            Bench b = new Bench("f;f;");
            b.givenIs("C", "!0");
            b.givenIs("SAC", "!2");
            b.givenIs("A:C", "!2");
            Bench.due("its own index", b.laws("f;fB;"), -13);
            Bench.due("declared later", b.laws("kA;f;"), -11);
            Bench.due("declared by the laws before", b.laws("f;kB;"), -13);
        });
        Bench.test("a constant that does not exist there", () -> {
            Bench b = new Bench("f;fA;kA;kA;");
            b.givenIs("Ac", "!1");
            b.givenIs("Bc", "!1");
            Bench.due("its own type", b.laws("f;fA;kBa;"), -17);
            Bench.due("declared later", b.laws("f;fA;kA;kBb;kA;"), -20);
        });
        Bench.test("a variable that does not exist there", () -> {
            Bench b = new Bench("f;fA;kA;");
            b.givenIs("PAA\\1", "!4");
            b.givenIs("SAA,a0", "!5");
            b.givenIs("SSAB0B1", "!6");
            b.givenIs("SB0A", "!2");
        });
        Bench.test("a digit behind # that is no entry", () -> {
            Bench b = new Bench("f;kA;");
            b.givenIs("A#0", "!2");
            b.enters("Aa");
            b.givenIs("A#0", "a");
            b.givenIs("A#1", "!2");
            b.foundIs("#1", "!1");
            b.givenIs("A#:", "!2");
            b.givenIs("A#/", "!2");
            b.terms.drops(0);
            b.givenIs("A#0", "!2");
        });
        Bench.test("an S that would bring an eleventh variable into scope", () -> {
            Bench b = new Bench("f;kA;");
            b.givenIs(TEN_S + "SAA", "!20");
            b.givenIs(TEN_S.substring(2) + "SAA", "!21");
            b.givenIs(TEN_P + "SAA", "!20");
            b.givenIs("PAPAPAPAPAPAPAPAPAA\\\\\\\\\\\\\\\\\\:S", "!30");
        });
        Bench.test("a P that would bring an eleventh variable into scope", () -> {
            Bench b = new Bench("f;kA;");
            b.givenIs(TEN_P + "PAA", "!20");
            b.givenIs(TEN_P.substring(2) + "PAA", "!21");
            b.givenIs(TEN_S + "PAA", "!20");
        });
        Bench.test("a \\ that would bring an eleventh variable into scope", () -> {
            Bench b = new Bench("f;kA;");
            b.givenIs(TEN_P + "A" + TEN_LAMBDAS + "\\", "!31");
            String nine = TEN_LAMBDAS.substring(1);
            b.givenIs(TEN_P.substring(2) + "A" + nine + "8", nine + "8");
        });
        Bench.test("also any byte behind the end of what the text must contain", () -> {
            Bench b = new Bench("f;kA;");
            b.givenIs("Aaa", "!2");
            b.givenIs("Aa;", "!2");
            b.givenIs("Aa" + (char) 0, "!2");
            b.foundIs("aa", "!1");
            Bench.due("same", b.same("Aaaa"), -13);
            Bench.due("enters", b.enters("Aaa"), -12);
            Bench.due("sees", b.sees("Aaa", 2), -12);
        });
    }

    private static void formsThatDoNotFit() {
        Bench.test("* where no type is required or the required type is of another form", () -> {
            Bench b = new Bench("f;kA;");
            b.givenIs("1*", "*");
            b.givenIs("A*", "!1");
            b.givenIs("S11*", "!3");
            b.givenIs("P11*", "!3");
            b.givenIs("A.*a", "!2");
        });
        Bench.test("a comma where no type is required or the required type is of another form", () -> {
            Bench b = new Bench("f;kA;");
            b.givenIs("S11,**", ",**");
            b.givenIs("1,**", "!1");
            b.givenIs("A,**", "!1");
            b.givenIs("P11,**", "!3");
            b.givenIs("A<,aa", "!2");
        });
        Bench.test("\\ where no type is required or the required type is of another form", () -> {
            Bench b = new Bench("f;kA;");
            b.givenIs("P11\\*", "\\*");
            b.givenIs("1\\*", "!1");
            b.givenIs("A\\*", "!1");
            b.givenIs("S11\\*", "!3");
            b.givenIs("A.\\aa", "!2");
        });
    }

    private static void faultsOfParts() {
        Bench.test("the first type of P that is no data type: its first byte", () -> {
            Bench b = new Bench("f;kA;");
            b.givenIs("PPAAA", "!1");
            b.givenIs("PSAPAAA", "!1");
            b.givenIs("SAPPAAA", "!3");
        });
        Bench.test("(this is found before the second type is read)", () -> {
            Bench b = new Bench("f;kA;");
            b.givenIs("PPAA", "!1");
            b.givenIs("PPAA?", "!1");
            b.givenIs("PPA?", "!3");
        });
        Bench.test("a term behind . that has no function type: its first byte", () -> {
            Bench b = new Bench("f;kA;kSAA;k1;");
            b.givenIs("A.aa", "!2");
            b.givenIs("A.ba", "!2");
            b.givenIs("A.ca", "!2");
            b.givenIs("A.<ba", "!2");
        });
        Bench.test("a term behind < or > that has no pair type: its first byte", () -> {
            Bench b = new Bench("f;kA;kPAA;k1;");
            for (String front : new String[] {"<", ">"}) {
                b.givenIs("A" + front + "a", "!2");
                b.givenIs("A" + front + "b", "!2");
                b.givenIs("A" + front + "c", "!2");
                b.givenIs("A" + front + ".ba", "!2");
            }
        });
        Bench.test("a term whose inferred type is not the same as the required one: its first byte", () -> {
            Bench b = new Bench(TWO);
            b.givenIs("Ac", "!1");
            b.givenIs("A<:SBaA,ca", "!1");
            b.givenIs("A:Bac", "!1");
            b.givenIs("SAA,ac", "!5");
            b.givenIs("Bc", "!1");
        });
        Bench.test("(found after its own checks, and before what follows it is read)", () -> {
            Bench b = new Bench(TWO);
            b.givenIs("A.aX", "!2");
            b.givenIs("A<aX", "!2");
            b.givenIs("A.:1a*", "!4");
            b.givenIs("A<:1a", "!4");
            b.givenIs("SAA,cX", "!4");
            b.givenIs("A:1c", "!3");
            b = Bench.sizes();
            // Too large itself, before it is told that it is no function; both at the same byte.
            b.givenIs("A...b#3aX", "!3");
        });
    }

    private static void orderOfFaults() {
        Bench.test("the argument's faults come before those of the application", () -> {
            Bench b = Bench.sizes();
            b.foundIs(".d*", "!2");
            b.foundIs(".dd", "!2");
            b.foundIs(".d", "!2");
            b.foundIs(".d#2?", "!0");
            b.foundIs(".d#1?", "!4");
        });
        Bench.test("the parts of a pair or function have their faults before it", () -> {
            Bench b = Bench.sizes();
            b.givenIs("SAA,#4*", "!6");
            b.givenIs("SAA,#4#0?", "!3");
            b.givenIs("P1A\\#4?", "!3");
            b.givenIs("P1A\\*", "!4");
            b.givenIs("SAA,#4", "!6");
        });
        Bench.test("a type's parts have their faults before it", () -> {
            Bench b = Bench.sizes();
            b.givenIs("SB#1X", "!4");
            b.givenIs("SB#3", "!4");
            b.givenIs("SB#31", "!0");
        });
        Bench.test("an annotation's type has its faults before its term", () -> {
            Bench b = Bench.sizes();
            b.foundIs(":B#4?", "!1");
            b.foundIs(":B#3?", "!4");
            b.foundIs(":PPAAA?", "!2");
        });
    }

    private static void endsTooEarly() {
        Bench.test("the text ends too early: its length", () -> {
            Bench b = new Bench(BASE);
            b.enters("Aa");
            String[] starts = {"", "S", "P", "SA", "PA", "B", "A", "A#", "A:", "A:A", "A.", "A.b",
                "A<", "A>", "A.:PAA", "P11", "P11\\", "S11", "S11,", "S11,*"};
            for (String start : starts) {
                b.givenIs(start, "!" + start.length());
                Bench.due("same " + start, b.same(start), -10 - start.length());
                Bench.due("enters " + start, b.enters(start), -10 - start.length());
                Bench.due("sees " + start, b.sees(start, 0), -10 - start.length());
            }
            Bench.due("same with one term", b.same("Aa"), -12);
            for (String start : new String[] {"", "#", ":", ":A", ".", ".b", "<", ">"}) {
                b.foundIs(start, "!" + start.length());
            }
            for (String start : new String[] {"f", "k", "f;k", "k1", "f1", "k1;f1", "kS1"}) {
                Bench.due("laws " + start, b.laws(start), -10 - start.length());
            }
        });
    }

    private static void returnValues() {
        Bench.test("BAD (-1), STATE (-2), FULL (-3), NONE (-9)", () -> {
            Bench.due("BAD", BAD, -1);
            Bench.due("STATE", STATE, -2);
            Bench.due("FULL", FULL, -3);
            Bench.due("NONE", NONE, -9);
        });
        Bench.test("If the text has a fault, the method returns -10 minus the fault", () -> {
            Bench b = new Bench("f;kA;");
            Bench.due("fault 0", b.text("").terms.given(-1), -10);
            Bench.due("fault 32", b.text(TEN_P + "A" + TEN_LAMBDAS + ":").terms.given(-1), -42);
        });
        Bench.test("the first that applies is returned", () -> {
            Bench b = new Bench("f;kA;");
            Bench.due("given", b.text("?").terms.given(-2), BAD);
            Bench.due("found", b.text("?").terms.found(-2), BAD);
            Bench.due("sees", b.text("?").terms.sees(3), BAD);
            for (int i = 0; i < 6; i++) {
                b.enters("Aa");
                b.sees("Aa", 0);
            }
            Bench.due("enters", b.text("?").terms.enters(), FULL);
            Bench.due("sees", b.text("?").terms.sees(2), FULL);
            Bench.due("sees", b.text("?").terms.sees(-1), BAD);
            Bench.due("back", b.terms.back(2), BAD);
            b.text(TEN_P + "A" + TEN_LAMBDAS + "9");
            Bench.due("type", b.terms.type(256), BAD);
            Bench.due("type", b.terms.type(-1), BAD);
            Bench.due("type", b.terms.type(255), FULL);
        });
        Bench.test("and NONE only if none of them applies", () -> {
            Bench b = new Bench("f;kA;");
            b.enters("Aa");
            Bench.due("given", b.text("?").terms.given(9), -10);
            Bench.due("found", b.text("?").terms.found(9), -10);
            Bench.due("law", b.terms.law(0, 1, 9), BAD);
            Bench.due("law", b.terms.law(0, 0, -1), BAD);
            Bench.due("law", b.terms.law(2, 0, 9), BAD);
            Bench.due("entry", b.terms.entry(1, 0, 9), BAD);
            Bench.due("entry", b.terms.entry(0, 2, 9), BAD);
        });
        Bench.test("A call that returns an error changes nothing (the text stays, too)", () -> {
            Bench b = new Bench(BASE);
            b.enters("Aa");
            b.enters("PAB0b");
            b.terms.drops(0);
            b.sees("Aa", 1);
            b.terms.keep(1);
            for (String bytes : new String[] {"?", "", "A", "f;f;f;kD;", "Aa?"}) {
                b.text(bytes);
                String before = b.state();
                Bench.due("laws", bytes.isEmpty() || b.terms.laws() < -9 ? 1 : 0, 1);
                Bench.due("given", b.terms.given(-1) < -9 ? 1 : 0, 1);
                Bench.due("found", b.terms.found(-1) < -9 ? 1 : 0, 1);
                Bench.due("same", b.terms.same() < -9 ? 1 : 0, 1);
                Bench.due("enters", b.terms.enters() < -9 ? 1 : 0, 1);
                Bench.due("sees", b.terms.sees(0) < -9 ? 1 : 0, 1);
                Bench.due("type", b.terms.type(256), BAD);
                Bench.due("drops", b.terms.drops(1), BAD);
                Bench.due("back", b.terms.back(0), STATE);
                Bench.due("back", b.terms.back(2), BAD);
                Bench.due("keep", b.terms.keep(2), BAD);
                Bench.due("state", b.state(), before);
            }
            Bench.due("the image", b.terms.back(1), 1);
            Bench.due("its entry", b.entry(0, 0), "PAB0");
        });
        Bench.test("Signs are returned as their ASCII codes", () -> {
            Bench b = new Bench("f;kPAPAA;");
            Bench.due("P", b.terms.law(1, 0, 0), 80);
            Bench.due("A", b.terms.law(1, 0, 1), 65);
            b.text("PAPAAa");
            int[] codes = {92, 92, 46, 46, 97, 48, 49};
            for (int k = 0; k < codes.length; k++) {
                Bench.due("sign " + k, b.terms.given(k), codes[k]);
            }
            b.text("S11,**");
            Bench.due(",", b.terms.given(0), 44);
            Bench.due("*", b.terms.given(1), 42);
            b.text(":SS111,,***");
            Bench.due("S", b.terms.found(0), 83);
            Bench.due("1", b.terms.found(2), 49);
            b = new Bench("f;kSAA;");
            b.text("SAA,>a<a");
            Bench.due(">", b.terms.given(1), 62);
            Bench.due("<", b.terms.given(3), 60);
        });
    }
}
