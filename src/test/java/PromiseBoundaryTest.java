/**
 * The promises of the document, sentence by sentence: each sentence that names a boundary case has
 * a test of its own, which bears its number and its words.
 */
public final class PromiseBoundaryTest {
    private static final int BAD = JudgedTerms.BAD, STATE = JudgedTerms.STATE,
        FULL = JudgedTerms.FULL, NONE = JudgedTerms.NONE;
    private static final int MIN = Integer.MIN_VALUE, MAX = Integer.MAX_VALUE;

    /** A; B with an index of A; a: A; b: a function that gives B of its argument. */
    private static final String BASE = "f;fA;kA;kPAB0;";
    /** A; a, b, c: A. */
    private static final String THREE = "f;kA;kA;kA;";

    public static void main(String[] args) {
        newObject();
        type();
        clear();
        lawsRead();
        lawsReplace();
        lawsFaults();
        law();
        given();
        found();
        same();
        enters();
        drops();
        undo();
        undoLimit();
        entry();
        like();
        sees();
        forgetAndUnseen();
        keep();
        back();
        count();
        manyCalls();
        Bench.end("PromiseBoundaryTest");
    }

    private static void due(String what, long got, long want) {
        Bench.due(what, got, want);
    }

    /** The terms of all entries, one behind the other. */
    private static String terms(Bench b) {
        StringBuilder all = new StringBuilder();
        for (int e = 0; e < b.terms.count(2); e++) {
            all.append(b.entry(e, 1));
        }
        return all.toString();
    }

    private static void entriesAre(Bench b, String want) {
        Bench.due("entries", terms(b), want);
    }

    /** A checker with THREE and an entry of type A for each of these constants. */
    private static Bench entries(String constants) {
        Bench b = new Bench(THREE);
        for (char c : constants.toCharArray()) {
            b.enters("A" + c);
        }
        return b;
    }

    private static void newObject() {
        Bench.test("1: Creates a checker without families, constants and entries", () -> {
            JudgedTerms x = new JudgedTerms();
            due("families", x.count(0), 0);
            due("constants", x.count(1), 0);
            due("entries", x.count(2), 0);
            due("law", x.law(0, 0, 0), BAD);
            due("law", x.law(1, 0, 0), BAD);
            due("entry", x.entry(0, 0, 0), BAD);
            new Bench().givenIs("A", "!0");
            new Bench().givenIs("1a", "!1");
            new Bench().givenIs("1#0", "!2");
            new Bench().givenIs("1*", "*");
        });
        Bench.test("1: the text is empty", () -> {
            due("bytes", new JudgedTerms().count(4), 0);
            due("clear", new JudgedTerms().clear(), 0);
            due("given", new JudgedTerms().given(-1), -10);
            due("type", new JudgedTerms().type(49), 1);
        });
        Bench.test("1: nothing else is there before it is made", () -> {
            JudgedTerms x = new JudgedTerms();
            due("sights", x.count(3), 0);
            due("undo", x.count(5), 0);
            due("undo", x.undo(), STATE);
            due("forget", x.forget(), 0);
            due("unseen", x.unseen(), 0);
            due("back", x.back(0), STATE);
            due("back", x.back(1), STATE);
        });
        Bench.test("1: each object has a state of its own", () -> {
            Bench one = entries("ab");
            Bench other = entries("c");
            one.text("Aa");
            due("bytes", other.terms.count(4), 0);
            entriesAre(one, "ab");
            entriesAre(other, "c");
        });
    }

    private static void type() {
        Bench.test("2: letter: 0 to 255; BAD if letter is out of range", () -> {
            JudgedTerms x = new JudgedTerms();
            for (int letter : new int[] {-1, 256, MIN, MAX, -256, 305}) {
                due("type " + letter, x.type(letter), BAD);
            }
            due("bytes", x.count(4), 0);
            due("type 0", x.type(0), 1);
            due("type 255", x.type(255), 2);
        });
        Bench.test("2: Returns the new length", () -> {
            JudgedTerms x = new JudgedTerms();
            for (int many = 1; many <= 32; many++) {
                due("type", x.type(many), many);
                due("count", x.count(4), many);
            }
        });
        Bench.test("2: FULL if the text has 32 bytes", () -> {
            Bench b = new Bench("f;kA;");
            b.text("PAPAPAPAPAPAPAPAPAPAA\\\\\\\\\\\\\\\\\\\\");
            due("31 bytes", b.terms.count(4), 31);
            due("the 32nd", b.terms.type('9'), 32);
            due("the 33rd", b.terms.type('9'), FULL);
            due("the 33rd", b.terms.type(0), FULL);
            due("BAD first", b.terms.type(256), BAD);
            due("bytes", b.terms.count(4), 32);
            due("the text is whole", b.terms.given(-1), 11);
        });
        Bench.test("2: Appends a byte to the text", () -> {
            Bench b = new Bench("f;kA;");
            b.text("A");
            due("given", b.terms.given(-1), -11);
            due("type", b.terms.type('a'), 2);
            due("given", b.terms.given(-1), 1);
            due("type", b.terms.type('a'), 3);
            due("given", b.terms.given(-1), -12);
        });
    }

    private static void clear() {
        Bench.test("3: Empties the text. Returns the length that it had", () -> {
            Bench b = new Bench();
            due("empty", b.terms.clear(), 0);
            b.text("1");
            due("one", b.terms.clear(), 1);
            due("bytes", b.terms.count(4), 0);
            b.text("12345678901234567890123456789012");
            due("full", b.terms.clear(), 32);
            due("again", b.terms.clear(), 0);
            b.givenIs("1*", "*");
        });
        Bench.test("3: nothing but the text", () -> {
            Bench b = entries("ab");
            b.sees("Aa", 1);
            b.terms.keep(0);
            b.text("Aa");
            due("clear", b.terms.clear(), 2);
            entriesAre(b, "ab");
            due("sights", b.terms.count(3), 1);
            due("undo", b.terms.count(5), 2);
            due("back", b.terms.back(0), 2);
        });
    }

    private static void lawsRead() {
        Bench.test("4: The text consists of zero or more items", () -> {
            Bench b = new Bench(THREE);
            due("zero", b.laws(""), 0);
            due("families", b.terms.count(0), 0);
            due("constants", b.terms.count(1), 0);
            due("one", b.laws("f;"), 1);
            due("one", b.laws("k1;"), 1);
            due("seven", b.laws("f;fA;fA;k1;kA;kP11;kS11;"), 7);
            due("seven", b.laws("k1;f;k1;f;k1;f;k1;"), 7);
        });
        Bench.test("4: each followed by ; (semicolon)", () -> {
            Bench b = new Bench();
            due("no ;", b.laws("f"), -11);
            due("no ;", b.laws("k1"), -12);
            due("another byte", b.laws("k1,"), -12);
            due("two", b.laws("f;;"), -12);
            due("only ;", b.laws(";"), -10);
            due("in front", b.laws(";f;"), -10);
        });
        Bench.test("4: f (the next family, without an index)", () -> {
            Bench b = new Bench();
            due("laws", b.laws("f;f;kB;"), 3);
            b.givenIs("Ba", "a");
            due("index", b.terms.law(0, 1, 0), NONE);
        });
        Bench.test("4: f T (the next family, with the index type T, which must be a data type)", () -> {
            Bench b = new Bench();
            due("unit", b.laws("f1;kA*;"), 2);
            b.givenIs("A*a", "a");
            due("pairs", b.laws("f;fSA1;fSAB,0*;"), 3);
            Bench.due("index type", b.law(0, 2), "SAB,0*");
            due("function", b.laws("fP11;"), -11);
            due("function in a pair", b.laws("f;fS1SP111;"), -13);
            due("function in an annotation only", b.laws("f1;fA.:P11\\0*;"), 2);
            Bench.due("index type", b.law(0, 1), "A*");
        });
        Bench.test("4: k T (the next constant, of type T)", () -> {
            Bench b = new Bench();
            due("any type", b.laws("kP11;kSP111;kP1P11;"), 3);
            Bench.due("type", b.law(1, 0), "P11");
            Bench.due("type", b.law(1, 1), "SP111");
            b.foundIs("c", "P1P11");
        });
        Bench.test("4: A type T can use what the text declared before", () -> {
            Bench b = new Bench();
            due("families", b.laws("f;fA;kA;kBa;"), 4);
            due("constants", b.laws("f;kA;fA;kBa;fBa;kCb;"), 6);
            due("itself", b.laws("fA;"), -11);
            due("later", b.laws("kA;f;"), -11);
            due("itself", b.laws("f1;kAa;"), -15);
        });
        Bench.test("4: there are no entries in it", () -> {
            Bench b = new Bench(BASE);
            b.enters("Aa");
            due("laws", b.laws("f;fA;kB#0;"), -18);
            due("entries", b.terms.count(2), 1);
        });
        Bench.test("4: Returns the number of items", () -> {
            Bench b = new Bench();
            for (int many = 0; many <= 7; many++) {
                due("laws", b.laws("f;f;f;k1;k1;k1;k1;".substring(0, many < 4 ? 2 * many : 3 * many - 3)),
                    many);
                due("families", b.terms.count(0), Math.min(many, 3));
                due("constants", b.terms.count(1), Math.max(many - 3, 0));
            }
        });
    }

    private static void lawsReplace() {
        Bench.test("4: which replace all families and constants", () -> {
            Bench b = new Bench(BASE);
            due("laws", b.laws("k1;"), 1);
            due("families", b.terms.count(0), 0);
            due("constants", b.terms.count(1), 1);
            b.givenIs("A", "!0");
            b.givenIs("1b", "!1");
            due("the index is gone", b.laws("f;f;"), 2);
            due("index", b.terms.law(0, 1, 0), NONE);
            b.givenIs("B", "!1");
            due("not usable while reading", b.laws("f;kB;"), -13);
        });
        Bench.test("4: There are no entries then", () -> {
            Bench b = entries("abcabc");
            due("laws", b.laws(THREE), 4);
            due("entries", b.terms.count(2), 0);
            due("entry", b.terms.entry(0, 0, 0), BAD);
            b.givenIs("A#0", "!2");
            due("enters", b.enters("Ab"), 1);
            entriesAre(b, "b");
        });
        Bench.test("4: and no sights then", () -> {
            Bench b = new Bench(THREE);
            for (int i = 0; i < 4; i++) {
                b.sees("Aa", 0);
            }
            due("laws", b.laws(THREE), 4);
            due("sights", b.terms.count(3), 0);
            b.enters("Aa");
            due("unseen", b.terms.unseen(), 1);
            due("forget", b.terms.forget(), 0);
        });
        Bench.test("4: nothing can be undone", () -> {
            Bench b = entries("abcabc");
            due("laws", b.laws(THREE), 4);
            due("count", b.terms.count(5), 0);
            due("undo", b.terms.undo(), STATE);
        });
        Bench.test("4: no image is kept", () -> {
            Bench b = entries("ab");
            b.terms.keep(0);
            b.terms.keep(1);
            due("laws", b.laws(""), 0);
            due("back", b.terms.back(0), STATE);
            due("back", b.terms.back(1), STATE);
        });
        Bench.test("4: and the text is empty", () -> {
            Bench b = new Bench();
            b.text("f;f;f;k1;k1;k1;k1;");
            due("laws", b.terms.laws(), 7);
            due("bytes", b.terms.count(4), 0);
            due("clear", b.terms.clear(), 0);
        });
        Bench.test("4: a text with a fault replaces nothing", () -> {
            Bench b = entries("ab");
            b.terms.keep(0);
            b.sees("Aa", 1);
            String before = b.text("f;fA;fA;f;").state();
            due("laws", b.terms.laws(), -18);
            Bench.due("state", b.state(), before);
            due("bytes", b.terms.count(4), 10);
            due("undo", b.terms.undo(), 1);
            due("back", b.terms.back(0), 2);
            entriesAre(b, "ab");
        });
    }

    private static void lawsFaults() {
        Bench.test("4: a fourth f: its index", () -> {
            Bench b = new Bench();
            due("third", b.laws("f;f;f;"), 3);
            due("fourth", b.laws("f;f;f;f;"), -16);
            due("fourth", b.laws("f;f;f;f"), -16);
            due("fourth with a fault", b.laws("f;f;f;fX;"), -16);
            due("fourth behind constants", b.laws("f;k1;f;k1;f;k1;f;"), -25);
        });
        Bench.test("4: or a fifth k: its index", () -> {
            Bench b = new Bench();
            due("fourth", b.laws("k1;k1;k1;k1;"), 4);
            due("fifth", b.laws("k1;k1;k1;k1;k1;"), -22);
            due("fifth", b.laws("k1;k1;k1;k1;k"), -22);
            due("fifth with a fault", b.laws("k1;k1;k1;k1;kX;"), -22);
            due("family behind it", b.laws("k1;k1;k1;k1;f;"), 5);
        });
        Bench.test("4: an index type that is no data type: the index of its first byte", () -> {
            Bench b = new Bench();
            due("P", b.laws("fP11;"), -11);
            due("S", b.laws("f;fSP111;"), -13);
            due("before the ; is missed", b.laws("fP11"), -11);
            due("before another byte", b.laws("fP11?"), -11);
            due("inner fault first", b.laws("fP1?"), -13);
            due("P's own first type first", b.laws("fPP111;"), -12);
        });
        Bench.test("4: a type that is too large, or with an eleventh variable", () -> {
            // The constant a has 15 signs in its normal form, so Ba has 16.
            String start = "f;fSSAASAA;kSSAASAA;k";
            Bench b = new Bench();
            due("50 signs", b.laws(start + "SBaSBaBa;"), 4);
            due("sign 49", b.terms.law(1, 1, 49), 'a');
            due("sign 50", b.terms.law(1, 1, 50), NONE);
            due("52 signs", b.laws(start + "SBaSBaSBa1;"), -31);
            due("52 signs, an index type", b.laws("f;fSSAASAA;kSSAASAA;fSBaSBaSBa1;"), -31);
            due("ten variables", b.laws("kS1S1S1S1S1S1S1S1S1S11;"), 1);
            due("eleven variables", b.laws("kS1S1S1S1S1S1S1S1S1S1S11;"), -31);
            due("eleven variables", b.laws("fS1S1S1S1S1S1S1S1S1S1P11;"), -31);
        });
        Bench.test("4: -10 minus the fault, at the last byte of a full text", () -> {
            Bench b = new Bench();
            due("32 bytes", b.laws("kP1P1P1P1P1P1P1P1P1P11;f;f1;k1;f"), -42);
            due("the last byte", b.laws("kP1P1P1P1P1P1P1P1P1P11;f;f1;k1;?"), -41);
            due("31 bytes", b.laws("kP1P1P1P1P1P1P1P1P1P11;f;f1;k1;"), 4);
        });
    }

    private static void law() {
        Bench.test("5: kind: 0: the index type of a family; 1: the type of a constant", () -> {
            Bench b = new Bench("f1;kS11;");
            due("0", b.terms.law(0, 0, 0), '1');
            due("1", b.terms.law(1, 0, 0), 'S');
            for (int kind : new int[] {-1, 2, MIN, MAX}) {
                due("kind " + kind, b.terms.law(kind, 0, 0), BAD);
            }
        });
        Bench.test("5: which: number of the family or constant, from 0", () -> {
            Bench b = new Bench("f1;fA*;fA*;kA*;kBa;k1;kP11;");
            Bench.due("A", b.law(0, 0), "1");
            Bench.due("C", b.law(0, 2), "A*");
            Bench.due("a", b.law(1, 0), "A*");
            Bench.due("d", b.law(1, 3), "P11");
            for (int which : new int[] {-1, 3, 4, MIN, MAX}) {
                due("family " + which, b.terms.law(0, which, 0), BAD);
            }
            for (int which : new int[] {-1, 4, 5, MIN, MAX}) {
                due("constant " + which, b.terms.law(1, which, 0), BAD);
            }
            b = new Bench("f1;f1;k1;");
            due("family 1", b.terms.law(0, 1, 0), '1');
            due("constant 1", b.terms.law(1, 1, 0), BAD);
            due("family 2", b.terms.law(0, 2, 0), BAD);
            b = new Bench("f1;k1;k1;");
            due("family 1", b.terms.law(0, 1, 0), BAD);
            due("constant 1", b.terms.law(1, 1, 0), '1');
        });
        Bench.test("5: k: position in the normal form, 0 or more", () -> {
            Bench b = new Bench("f;kPAPAA;");
            due("k 0", b.terms.law(1, 0, 0), 'P');
            due("k 4", b.terms.law(1, 0, 4), 'A');
            due("k -1", b.terms.law(1, 0, -1), BAD);
            due("k min", b.terms.law(1, 0, MIN), BAD);
        });
        Bench.test("5: NONE if there is no such position", () -> {
            Bench b = new Bench("f;kPAPAA;f1;");
            due("k 5", b.terms.law(1, 0, 5), NONE);
            due("k max", b.terms.law(1, 0, MAX), NONE);
            due("k 1", b.terms.law(0, 1, 1), NONE);
        });
        Bench.test("5: or the family has no index", () -> {
            Bench b = new Bench("f;f1;");
            due("k 0", b.terms.law(0, 0, 0), NONE);
            due("k max", b.terms.law(0, 0, MAX), NONE);
            due("k -1", b.terms.law(0, 0, -1), BAD);
            due("the other family", b.terms.law(0, 1, 0), '1');
        });
        Bench.test("5: the text does not matter", () -> {
            Bench b = new Bench("f1;").text("?");
            due("law", b.terms.law(0, 0, 0), '1');
            due("bytes", b.terms.count(4), 1);
        });
    }

    private static void given() {
        Bench.test("6: k: -1 for the number of signs, or a position, from 0", () -> {
            Bench b = new Bench("f;kA;kA;").text("SAA,ab");
            due("number", b.terms.given(-1), 3);
            due("0", b.terms.given(0), ',');
            due("1", b.terms.given(1), 'a');
            due("2", b.terms.given(2), 'b');
        });
        Bench.test("6: NONE if there is no such position", () -> {
            Bench b = new Bench("f;kA;kA;").text("SAA,ab");
            due("3", b.terms.given(3), NONE);
            due("max", b.terms.given(MAX), NONE);
            b.text("1*");
            due("0", b.terms.given(0), '*');
            due("1", b.terms.given(1), NONE);
        });
        Bench.test("6: a normal form of 50 signs", () -> {
            Bench b = new Bench("f;kSASASASASASASAA;").text("SASASASASASASAAa");
            due("number", b.terms.given(-1), 50);
            due("49", b.terms.given(49), 'a');
            due("50", b.terms.given(50), NONE);
        });
        Bench.test("6: BAD if k is less than -1", () -> {
            Bench b = new Bench().text("1*");
            due("-2", b.terms.given(-2), BAD);
            due("min", b.terms.given(MIN), BAD);
            b.text("1?");
            due("before the fault", b.terms.given(-2), BAD);
            due("fault before NONE", b.terms.given(MAX), -11);
        });
        Bench.test("6: Reads the text as a type T followed by a term t", () -> {
            Bench b = new Bench(THREE);
            b.givenIs("", "!0");
            b.givenIs("A", "!1");
            b.givenIs("a", "!0");
            b.givenIs("Aab", "!2");
            due("bytes", b.terms.count(4), 3);
            entriesAre(b, "");
        });
    }

    private static void found() {
        Bench.test("7: k: -1 for the number of signs, or a position, from 0", () -> {
            Bench b = new Bench("f;kPAS1A;").text("a");
            due("number", b.terms.found(-1), 5);
            due("0", b.terms.found(0), 'P');
            due("3", b.terms.found(3), '1');
            due("4", b.terms.found(4), 'A');
        });
        Bench.test("7: NONE if there is no such position", () -> {
            Bench b = new Bench("f;kPAS1A;").text("a");
            due("5", b.terms.found(5), NONE);
            due("max", b.terms.found(MAX), NONE);
            b.text(":1*");
            due("0", b.terms.found(0), '1');
            due("1", b.terms.found(1), NONE);
        });
        Bench.test("7: BAD if k is less than -1", () -> {
            Bench b = new Bench().text(":1*");
            due("-2", b.terms.found(-2), BAD);
            due("min", b.terms.found(MIN), BAD);
            b.text("?");
            due("before the fault", b.terms.found(-2), BAD);
            due("fault before NONE", b.terms.found(MAX), -10);
        });
        Bench.test("7: Reads the text as a term whose type is inferred", () -> {
            Bench b = new Bench(THREE);
            b.foundIs("", "!0");
            b.foundIs("a", "A");
            b.foundIs("ab", "!1");
            b.foundIs("Aa", "!0");
            b.foundIs("*", "!0");
            b.foundIs(",aa", "!0");
            b.foundIs("\\0", "!0");
            due("bytes", b.terms.count(4), 2);
        });
    }

    private static void same() {
        Bench.test("8: Returns 1 if they are the same, else 0", () -> {
            Bench b = new Bench(THREE);
            due("same", b.same("Aaa"), 1);
            due("not", b.same("Aab"), 0);
            due("unit", b.same("1*:1*"), 1);
            due("the last sign", b.same("SAA,ab,ac"), 0);
            due("the first sign", b.same("SAA,ab,bb"), 0);
        });
        Bench.test("8: a type T followed by two terms that are both checked against T", () -> {
            Bench b = new Bench("f;f;kA;kB;");
            due("nothing", b.same(""), -10);
            due("no term", b.same("A"), -11);
            due("one term", b.same("Aa"), -12);
            due("three", b.same("Aaaa"), -13);
            due("fault of the type", b.same("PPAAA*"), -11);
            due("fault in the type", b.same("SAC*"), -12);
            due("first", b.same("Aba"), -11);
            due("second", b.same("Aab"), -12);
            due("second against T, not the first's", b.same("A:Aa:Bb"), -14);
        });
        Bench.test("8: two terms of 50 signs", () -> {
            Bench b = new Bench("f;kSASASASASASASAA;");
            due("same", b.same("SASASASASASASAAaa"), 1);
            due("one component is another", b.same("SASASASASASASAAa,<aa"), -29);
            due("eta", b.same("SASASASASASASAAa,<a>a"), 1);
        });
        Bench.test("8: it changes nothing", () -> {
            Bench b = entries("ab").text("A#0#1");
            String before = b.state();
            due("same", b.terms.same(), 0);
            due("same", b.terms.same(), 0);
            Bench.due("state", b.state(), before);
        });
    }

    private static void enters() {
        Bench.test("9: Returns the number of entries then", () -> {
            Bench b = new Bench(THREE);
            for (int many = 1; many <= 6; many++) {
                due("enters", b.enters("Aa"), many);
                due("count", b.terms.count(2), many);
            }
        });
        Bench.test("9: FULL if there are six entries", () -> {
            Bench b = entries("abcab");
            due("the sixth", b.enters("Ac"), 6);
            due("the seventh", b.enters("Ab"), FULL);
            due("before the fault", b.enters("?"), FULL);
            due("before the fault", b.enters(""), FULL);
            entriesAre(b, "abcabc");
            due("undo", b.terms.count(5), 6);
            b.terms.drops(0);
            due("after a drop", b.enters("Aa"), 6);
            entriesAre(b, "bcabca");
        });
        Bench.test("9: adds an entry, the normal forms of T and t", () -> {
            Bench b = new Bench("f;fA;kA;kPAB0;");
            due("enters", b.enters("PB.:PAA\\0aSAB1\\,a.ba"), 1);
            Bench.due("type", b.entry(0, 0), "PBaSAB1");
            Bench.due("term", b.entry(0, 1), "\\,a.ba");
            due("enters", b.enters("PAB0b"), 2);
            Bench.due("term", b.entry(1, 1), "\\.b0");
        });
        Bench.test("9: a type and a term of 50 signs", () -> {
            Bench b = new Bench("f;kSASASASASASASAA;");
            due("enters", b.enters("SASASASASASASAAa"), 1);
            due("49", b.terms.entry(0, 1, 49), 'a');
            due("50", b.terms.entry(0, 1, 50), NONE);
            due("again", b.enters("SASASASASASASAA#0"), 2);
            due("like", b.terms.like(0, 1), 2);
        });
        Bench.test("9: a type of 50 signs", () -> {
            Bench b = Bench.sizes();
            due("51 signs", b.enters("PB#21\\*"), -10);
            due("50 signs", b.enters("PB#11\\*"), 6);
            due("49", b.terms.entry(5, 0, 49), '1');
            due("50", b.terms.entry(5, 0, 50), NONE);
            due("like", b.terms.like(5, 5), 2);
        });
        Bench.test("9: The text is empty then", () -> {
            Bench b = new Bench(THREE);
            b.enters("Aa");
            due("bytes", b.terms.count(4), 0);
            due("again", b.terms.enters(), -10);
        });
        Bench.test("9: -10 minus the fault if the text has a fault", () -> {
            Bench b = new Bench(THREE);
            due("empty", b.enters(""), -10);
            due("no term", b.enters("A"), -11);
            due("too much", b.enters("Aab"), -12);
            due("itself", b.enters("A#0"), -12);
            due("bytes", b.terms.count(4), 3);
            due("entries", b.terms.count(2), 0);
            due("undo", b.terms.undo(), STATE);
        });
        Bench.test("9: entries stay as they are when those that they used are gone", () -> {
            Bench b = entries("a");
            b.enters("SAA,#0b");
            b.terms.drops(0);
            entriesAre(b, ",ab");
        });
    }

    private static void drops() {
        Bench.test("10: BAD if there is no such entry", () -> {
            Bench b = new Bench(THREE);
            due("none", b.terms.drops(0), BAD);
            b = entries("ab");
            for (int e : new int[] {-1, 2, 3, 6, MIN, MAX}) {
                due("drops " + e, b.terms.drops(e), BAD);
            }
            entriesAre(b, "ab");
            due("undo", b.terms.count(5), 2);
        });
        Bench.test("10: the numbers of those behind it decrease by 1", () -> {
            for (int e = 0; e < 6; e++) {
                Bench b = entries("abcbca");
                due("drops", b.terms.drops(e), 5);
                entriesAre(b, "abcbca".substring(0, e) + "abcbca".substring(e + 1));
                due("the last number", b.terms.entry(5, 0, 0), BAD);
                b.givenIs("A#5", "!2");
            }
        });
        Bench.test("10: Returns how many entries are left", () -> {
            Bench b = entries("abcabc");
            for (int left = 5; left >= 0; left--) {
                due("drops", b.terms.drops(0), left);
                due("count", b.terms.count(2), left);
            }
            due("no more", b.terms.drops(0), BAD);
        });
        Bench.test("10: the text stays", () -> {
            Bench b = entries("ab").text("A#1");
            due("given", b.terms.given(0), 'b');
            due("drops", b.terms.drops(0), 1);
            due("bytes", b.terms.count(4), 3);
            due("given", b.terms.given(0), -12);
        });
    }

    private static void undo() {
        Bench.test("11: STATE if there is none", () -> {
            Bench b = new Bench(THREE);
            due("at first", b.terms.undo(), STATE);
            b.enters("A?");
            b.terms.drops(0);
            b.sees("Aa", 0);
            b.terms.keep(0);
            due("no such call", b.terms.undo(), STATE);
            b.enters("Aa");
            due("one", b.terms.undo(), 0);
            due("undone already", b.terms.undo(), STATE);
        });
        Bench.test("11: Undoes the latest successful call of enters()", () -> {
            Bench b = entries("abc");
            due("undo", b.terms.undo(), 2);
            entriesAre(b, "ab");
            due("undo", b.terms.undo(), 1);
            entriesAre(b, "a");
            due("undo", b.terms.undo(), 0);
            entriesAre(b, "");
        });
        Bench.test("11: or drops(): the entries are as before it", () -> {
            for (int e = 0; e < 6; e++) {
                Bench b = entries("abcbca");
                b.terms.drops(e);
                due("undo", b.terms.undo(), 6);
                entriesAre(b, "abcbca");
                Bench.due("type", b.entry(e, 0), "A");
            }
        });
        Bench.test("11: a call that failed is none of them", () -> {
            Bench b = entries("abcabc");
            due("full", b.enters("Aa"), FULL);
            due("bad", b.terms.drops(6), BAD);
            due("count", b.terms.count(5), 6);
            due("undo", b.terms.undo(), 5);
            entriesAre(b, "abcab");
        });
        Bench.test("11: that is not undone", () -> {
            Bench b = entries("ab");
            b.terms.undo();
            b.enters("Ac");
            due("undo", b.terms.undo(), 1);
            entriesAre(b, "a");
            due("undo", b.terms.undo(), 0);
            entriesAre(b, "");
            due("undo", b.terms.undo(), STATE);
        });
        Bench.test("11: the entries alone, no text, sight or image", () -> {
            Bench b = entries("a");
            b.sees("Aa", 2);
            b.terms.keep(0);
            b.text("A#0");
            due("undo", b.terms.undo(), 0);
            due("bytes", b.terms.count(4), 3);
            due("sights", b.terms.count(3), 1);
            due("image", b.terms.back(0), 1);
        });
    }

    private static void undoLimit() {
        Bench.test("11: The latest 8 of these calls can be undone", () -> {
            Bench b = entries("abcabc");
            b.terms.drops(5);
            due("7", b.terms.count(5), 7);
            b.terms.drops(0);
            due("8", b.terms.count(5), 8);
            for (int left = 7; left >= 0; left--) {
                due("undo", b.terms.undo(), left);
            }
            entriesAre(b, "");
            due("no more", b.terms.undo(), STATE);
        });
        Bench.test("11: and no ninth", () -> {
            Bench b = entries("abcabc");
            b.terms.drops(5);
            b.terms.drops(0);
            b.enters("Aa");
            due("9 calls", b.terms.count(5), 8);
            entriesAre(b, "bcaba");
            String[] before = {"bcab", "abcab", "abcabc", "abcab", "abca", "abc", "ab", "a"};
            for (int i = 0; i < before.length; i++) {
                due("undo", b.terms.undo(), 7 - i);
                entriesAre(b, before[i]);
            }
            due("no more", b.terms.undo(), STATE);
            entriesAre(b, "a");
        });
        Bench.test("11: long after the ninth", () -> {
            Bench b = entries("abc");
            for (int i = 0; i < 20; i++) {
                b.enters("A" + "abc".charAt(i % 3));
                b.terms.drops(0);
            }
            due("count", b.terms.count(5), 8);
            entriesAre(b, "cab");
            for (int left = 7; left >= 0; left--) {
                due("undo", b.terms.undo(), left);
            }
            due("no more", b.terms.undo(), STATE);
            entriesAre(b, "bca");
        });
        Bench.test("11: undoing and entering again, over and over", () -> {
            Bench b = entries("a");
            for (int i = 0; i < 20; i++) {
                b.enters("Ab");
                due("undo", b.terms.undo(), 1);
            }
            for (int many = 2; many <= 6; many++) {
                b.enters("Ac");
                due("count", b.terms.count(5), many);
            }
            b.terms.undo();
            entriesAre(b, "acccc");
        });
    }

    private static void entry() {
        Bench.test("12: e: number of an entry", () -> {
            Bench b = entries("abcabc");
            due("first", b.terms.entry(0, 1, 0), 'a');
            due("last", b.terms.entry(5, 1, 0), 'c');
            for (int e : new int[] {-1, 6, 7, MIN, MAX}) {
                due("entry " + e, b.terms.entry(e, 1, 0), BAD);
            }
            b.terms.drops(0);
            due("dropped", b.terms.entry(5, 1, 0), BAD);
            due("moved", b.terms.entry(4, 1, 0), 'c');
        });
        Bench.test("12: part: 0: its type; 1: its term", () -> {
            Bench b = entries("a");
            due("type", b.terms.entry(0, 0, 0), 'A');
            due("term", b.terms.entry(0, 1, 0), 'a');
            for (int part : new int[] {-1, 2, MIN, MAX}) {
                due("part " + part, b.terms.entry(0, part, 0), BAD);
            }
        });
        Bench.test("12: k: position, 0 or more", () -> {
            Bench b = entries("a");
            for (int part = 0; part < 2; part++) {
                due("k -1", b.terms.entry(0, part, -1), BAD);
                due("k min", b.terms.entry(0, part, MIN), BAD);
            }
        });
        Bench.test("12: NONE if there is no such position", () -> {
            Bench b = new Bench(BASE);
            b.enters("SAB0,a.ba");
            due("type, last", b.terms.entry(0, 0, 3), '0');
            due("type, behind", b.terms.entry(0, 0, 4), NONE);
            due("term, last", b.terms.entry(0, 1, 4), 'a');
            due("term, behind", b.terms.entry(0, 1, 5), NONE);
            due("type, far", b.terms.entry(0, 0, MAX), NONE);
            due("term, far", b.terms.entry(0, 1, MAX), NONE);
        });
    }

    private static void like() {
        Bench.test("13: 0 if their types are not the same", () -> {
            Bench b = new Bench("f;f1;kA;kB*;k1;");
            b.enters("Aa");
            b.enters("B*b");
            b.enters("SAA,aa");
            b.enters("SA1,a*");
            for (int e = 0; e < 4; e++) {
                for (int f = 0; f < 4; f++) {
                    due("like", b.terms.like(e, f), e == f ? 2 : 0);
                }
            }
        });
        Bench.test("13: 0 though their terms have the same signs", () -> {
            Bench b = new Bench("f;f;");
            b.enters("PAA\\0");
            b.enters("PBB\\0");
            due("like", b.terms.like(0, 1), 0);
            due("like", b.terms.like(1, 0), 0);
        });
        Bench.test("13: 1 if their types are the same, but not their terms", () -> {
            Bench b = entries("abcabc");
            due("0 1", b.terms.like(0, 1), 1);
            due("5 0", b.terms.like(5, 0), 1);
            b.terms.drops(0);
            b.enters("A:Ab");
            due("0 5", b.terms.like(0, 5), 2);
        });
        Bench.test("13: 2 if both are the same", () -> {
            Bench b = entries("ab");
            b.enters("A:A:Aa");
            due("0 0", b.terms.like(0, 0), 2);
            due("0 2", b.terms.like(0, 2), 2);
            due("2 0", b.terms.like(2, 0), 2);
            b.enters("S11,**");
            b.enters("S11:S11,**");
            due("3 4", b.terms.like(3, 4), 2);
        });
        Bench.test("13: BAD if there is no such entry", () -> {
            Bench b = new Bench(THREE);
            due("none", b.terms.like(0, 0), BAD);
            b = entries("ab");
            for (int bad : new int[] {-1, 2, 6, MIN, MAX}) {
                due("e " + bad, b.terms.like(bad, 0), BAD);
                due("f " + bad, b.terms.like(0, bad), BAD);
                due("both " + bad, b.terms.like(bad, bad), BAD);
            }
            due("the last", b.terms.like(1, 1), 2);
        });
    }

    private static void sees() {
        Bench.test("14: like: 0 to 2; BAD if like is out of range", () -> {
            Bench b = new Bench(THREE);
            for (int like : new int[] {-1, 3, MIN, MAX}) {
                due("like " + like, b.sees("Aa", like), BAD);
                due("before the fault", b.sees("?", like), BAD);
                due("bytes", b.terms.count(4), 1);
            }
            for (int like = 0; like < 3; like++) {
                due("like " + like, b.sees("Aa", like), like + 1);
            }
        });
        Bench.test("14: There are at most 4 sights; FULL if there are 4 sights", () -> {
            Bench b = new Bench(THREE);
            for (int many = 1; many <= 4; many++) {
                due("sees", b.sees("Aa", 1), many);
                due("count", b.terms.count(3), many);
            }
            due("fifth", b.sees("Aa", 1), FULL);
            due("before the fault", b.sees("?", 1), FULL);
            due("BAD before it", b.sees("Aa", 3), BAD);
            due("bytes", b.terms.count(4), 2);
            due("count", b.terms.count(3), 4);
            due("forget", b.terms.forget(), 4);
            due("again", b.sees("Aa", 1), 1);
        });
        Bench.test("14: -10 minus the fault if the text has a fault", () -> {
            Bench b = new Bench(THREE);
            due("empty", b.sees("", 0), -10);
            due("no term", b.sees("A", 1), -11);
            due("too much", b.sees("Aab", 2), -12);
            due("bytes", b.terms.count(4), 3);
            due("count", b.terms.count(3), 0);
        });
        Bench.test("14: The text is empty then", () -> {
            Bench b = new Bench(THREE);
            b.sees("Aa", 0);
            due("bytes", b.terms.count(4), 0);
        });
        Bench.test("14: it is no entry, and cannot be undone", () -> {
            Bench b = entries("abcabc");
            due("sees", b.sees("A#5", 2), 1);
            due("entries", b.terms.count(2), 6);
            due("undo", b.terms.undo(), 5);
            due("sights", b.terms.count(3), 1);
        });
    }

    private static void forgetAndUnseen() {
        Bench.test("15: Removes all sights. Returns how many there were", () -> {
            Bench b = entries("abc");
            due("none", b.terms.forget(), 0);
            for (int many = 1; many <= 4; many++) {
                for (int i = 0; i < many; i++) {
                    b.sees("Aa", i % 2);
                }
                due("unseen", b.terms.unseen(), 0);
                due("forget", b.terms.forget(), many);
                due("count", b.terms.count(3), 0);
                due("unseen", b.terms.unseen(), 7);
            }
            entriesAre(b, "abc");
        });
        Bench.test("16: Returns a bit set (bit e for entry e)", () -> {
            Bench b = new Bench(THREE);
            due("no entries", b.terms.unseen(), 0);
            for (int e = 0; e < 6; e++) {
                b.enters("A" + "abcabc".charAt(e));
                due("no sights", b.terms.unseen(), (2 << e) - 1);
            }
            b.sees("Aa", 2);
            due("a", b.terms.unseen(), 1 + 8);
            b.terms.forget();
            b.sees("Ac", 2);
            due("c", b.terms.unseen(), 4 + 32);
        });
        Bench.test("16: agree: T and t and the entry give this result of like()", () -> {
            Bench b = entries("ab");
            b.enters("1*");
            int[] want = {4, 2, 1};
            for (int like = 0; like < 3; like++) {
                b.sees("Aa", like);
                due("like " + like, b.terms.unseen(), want[like]);
                b.terms.forget();
            }
        });
        Bench.test("16: with all sights", () -> {
            Bench b = entries("abc");
            b.enters("1*");
            int[] want = {2 + 4, 4, 0};
            String[] seen = {"Aa", "Ab", "Ac"};
            for (int i = 0; i < 3; i++) {
                b.sees(seen[i], 1);
                due("sights " + i, b.terms.unseen(), want[i]);
            }
            b.terms.forget();
            for (int i = 0; i < 3; i++) {
                b.sees("1*", 0);
            }
            due("three", b.terms.unseen(), 7);
            b.sees("Ab", 2);
            due("the fourth counts", b.terms.unseen(), 2);
        });
        Bench.test("16: as they are now", () -> {
            Bench b = entries("ab");
            b.sees("Ab", 2);
            b.terms.keep(0);
            due("at first", b.terms.unseen(), 2);
            b.enters("Ab");
            due("entered", b.terms.unseen(), 6);
            b.terms.drops(0);
            due("dropped", b.terms.unseen(), 3);
            b.terms.undo();
            due("undone", b.terms.unseen(), 6);
            b.terms.back(0);
            due("back", b.terms.unseen(), 2);
        });
        Bench.test("16: a sight stays as it was when the entry that it used is gone", () -> {
            Bench b = entries("ab");
            b.sees("A#0", 2);
            due("at first", b.terms.unseen(), 1);
            b.terms.drops(0);
            due("dropped", b.terms.unseen(), 0);
            b.enters("Aa");
            due("entered again", b.terms.unseen(), 2);
        });
    }

    private static void keep() {
        Bench.test("17: image: 0 or 1; BAD if image is out of range", () -> {
            Bench b = entries("a");
            for (int image : new int[] {-1, 2, MIN, MAX}) {
                due("keep " + image, b.terms.keep(image), BAD);
            }
            due("back", b.terms.back(0), STATE);
            due("back", b.terms.back(1), STATE);
            due("keep 0", b.terms.keep(0), 1);
            due("keep 1", b.terms.keep(1), 1);
        });
        Bench.test("17: Returns the number of entries", () -> {
            Bench b = new Bench(THREE);
            due("none", b.terms.keep(0), 0);
            for (int many = 1; many <= 6; many++) {
                b.enters("Aa");
                due("keep", b.terms.keep(many % 2), many);
            }
        });
        Bench.test("17: in an image, each for itself", () -> {
            Bench b = entries("ab");
            b.terms.keep(0);
            due("the other", b.terms.back(1), STATE);
            b.enters("Ac");
            b.terms.keep(1);
            due("back 0", b.terms.back(0), 2);
            entriesAre(b, "ab");
            due("back 1", b.terms.back(1), 3);
            entriesAre(b, "abc");
        });
        Bench.test("17: the latest keep() of an image", () -> {
            Bench b = entries("abc");
            b.terms.keep(0);
            b.terms.drops(0);
            b.terms.drops(0);
            due("keep", b.terms.keep(0), 1);
            b.enters("Ab");
            due("back", b.terms.back(0), 1);
            entriesAre(b, "c");
        });
        Bench.test("17: nothing but the image changes", () -> {
            Bench b = entries("ab");
            b.sees("Aa", 0);
            String before = b.text("?").state();
            due("keep", b.terms.keep(0), 2);
            Bench.due("state", b.state(), before);
            due("undo", b.terms.undo(), 1);
        });
    }

    private static void back() {
        Bench.test("18: BAD if image is out of range", () -> {
            Bench b = entries("a");
            b.terms.keep(0);
            b.terms.keep(1);
            for (int image : new int[] {-1, 2, MIN, MAX}) {
                due("back " + image, b.terms.back(image), BAD);
            }
            due("undo", b.terms.count(5), 1);
        });
        Bench.test("18: STATE if this image was not kept", () -> {
            Bench b = entries("ab");
            due("back", b.terms.back(0), STATE);
            b.terms.keep(1);
            due("back", b.terms.back(0), STATE);
            entriesAre(b, "ab");
            due("undo", b.terms.count(5), 2);
        });
        Bench.test("18: (since the latest successful laws())", () -> {
            Bench b = entries("ab");
            b.terms.keep(0);
            due("laws with a fault", b.laws("?"), -10);
            due("back", b.terms.back(0), 2);
            due("laws", b.laws(THREE), 4);
            due("back", b.terms.back(0), STATE);
            due("keep", b.terms.keep(1), 0);
            due("back", b.terms.back(0), STATE);
            due("back", b.terms.back(1), 0);
        });
        Bench.test("18: Returns the number of entries then (0 if there were none)", () -> {
            Bench b = new Bench(THREE);
            b.terms.keep(0);
            for (int e = 0; e < 6; e++) {
                b.enters("Aa");
            }
            b.terms.keep(1);
            due("none", b.terms.back(0), 0);
            due("count", b.terms.count(2), 0);
            due("entry", b.terms.entry(0, 0, 0), BAD);
            due("six", b.terms.back(1), 6);
            due("full", b.enters("Aa"), FULL);
        });
        Bench.test("18: Replaces the entries by those of an image", () -> {
            Bench b = entries("abc");
            b.terms.keep(0);
            b.terms.drops(1);
            b.enters("Aa");
            b.enters("Ab");
            due("back", b.terms.back(0), 3);
            entriesAre(b, "abc");
            b.givenIs("A#2", "c");
            b.givenIs("A#3", "!2");
        });
        Bench.test("18: which is kept", () -> {
            Bench b = entries("ab");
            b.terms.keep(0);
            for (int i = 0; i < 3; i++) {
                due("back", b.terms.back(0), 2);
                entriesAre(b, "ab");
                b.terms.drops(0);
                b.enters("Ac");
                b.enters("Ac");
            }
        });
        Bench.test("18: Nothing can be undone then", () -> {
            Bench b = entries("abc");
            b.terms.keep(0);
            due("back", b.terms.back(0), 3);
            due("count", b.terms.count(5), 0);
            due("undo", b.terms.undo(), STATE);
            b.terms.drops(0);
            due("count", b.terms.count(5), 1);
            due("undo", b.terms.undo(), 0);
            entriesAre(b, "abc");
        });
        Bench.test("18: the text and the sights stay", () -> {
            Bench b = entries("abc");
            b.sees("Aa", 2);
            b.terms.keep(0);
            b.text("?");
            due("back", b.terms.back(0), 3);
            due("bytes", b.terms.count(4), 1);
            due("sights", b.terms.count(3), 1);
        });
    }

    private static void count() {
        Bench.test("19: BAD if what is out of range", () -> {
            JudgedTerms x = new JudgedTerms();
            for (int what : new int[] {-1, 6, 7, MIN, MAX}) {
                due("count " + what, x.count(what), BAD);
            }
        });
        Bench.test("19: 0 families, 1 constants", () -> {
            Bench b = new Bench("f;f;f;k1;k1;k1;k1;");
            due("families", b.terms.count(0), 3);
            due("constants", b.terms.count(1), 4);
            b.laws("f;f;");
            due("families", b.terms.count(0), 2);
            due("constants", b.terms.count(1), 0);
        });
        Bench.test("19: 2 entries, 3 sights, 4 bytes of the text, 5 how many can be undone", () -> {
            Bench b = entries("abcabc");
            for (int i = 0; i < 4; i++) {
                b.sees("Aa", 0);
            }
            for (int i = 0; i < 4; i++) {
                b.terms.drops(0);
            }
            b.text("12345678901234567890123456789012");
            due("entries", b.terms.count(2), 2);
            due("sights", b.terms.count(3), 4);
            due("bytes", b.terms.count(4), 32);
            due("undo", b.terms.count(5), 8);
        });
    }

    private static void manyCalls() {
        Bench.test("An object is used for at most 512 calls after it has been made", () -> {
            Bench b = new Bench(THREE);
            int calls = THREE.length() + 2;
            for (int i = 0; calls + 5 <= 511; calls += 5) {
                b.text("A" + "abc".charAt(i));
                due("enters", b.terms.enters(), 1);
                due("drops", b.terms.drops(0), 0);
                i = i < 2 ? i + 1 : 0;
            }
            due("the last", b.terms.count(5), 8);
        });
        Bench.test("512 calls, each the dearest", () -> {
            Bench b = new Bench("f;fA;kA;kPAPAA;");
            b.enters("PAA\\..b..b..b00..b00..b..b000");
            b.text("SPAAB.0.0.0.0.0.0.0.0.0a,#0a");
            for (int i = 0; i < 400; i++) {
                due("given", b.terms.given(-1), -10 - 27);
            }
        });
    }
}
