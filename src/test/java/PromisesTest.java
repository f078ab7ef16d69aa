/** The promises one by one, and the rules of the description that the methods share. */
public final class PromisesTest {
    private static final int BAD = JudgedTerms.BAD, STATE = JudgedTerms.STATE,
        FULL = JudgedTerms.FULL, NONE = JudgedTerms.NONE;

    /** A; B with an index of A; a: A; b: a function that gives B of its argument. */
    private static final String BASE = "f;fA;kA;kPAB0;";
    /** A; a: A; b: a binary function. */
    private static final String BINARY = "f;kA;kPAPAA;";

    public static void main(String[] args) {
        newObject();
        type();
        clear();
        laws();
        lawsFaults();
        law();
        given();
        found();
        same();
        enters();
        drops();
        undo();
        entry();
        like();
        sees();
        forget();
        unseen();
        keepAndBack();
        count();
        normalForms();
        badBytes();
        variablesInScope();
        sameTypes();
        typesOfVariables();
        tooLarge();
        hugeRequiredTypes();
        orderOfFaults();
        errorsChangeNothing();
        Bench.end("PromisesTest");
    }

    private static void due(String what, long got, long want) {
        Bench.due(what, got, want);
    }

    private static void due(String what, String got, String want) {
        Bench.due(what, got, want);
    }

    private static void newObject() {
        JudgedTerms x = new JudgedTerms();
        for (int what = 0; what < 6; what++) {
            due("new: count " + what, x.count(what), 0);
        }
        due("new: unseen", x.unseen(), 0);
        due("new: undo", x.undo(), STATE);
        due("new: back", x.back(0), STATE);
        due("new: back", x.back(1), STATE);
        due("new: entry", x.entry(0, 0, 0), BAD);
        due("new: given", x.given(-1), -10);
        due("new: found", x.found(0), -10);
        due("new: same", x.same(), -10);
        due("new: enters", x.enters(), -10);
        due("new: forget", x.forget(), 0);
        due("new: clear", x.clear(), 0);
        due("new: laws", x.laws(), 0);
        due("new: unit", new Bench().given("1*"), "*");
        due("new: family", new Bench().given("A*"), "!0");
        due("constants", BAD == -1 && STATE == -2 && FULL == -3 && NONE == -9 ? 1 : 0, 1);
    }

    private static void type() {
        JudgedTerms x = new JudgedTerms();
        due("type -1", x.type(-1), BAD);
        due("type 256", x.type(256), BAD);
        due("type min", x.type(Integer.MIN_VALUE), BAD);
        due("type max", x.type(Integer.MAX_VALUE), BAD);
        due("type 0", x.type(0), 1);
        due("type 255", x.type(255), 2);
        for (int i = 3; i <= 32; i++) {
            due("type", x.type('S'), i);
        }
        due("type when full", x.type('S'), FULL);
        due("type BAD before FULL", x.type(256), BAD);
        due("length", x.count(4), 32);
        due("given of byte 0", x.given(-1), -10);
    }

    private static void clear() {
        Bench b = new Bench();
        b.text("1*");
        due("clear", b.terms.clear(), 2);
        due("clear again", b.terms.clear(), 0);
        due("given of nothing", b.terms.given(0), -10);
        due("type after clear", b.terms.type('1'), 1);
    }

    private static void laws() {
        Bench b = new Bench();
        due("laws", b.laws("f;fA;kA;kPAB0;"), 4);
        due("text after laws", b.terms.count(4), 0);
        due("families", b.terms.count(0), 2);
        due("constants", b.terms.count(1), 2);
        due("no items", b.laws(""), 0);
        due("no families", b.terms.count(0), 0);
        due("no constants", b.terms.count(1), 0);
        due("all items", b.laws("f;f;f;kA;kB;kC;k1;"), 7);
        due("k before f", b.laws("k1;f;f1;kB*;"), 4);
        due("index uses a constant", b.laws("f;kA;fSAA;kB,aa;"), 4);
        due("index type", b.law(0, 1), "SAA");
        due("laws replace", b.laws("f;"), 1);
        due("constants replaced", b.terms.count(1), 0);

        b = new Bench(BASE);
        b.enters("Aa");
        b.sees("Aa", 2);
        b.terms.keep(0);
        b.terms.keep(1);
        due("laws with an entry", b.laws("f;"), 1);
        for (int what = 1; what < 6; what++) {
            due("count after laws " + what, b.terms.count(what), 0);
        }
        due("undo after laws", b.terms.undo(), STATE);
        due("back after laws", b.terms.back(0), STATE);
        due("back after laws", b.terms.back(1), STATE);
    }

    private static void lawsFaults() {
        Bench b = new Bench();
        due("fourth f", b.laws("f;f;f;f;"), -16);
        due("fifth k", b.laws("k1;k1;k1;k1;k1;"), -22);
        due("no such item", b.laws("f;g;"), -12);
        due("only ;", b.laws(";"), -10);
        due("f ends", b.laws("f"), -11);
        due("k ends", b.laws("k"), -11);
        due("k without a type", b.laws("k;"), -11);
        due("no ;", b.laws("k1"), -12);
        due("another byte for ;", b.laws("k1k1;"), -12);
        due("itself", b.laws("fA;"), -11);
        due("a constant is no type", b.laws("f;kA;ka;"), -16);
        due("index is a function", b.laws("f;fPAA;"), -13);
        due("index has a function", b.laws("f;fSAPAA;"), -13);
        due("index is data though written with P", b.laws("f;kA;fA;kB:A:A.:PAA\\0a;"), 4);
        due("its normal form", b.law(1, 1), "Ba");
        due("data type behind an annotation", b.laws("f;kA;fA;fB.:PAA\\0a;"), 4);
        due("its normal form", b.law(0, 2), "Ba");
        due("no entries in laws", new Bench(BASE).enters("Aa"), 1);
        b = new Bench(BASE);
        b.enters("Aa");
        due("an entry in laws", b.laws("f;fA;kB#0;"), -18);
        due("entries stay", b.terms.count(2), 1);
    }

    private static void law() {
        Bench b = new Bench("f;fSAA;kA;kPAPAB,01;");
        due("law 0 1", b.law(0, 1), "SAA");
        due("law 1 0", b.law(1, 0), "A");
        due("law 1 1", b.law(1, 1), "PAPAB,01");
        due("no index", b.terms.law(0, 0, 0), NONE);
        due("no index, far", b.terms.law(0, 0, Integer.MAX_VALUE), NONE);
        due("behind the end", b.terms.law(1, 0, 1), NONE);
        due("kind", b.terms.law(2, 0, 0), BAD);
        due("kind", b.terms.law(-1, 0, 0), BAD);
        due("which", b.terms.law(0, 2, 0), BAD);
        due("which", b.terms.law(1, 2, 0), BAD);
        due("which", b.terms.law(1, -1, 0), BAD);
        due("which", b.terms.law(0, Integer.MIN_VALUE, 0), BAD);
        due("k", b.terms.law(0, 0, -1), BAD);
        due("k", b.terms.law(1, 1, Integer.MAX_VALUE), NONE);
    }

    private static void given() {
        Bench b = new Bench(BASE);
        due("given", b.given("SAB0,a.ba"), ",a.ba");
        due("text stays", b.terms.count(4), 9);
        due("k -2", b.terms.given(-2), BAD);
        due("k min", b.terms.given(Integer.MIN_VALUE), BAD);
        due("k max", b.terms.given(Integer.MAX_VALUE), NONE);
        b.text("Aaa");
        due("BAD before the fault", b.terms.given(-2), BAD);
        due("fault before NONE", b.terms.given(1000), -12);
        due("index that is no variable", b.given("SABa,a.:PAB0ba"), ",a.ba");
        due("second component of another type", b.given("P1SAB1\\,aa"), "!9");
    }

    private static void found() {
        Bench b = new Bench(BASE);
        due("constant", b.found("b"), "PAB0");
        due("applied", b.found(".ba"), "Ba");
        due("annotated", b.found(":SAB0,a.ba"), "SAB0");
        due("first", b.found("<:SAB0,a.ba"), "A");
        due("second", b.found(">:SAB0,a.ba"), "Ba");
        due("k -2", b.text("b").terms.found(-2), BAD);
        due("k max", b.terms.found(Integer.MAX_VALUE), NONE);
        due("star", b.found("*"), "!0");
        due("pair", b.found(",aa"), "!0");
        due("function", b.found("\\0"), "!0");
        due("rest", b.found("aa"), "!1");
        due("nothing", b.found(""), "!0");
        due("type alone", b.found("A"), "!0");
    }

    private static void same() {
        Bench b = new Bench(BASE);
        due("beta", b.same("Aa.:PAA\\0a"), 1);
        due("eta", b.same("PAB0b\\.b0"), 1);
        due("not the same", new Bench("f;kA;kA;").same("Aab"), 0);
        due("unit", new Bench("k1;k1;").same("1ab"), 1);
        due("one term", b.same("Aa"), -12);
        due("second wrong", b.same("Aab"), -12);
        due("three terms", b.same("Aaaa"), -13);
        due("text stays", b.terms.count(4), 4);
    }

    private static void enters() {
        Bench b = new Bench(BASE);
        due("fault", b.enters("Ab"), -11);
        due("text stays", b.terms.count(4), 2);
        for (int e = 1; e <= 6; e++) {
            due("enters", b.enters("PAB0b"), e);
            due("text is empty", b.terms.count(4), 0);
        }
        due("FULL before the fault", b.enters("Ab"), FULL);
        due("text stays", b.terms.count(4), 2);
        due("type in normal form", b.entry(5, 0), "PAB0");
        due("term in normal form", b.entry(5, 1), "\\.b0");
        due("entry used", b.given("Ba.#5a"), ".ba");
        due("no seventh", b.given("Ba.#6a"), "!4");
        due("entry in a type", new Bench(BASE).enters("Aa"), 1);
    }

    private static void drops() {
        Bench b = new Bench("f;kA;kA;kA;");
        due("none", b.terms.drops(0), BAD);
        b.enters("Aa");
        b.enters("Ab");
        b.enters("Ac");
        due("below", b.terms.drops(-1), BAD);
        due("above", b.terms.drops(3), BAD);
        due("middle", b.terms.drops(1), 2);
        due("first stays", b.entry(0, 1), "a");
        due("behind moves", b.entry(1, 1), "c");
        due("gone", b.terms.entry(2, 0, 0), BAD);
        due("last", b.terms.drops(1), 1);
        due("only", b.terms.drops(0), 0);
        due("empty", b.terms.drops(0), BAD);
    }

    private static void undo() {
        Bench b = new Bench("f;kA;kA;");
        for (int i = 0; i < 5; i++) {
            b.enters("Aa");
        }
        due("can be undone", b.terms.count(5), 5);
        for (int i = 0; i < 5; i++) {
            b.terms.drops(0);
        }
        due("at most 8", b.terms.count(5), 8);
        due("undo", b.terms.undo(), 7);
        due("entries", b.terms.count(2), 1);
        due("failed calls don't count", b.enters("A"), -11);
        due("failed calls don't count", b.terms.drops(1), BAD);
        due("still", b.terms.count(5), 7);
        for (int i = 6; i >= 0; i--) {
            due("undo", b.terms.undo(), i);
        }
        due("the two oldest can't be undone", b.terms.count(2), 2);
        due("no more", b.terms.undo(), STATE);

        b = new Bench("f;kA;kA;");
        b.enters("Aa");
        b.enters("Ab");
        b.terms.drops(0);
        b.text("Aa");
        due("undo a drop", b.terms.undo(), 2);
        due("order is back", b.entry(0, 1) + b.entry(1, 1), "ab");
        due("text is not undone", b.terms.count(4), 2);
        due("enters after undo", b.enters("Aa"), 3);
        due("counted", b.terms.count(5), 3);
    }

    private static void entry() {
        Bench b = new Bench(BASE);
        b.enters("S1A,*a");
        due("type", b.entry(0, 0), "S1A");
        due("term", b.entry(0, 1), ",*a");
        due("e", b.terms.entry(1, 0, 0), BAD);
        due("e", b.terms.entry(-1, 0, 0), BAD);
        due("part", b.terms.entry(0, 2, 0), BAD);
        due("part", b.terms.entry(0, -1, 0), BAD);
        due("k", b.terms.entry(0, 0, -1), BAD);
        due("behind", b.terms.entry(0, 0, 3), NONE);
        due("far", b.terms.entry(0, 1, Integer.MAX_VALUE), NONE);
    }

    private static void like() {
        Bench b = new Bench("f;kA;kA;");
        b.enters("Aa");
        b.enters("Ab");
        b.enters("A:Aa");
        b.enters("1*");
        due("same", b.terms.like(0, 2), 2);
        due("itself", b.terms.like(1, 1), 2);
        due("type only", b.terms.like(0, 1), 1);
        due("nothing", b.terms.like(3, 1), 0);
        due("e", b.terms.like(4, 0), BAD);
        due("f", b.terms.like(0, 4), BAD);
        due("e", b.terms.like(-1, 0), BAD);
        due("f", b.terms.like(0, -1), BAD);
    }

    private static void sees() {
        Bench b = new Bench("f;kA;kA;");
        due("like", b.sees("Aa", 3), BAD);
        due("like", b.sees("Aa", -1), BAD);
        due("fault", b.sees("A", 0), -11);
        due("text stays", b.terms.count(4), 1);
        for (int i = 1; i <= 4; i++) {
            due("sees", b.sees("Aa", 2), i);
            due("text is empty", b.terms.count(4), 0);
        }
        due("FULL before the fault", b.sees("A", 0), FULL);
        due("BAD before FULL", b.sees("A", 3), BAD);
        due("sights", b.terms.count(3), 4);
        due("no undo", b.terms.undo(), STATE);
    }

    private static void forget() {
        Bench b = new Bench("f;kA;kA;");
        b.enters("Ab");
        b.sees("Aa", 2);
        b.sees("Ab", 2);
        due("unseen", b.terms.unseen(), 0);
        due("forget", b.terms.forget(), 2);
        due("forget again", b.terms.forget(), 0);
        due("unseen", b.terms.unseen(), 1);
        due("sees again", b.sees("Aa", 1), 1);
    }

    private static void unseen() {
        Bench b = new Bench("f;kA;kA;");
        b.enters("Aa");
        b.enters("Ab");
        b.enters("1*");
        b.enters("Aa");
        due("no sights", b.terms.unseen(), 15);
        b.sees("A#0", 2);
        due("like 2", b.terms.unseen(), 9);
        b.terms.forget();
        b.sees("Aa", 1);
        due("like 1", b.terms.unseen(), 2);
        b.terms.forget();
        b.sees("Aa", 0);
        due("like 0", b.terms.unseen(), 4);
        b.terms.forget();
        b.sees("11*".substring(1), 0);
        due("not the unit", b.terms.unseen(), 11);
        b.sees("Ab", 1);
        due("two sights", b.terms.unseen(), 9);
        b.terms.drops(0);
        due("as they are now", b.terms.unseen(), 4);
        b.terms.undo();
        due("as they are now", b.terms.unseen(), 9);
    }

    private static void keepAndBack() {
        Bench b = new Bench("f;kA;kA;");
        due("keep", b.terms.keep(2), BAD);
        due("keep", b.terms.keep(-1), BAD);
        due("back", b.terms.back(2), BAD);
        due("back", b.terms.back(-1), BAD);
        due("back of none", b.terms.back(0), STATE);
        due("keep no entries", b.terms.keep(0), 0);
        b.enters("Aa");
        b.enters("Ab");
        due("keep two", b.terms.keep(1), 2);
        b.terms.drops(0);
        b.sees("Ab", 2);
        b.text("Aa");
        due("back", b.terms.back(1), 2);
        due("entries", b.entry(0, 1) + b.entry(1, 1), "ab");
        due("nothing can be undone", b.terms.count(5), 0);
        due("undo", b.terms.undo(), STATE);
        due("sights stay", b.terms.count(3), 1);
        due("text stays", b.terms.count(4), 2);
        due("back to none", b.terms.back(0), 0);
        due("entries", b.terms.count(2), 0);
        due("the image is kept", b.terms.back(1), 2);
        b.terms.drops(1);
        due("the image does not change", b.terms.back(1), 2);
        due("keep again", b.terms.keep(0), 2);
        due("laws with a fault", b.laws("x"), -10);
        due("images stay", b.terms.back(0), 2);
        due("laws", b.laws("f;"), 1);
        due("images are gone", b.terms.back(0), STATE);
        due("images are gone", b.terms.back(1), STATE);
    }

    private static void count() {
        Bench b = new Bench("f;f;kA;kA;kA;");
        b.enters("Aa");
        b.enters("Ab");
        b.sees("Aa", 0);
        b.enters("Ac");
        b.enters("Ac");
        b.text("SSSSSSS");
        b.terms.drops(0);
        b.terms.undo();
        b.terms.undo();
        due("families", b.terms.count(0), 2);
        due("constants", b.terms.count(1), 3);
        due("entries", b.terms.count(2), 3);
        due("sights", b.terms.count(3), 1);
        due("bytes", b.terms.count(4), 7);
        due("undo", b.terms.count(5), 3);
        due("what", b.terms.count(6), BAD);
        due("what", b.terms.count(-1), BAD);
        due("what", b.terms.count(Integer.MIN_VALUE), BAD);
    }

    private static void normalForms() {
        Bench b = new Bench(BINARY);
        due("eta of a binary function", b.given("PAPAAb"), "\\\\..b01");
        due("eta of a partial one", b.given("PAA.ba"), "\\..ba0");
        due("new variables are numbered on", b.given("PAPAPAA\\b"), "\\\\\\..b12");
        due("beta", b.given("A.:PAA\\..b00a"), "..baa");
        due("beta twice", b.given("A..:PAPAA\\\\..b10a..baa"), "..b..baaa");
        due("components", b.given("A<:SAA,a..baa"), "a");
        due("components", b.given("A>:SAA,a..baa"), "..baa");
        due("unit under pairs", b.given("PS1A1\\<0"), "\\*");
        due("eta of a pair variable", b.given("PSAASAA\\0"), "\\,<0>0");
        due("pairs as arguments", b.given("PSAASAA\\,>0<0"), "\\,>0<0");

        b = new Bench("f;kSAPAA;kPS1A1;fSAA;");
        due("pair with a function", b.given("SAPAAa"), ",<a\\.>a0");
        due("unit function", b.given("PS1A1b"), "\\*");
        due("function in a pair applied", b.found(".>a<a"), "A");
        due("function in a pair applied", b.given("A.>a<a"), ".>a<a");

        b = new Bench("f;kPSASA1A;kPAA;fA;");
        due("argument by its type", b.given("PASA1\\,0*"), "\\,0*");
        due("eta inside an argument", b.given("PSASA1A\\.a0"), "\\.a,<0,<>0*");
        due("function as an index", b.found(":PABb.:PAA\\0"), "!4");
        due("variable of another type", b.found(":PAB.:PAA\\.b00\\:B.b00"), "!20");

        b = new Bench("f;fA;kA;kPAPB0A;kB.:PAA\\0a;");
        due("law in normal form", b.law(1, 2), "Ba");
        due("type inferred in normal form", b.found("..bac"), "A");
        due("entries are replaced", b.enters("PAA\\..ba:Bac".replace("c", "c")), 1);
        due("entry's term", b.entry(0, 1), "\\..bac");
        due("entry applied", b.given("A.#0.#0a"), "..bac");
    }

    private static void badBytes() {
        Bench b = new Bench(BASE);
        due("no such family", b.given("Ca"), "!0");
        due("no such constant", b.given("Ac"), "!1");
        due("no variable", b.given("A0"), "!1");
        due("term for a type", b.given("aa"), "!0");
        due("type for a term", b.given("AA"), "!1");
        due("space", b.given("A a"), "!1");
        due("byte 200", b.given("A" + (char) 200), "!1");
        due("# at the end", b.given("A#"), "!2");
        due("# and no digit", b.given("A#a"), "!2");
        due("# and no entry", b.given("A#0"), "!2");
        due("# twice", b.given("A##0"), "!2");
        due("* for a family", b.given("A*"), "!1");
        due("* for a pair", b.given("S11*"), "!3");
        due("comma for unit", b.given("1,**"), "!1");
        due("comma for a function", b.given("P11,**"), "!3");
        due("\\ for unit", b.given("1\\*"), "!1");
        due("\\ for a pair", b.given("S11\\*"), "!3");
        due("* behind .", b.given("A.*a"), "!2");
        due("\\ behind .", b.given("A.\\0a"), "!2");
        due("comma behind <", b.given("A<,aa"), "!2");
        due("\\ behind >", b.given("A>\\a"), "!2");
        due("; is no term", b.given("Aa;"), "!2");
        due("ends in a type", b.given("SA"), "!2");
        due("ends in an index", b.given("B"), "!1");
        due("ends before the term", b.given("A"), "!1");
        due("ends in a pair", b.given("S11,*"), "!5");
        due("ends in a function", b.given("P11\\"), "!4");
        due("ends behind .", b.given("A."), "!2");
        due("ends before the argument", b.given("Ba.b"), "!4");
        due("ends behind :", b.given("A:"), "!2");
        due("ends behind : T", b.given("A:A"), "!3");
        due("f is no type", b.given("f"), "!0");
    }

    private static void variablesInScope() {
        Bench b = new Bench("f;kA;");
        String ten = "SASASASASASASASASASA";
        due("ten variables in a type", b.given(ten + "A"), "!21");
        due("eleven by S", b.given(ten + "S"), "!20");
        due("eleven by P", b.given(ten + "P"), "!20");
        due("eleven in the first type", b.given("SASASASASASASASASASASAA"), "!20");
        due("ten functions", b.given("PAPAPAPAPAPAPAPAPAPAA\\\\\\\\\\\\\\\\\\\\9"),
            "\\\\\\\\\\\\\\\\\\\\9");
        due("variable 8 of ten", b.given("PAPAPAPAPAPAPAPAPAPAA\\\\\\\\\\\\\\\\\\\\8"),
            "\\\\\\\\\\\\\\\\\\\\8");
        due("variable 9 of nine", b.given("PAPAPAPAPAPAPAPAPAA\\\\\\\\\\\\\\\\\\9"), "!28");

        b = new Bench("f;fA;kPAPAPAPAPAPAPAPAA;");
        due("eta to ten variables", b.given("P1P1PAPAPAPAPAPAPAPAA\\\\a"),
            "\\\\\\\\\\\\\\\\\\\\........a23456789");
        due("eleven by a function type", b.given("P1P1P1PAPAPAPAPAPAPAPAA"), "!20");
        due("eleven in an inferred type", b.given("P1P1P1A\\\\\\....a"), "!14");

        b = new Bench("kS1S1S1S1S1S1S1S11;");
        due("ten in an inferred type", b.given("P1P11\\\\<a"), "\\\\*");
        due("eleven in an inferred type", b.given("P1P1P11\\\\\\<a"), "!11");
    }

    private static void sameTypes() {
        Bench b = new Bench("f;fA;kA;kA;kBa;");
        due("same index", b.given("B.:PAA\\0ac"), "c");
        due("other index", b.given("Bbc"), "!2");
        due("other family", b.given("Ac"), "!1");
        due("types of variables", b.given("PAPB0B0\\\\1"), "\\\\1");
        due("types of variables", b.given("PAPAPB0B1\\\\\\2"), "!12");
        due("renumbered binders", new Bench(BASE).given("P1PAB1\\b"), "\\\\.b1");
        due("unit index", new Bench("f1;kA*;").given("P1P1A0\\\\a"), "\\\\a");
        due("index by eta", new Bench("f;fSAA;kSAA;kBa;").given("B,<a>ab"), "b");
        due("argument's type", b.given("A.:PBaA\\aa"), "!9");
        due("argument's type", b.given("A.:PBaA\\ac"), "a");
        due("argument in the result", b.found(".:PAPB0A\\\\aa"), "PBaA");
        due("second with the first", b.found(">:SAB0,a:Bac"), "Ba");
        due("second with the first", b.found(":SAB0,b:Bac"), "!7");
    }

    /** Types that depend on variables, for each way to read a term under a variable. */
    private static void typesOfVariables() {
        Bench b = new Bench(BASE);
        b.givenIs("PASAB1\\,0.b0", "\\,0.b0");
        b.givenIs("PASAB1\\,a.b0", "!9");
        b.givenIs("PASAB1\\,0.ba", "!9");
        b.givenIs("PAB0\\:B0.b0", "\\.b0");
        b.givenIs("PAB0\\:Ba.ba", "!5");
        b.givenIs("PAA\\:A0", "\\0");
        b.givenIs("PSAB0B<0\\>0", "\\>0");
        b.givenIs("PSAB0B<0\\.b<0", "\\.b<0");
        b.givenIs("PSAB0SAB1\\0", "\\,<0>0");
        b.givenIs("PAPB0SAB2\\\\,01", "\\\\,01");
        b.givenIs("PAPB0SAB2\\\\,a1", "!13");
        b.givenIs("PAB0\\.:PAB1\\.b10", "\\.b0");
        b.givenIs("PAB0\\.:PAB1\\.b1a", "!5");
        b.givenIs("PAPB0B0\\\\>:SAB2,01", "\\\\1");
        b.givenIs("PASPB0B0B0\\,\\1.b0", "\\,\\1.b0");
        // Number 1 is a variable in the type's last part alone.
        b.givenIs("P1S11\\,1*", "!7");
        b = new Bench();
        due("laws", b.laws("f;fA;fSAB0;kA;kPAB0;kPAPB0C,01;"), 6);
        due("an index of two variables", b.law(1, 2), "PAPB0C,01");
        b.foundIs(".ca", "PBaC,a0");
        b.foundIs("..ca.ba", "C,a.ba");
        b.givenIs("PAPB0C,01c", "\\\\..c01");
        b.givenIs("PAPB0C,01\\.c0", "\\\\..c01");
        b.givenIs("PAPB0C,11", "!7");
    }

    private static void tooLarge() {
        // Each of these doubles: 1, 5, 13, 29, 61 signs for pairs of pairs.
        Bench b = new Bench(BINARY);
        due("13", b.enters("PAA\\..b..b00..b00"), 1);
        due("its size", b.entry(0, 1), "\\..b..b00..b00");
        due("16 leaves: 61 signs", b.given("A.#0.#0a"), "!1");
        due("8 leaves: 29 signs", b.given("A.#0..baa"), "..b..b..baa..baa..b..baa..baa");
        due("too large inside", b.given("A..ba.#0.#0a"), "!5");
        due("found of a large term", b.found(".#0.#0a"), "!0");
        due("too large inside a function", b.enters("PAA\\..b0..b.#00..b.#0.#00a"), -10 - 18);
        due("ends before the argument", b.found(".#0"), "!3");

        // Pairs whose parts are small enough.
        b = new Bench(BINARY);
        b.enters("A..b..b..baa..baa..b..baa..baa");
        due("29 signs", b.terms.entry(0, 1, 28) > 0 && b.terms.entry(0, 1, 29) == NONE ? 1 : 0, 1);
        due("pair of 59 signs", b.given("SAA,#0#0"), "!3");
        due("pair of 31 signs", b.given("SAA,#0a").length(), 31);
        due("inner pair is too large", b.given("S1SAA,*,#0#0"), "!7");
        due("function of 59 and more", b.given("P1SAA\\,#0#0"), "!6");
        due("function of 51 signs", b.given("P1A\\..b#0#0"), "!4");

        // Functions that are one sign too large.
        b = new Bench(BINARY);
        due("12 leaves", b.enters("A..b..b..baa..baa..b..baa..baa"), 1);
        due("49 signs", b.enters("A..b#0..b..baa..b..baaa"), 2);
        due("its size", b.entry(1, 1).length(), 49);
        due("50 signs", b.given("P1A\\#1").length(), 50);
        due("51 signs", b.given("P1P1A\\\\#1"), "!5");
        due("51 signs as a pair", b.given("S1A,*#1"), "!3");

        // Types.
        b = new Bench("f;fA;kA;kPAPAA;");
        b.enters("A..b..b..baa..baa..b..baa..baa");
        b.enters("A..b#0..b..baa..b..baaa");
        due("type of 50 signs", b.given("B#1:B#1"), "!7");
        due("type of 51 signs", b.given("SB#11"), "!0");
        due("type of 52 signs", b.given("S1B#1"), "!0");
        due("type inside is fine first", b.given("PB#1B#1"), "!0");
        due("inferred type of 52 signs", b.found(".:PAPB01\\\\*#1"), "!0");
        due("inferred type of 32 signs", b.found(".:PAPB01\\\\*#0").length(), 32);
        due("inferred second type too large", b.found(">:SAPSB0B01,#0\\*"), "!0");
        due("the pair itself is fine", b.found("<:SAPSB0B01,#0\\*"), "A");
    }

    private static void hugeRequiredTypes() {
        // The second component is required to have a type of some 13 to the 11th signs.
        Bench b = new Bench("f;fA;kA;kPAPAA;");
        due("enters", b.enters("PAA\\..b..b..b00..b00..b..b000"), 1);
        due("huge type", b.given("SPAAB.0.0.0.0.0.0.0.0.0a,#0a"), "!27");
        due("huge type, not examined", b.given("SPAAS1B.0.0.0.0.0a,#0,*a"), "!23");
        due("huge type that nobody looks at", b.given("SPAASPB.0.0.0a11,#0,\\**"),
            ",\\..b..b..b00..b00..b..b000,\\**");
        due("variable of a huge type", b.given("SPAAPB.0.0.0a1,#0\\>0"), "!19");
    }

    private static void orderOfFaults() {
        Bench b = new Bench(BASE);
        due("P's first type before the second", b.given("PPAAX"), "!1");
        due("bad byte before P's first type is judged", b.given("PPAX"), "!3");
        due("no function, before the argument", b.given("A.aX"), "!2");
        due("no pair", b.given("A<bX"), "!2");
        due("no pair", b.given("A>a"), "!2");
        due("argument before the result", b.given("A.bb"), "!3");
        due("result after the argument", b.given("A.ba"), "!1");
        due("first component before the comma of the second", b.given("SAA,b,"), "!4");
        due("wrong term before the rest", b.given("Aba"), "!1");
        due("annotation of another type", b.given("A:1*"), "!1");
        due("inside the annotation first", b.given("A:1a"), "!3");
        due("first fault only", b.given("A:1a,"), "!3");
        due("inner part first", b.given("Ba.b:1*"), "!4");
    }

    private static void errorsChangeNothing() {
        Bench b = new Bench(BASE);
        b.enters("Aa");
        b.enters("PAB0b");
        b.sees("Aa", 1);
        b.terms.keep(1);
        b.text("f;kA;kB;");
        String before = b.state();
        due("laws", b.terms.laws(), -16);
        due("given", b.terms.given(0), -10);
        due("found", b.terms.found(0), -10);
        due("same", b.terms.same(), -10);
        due("enters", b.terms.enters(), -10);
        due("sees", b.terms.sees(0), -10);
        due("drops", b.terms.drops(2), BAD);
        due("back", b.terms.back(0), STATE);
        due("keep", b.terms.keep(2), BAD);
        due("state", b.state(), before);
        due("checks as before", b.given("Ba.#1#0"), ".ba");
    }
}
