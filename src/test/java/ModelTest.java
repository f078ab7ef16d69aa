import java.util.Random;

/** Long runs of calls at random, each answer compared with the Model's. */
public final class ModelTest {
    private static int wrong = 0;

    private final Random random;
    private final JudgedTerms terms = new JudgedTerms();
    private final Model model = new Model();
    private final Gen gen;
    private final Grower grower;
    private final int mode;
    private final StringBuilder log = new StringBuilder();
    private boolean failed = false;
    private int calls = 0;
    private static final int[] good = new int[6], bad = new int[6];

    private ModelTest(long seed) {
        random = new Random(seed);
        gen = new Gen(random, model);
        grower = new Grower(random, model);
        mode = (int) (seed % 4);
    }

    private String laws() {
        return mode < 2 ? gen.laws() : mode == 2 ? grower.laws() : grower.wideLaws();
    }

    private String given() {
        return mode < 2 ? gen.given() : mode == 2 ? grower.given() : grower.wide();
    }

    private String found() {
        return mode < 2 ? gen.found() : mode == 2 ? grower.found() : grower.wide();
    }

    private String same() {
        return mode < 2 ? gen.same() : mode == 2 ? grower.same() : grower.wide();
    }

    public static void main(String[] args) {
        int runs = args.length > 0 ? Integer.parseInt(args[0]) : 800;
        int from = args.length > 1 ? Integer.parseInt(args[1]) : 0;
        for (int seed = from; seed < from + runs && wrong < 5; seed++) {
            new ModelTest(seed).run(seed);
        }
        System.out.println("ModelTest: " + runs + " runs, " + wrong + " wrong");
        String[] readers = {"laws", "given", "found", "same", "enters", "sees"};
        for (int i = 0; i < readers.length; i++) {
            System.out.println("  " + readers[i] + ": " + good[i] + " without a fault, " + bad[i] + " with");
        }
        if (wrong != 0) {
            System.exit(1);
        }
    }

    private void run(int seed) {
        text(laws());
        due("laws()", terms.laws(), model.laws());
        while (calls < 500 && !failed) {
            step();
        }
        if (failed) {
            wrong++;
            System.out.println("seed " + seed + ": " + log);
        }
    }

    private void due(String call, int got, int want) {
        calls++;
        log.append(call).append(" = ").append(got).append('\n');
        if (got != want && !failed) {
            failed = true;
            log.append("  but due is ").append(want).append('\n');
        }
    }

    private void text(String s) {
        due("clear()", terms.clear(), model.clear());
        log.append(s).append(": ");
        for (char c : s.toCharArray()) {
            due("type(" + (int) c + ")", terms.type(c), model.type(c));
        }
    }

    private int some(int below) {
        return random.nextInt(below + 2) - 1;
    }

    private void tally(int what, int answer) {
        (answer >= 0 ? good : bad)[what]++;
    }

    private void step() {
        int dice = random.nextInt(100);
        if (dice < 2) {
            text(laws());
            due("laws()", terms.laws(), model.laws());
            tally(0, model.count(4) == 0 ? 0 : -1);
        } else if (dice < 25) {
            text(given());
            ask();
        } else if (dice < 40) {
            text(found());
            int many = model.found(-1);
            tally(2, many);
            due("found(-1)", terms.found(-1), many);
            for (int k = random.nextInt(4); k < many; k += 1 + random.nextInt(9)) {
                due("found(" + k + ")", terms.found(k), model.found(k));
            }
        } else if (dice < 50) {
            text(same());
            tally(3, model.same());
            due("same()", terms.same(), model.same());
        } else if (dice < 70) {
            text(given());
            int answer = model.enters();
            tally(4, answer);
            due("enters()", terms.enters(), answer);
            if (answer > 0) {
                entry(answer - 1);
            }
        } else if (dice < 75) {
            text(given());
            int like = some(3);
            int answer = model.sees(like);
            tally(5, answer);
            due("sees(" + like + ")", terms.sees(like), answer);
            due("unseen()", terms.unseen(), model.unseen());
        } else {
            small(random.nextInt(13), some(6), some(3), some(20));
        }
    }

    private void ask() {
        int many = model.given(-1);
        tally(1, many);
        due("given(-1)", terms.given(-1), many);
        for (int k = random.nextInt(4); k < many; k += 1 + random.nextInt(9)) {
            due("given(" + k + ")", terms.given(k), model.given(k));
        }
        due("given(99)", terms.given(99), model.given(99));
    }

    private void entry(int e) {
        for (int part = 0; part < 2; part++) {
            for (int k = 0; model.entry(e, part, k) > 0; k++) {
                due("entry(" + e + ", " + part + ", " + k + ")", terms.entry(e, part, k),
                    model.entry(e, part, k));
            }
        }
    }

    private void small(int which, int e, int f, int k) {
        switch (which) {
            case 0:
            case 1:
                due("drops(" + e + ")", terms.drops(e), model.drops(e));
                break;
            case 2:
            case 3:
                due("undo()", terms.undo(), model.undo());
                break;
            case 4:
                due("entry", terms.entry(e, f, k), model.entry(e, f, k));
                break;
            case 5:
                due("like(" + e + ", " + f + ")", terms.like(e, f), model.like(e, f));
                break;
            case 6:
                due("forget()", terms.forget(), model.forget());
                break;
            case 7:
                due("unseen()", terms.unseen(), model.unseen());
                break;
            case 8:
                due("keep(" + f + ")", terms.keep(f), model.keep(f));
                break;
            case 9:
                due("back(" + f + ")", terms.back(f), model.back(f));
                break;
            case 10:
                due("count(" + e + ")", terms.count(e), model.count(e));
                break;
            case 11:
                due("law", terms.law(f, e, k), model.law(f, e, k));
                break;
            default:
                due("given(" + f + ")", terms.given(f), model.given(f));
        }
    }
}
