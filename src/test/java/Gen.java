import java.util.List;
import java.util.Random;

/** Writes texts at random, most of them by the types of the Model, so that many have no fault. */
final class Gen {
    private static final String BYTES = "1ABCSP0123456789abcd#:.<>*,\\;fk";
    private static final String[] LAWS = {
        "f;fA;kA;kPAB0;", "f;kA;kPAPAA;", "f;fA;kA;kPAPAA;kPAB0;", "f;kSASA1;kA;",
        "f1;kA*;kP1A0;", "f;fSAA;kA;kPSAAB0;", "f;fA;fB.:PAA\\0a;", "f;fA;kA;fBa;kPBaC0;",
        "f;kSAPAA;kPSAAA;", "f;fA;kSAPAB0;kPSAB0A;", "f;kPAPAPAPAPAPAPAPAPAA;kA;",
        "f;fA;kSPAAB.0.0<:SA1,..", "f;kA;fA;kSPAAB.0.0a;kPAA;", "f;fSA1;kPAB,0*;kA;",
        "f;fA;kPASB0B0;kA;kPAPAA;", "f;kA;kPSAAPAA;kPASAA;", "f;fA;kA;kPAPB0PB0B0;kBa;",
        "f;fA;fSAB0;kA;kPAB0;kC,a.ba;", "k1;kP11;kS11;kP1P11;", "f;fS11;kB,**;kPS11B0;",
        "f;kSASASASASAA;kPAPAA;", "f;fA;kSSAAPAB0;kPAPAA;", "f;fA;kPAPASB0B1;kA;kPAPAA;",
    };

    private final Random random;
    private final Model model;

    Gen(Random random, Model model) {
        this.random = random;
        this.model = model;
    }

    private boolean chance(int percent) {
        return random.nextInt(100) < percent;
    }

    String laws() {
        if (chance(70)) {
            return mutated(LAWS[random.nextInt(LAWS.length)], 8);
        }
        StringBuilder all = new StringBuilder();
        Model declared = new Model();
        Gen inner = new Gen(random, declared);
        int items = 1 + random.nextInt(7);
        for (int i = 0; i < items; i++) {
            String item = chance(40) ? "f" : chance(40) ? "f" + inner.type(2) : "k" + inner.type(3);
            declared.clear();
            String more = all + item + ";";
            for (char c : more.toCharArray()) {
                declared.type(c);
            }
            if (declared.laws() >= 0 && more.length() <= 32) {
                all.append(item).append(';');
            }
        }
        return mutated(all.toString(), 10);
    }

    String given() {
        String type = type(1 + random.nextInt(4));
        return mutated(type + termOf(type), 25);
    }

    String same() {
        String type = type(random.nextInt(4));
        return mutated(type + termOf(type) + termOf(type), 20);
    }

    String found() {
        return mutated(inferred(List.of(), 4), 25);
    }

    String type(int fuel) {
        return type(List.of(), fuel, 3);
    }

    private String termOf(String type) {
        try {
            Model.Reading r = new Model.Reading(type, model.laws, model.entries);
            return term(r.type(List.of()).in(List.of()), List.of(), 5);
        } catch (Model.Fault f) {
            return inferred(List.of(), 3);
        }
    }

    private String mutated(String text, int percent) {
        StringBuilder s = new StringBuilder(text);
        while (chance(percent)) {
            int at = random.nextInt(s.length() + 1);
            char c = chance(95) ? BYTES.charAt(random.nextInt(BYTES.length()))
                : (char) random.nextInt(256);
            int how = random.nextInt(4);
            if (how == 0 || s.length() == 0) {
                s.insert(at, c);
            } else if (how == 1) {
                s.deleteCharAt(at % s.length());
            } else if (how == 2) {
                s.setCharAt(at % s.length(), c);
            } else {
                s.setLength(at);
            }
        }
        return s.toString();
    }

    private String type(List<Model.Value> scope, int fuel, int termFuel) {
        int families = model.laws.indexTypes.size();
        if (fuel > 0 && chance(65)) {
            boolean function = chance(60);
            String one = type(scope, function ? fuel - 2 : fuel - 1, termFuel);
            try {
                Model.Reading r = new Model.Reading(one, model.laws, model.entries);
                Model.Type t = r.type(scope).in(scope);
                Model.Value x = Model.variable(scope.size(), t);
                return (function ? "P" : "S") + one + type(Model.with(scope, x), fuel - 1, termFuel);
            } catch (Model.Fault f) {
                return (function ? "P" : "S") + one + "1";
            }
        }
        if (families == 0 || chance(10)) {
            return "1";
        }
        int family = random.nextInt(families);
        String name = String.valueOf((char) ('A' + family));
        if (model.laws.indexTypes.get(family) == null) {
            return name;
        }
        return name + term(model.laws.indexTypes.get(family).in(List.of()), scope, termFuel);
    }

    private String term(Model.Type type, List<Model.Value> scope, int fuel) {
        boolean direct = chance(75) && scope.size() < 10;
        if (type instanceof Model.Unit && direct) {
            return "*";
        }
        if (type instanceof Model.Bound b && direct) {
            Model.Value x = Model.variable(scope.size(), b.first());
            if (b.function()) {
                return "\\" + term(b.second().apply(x), Model.with(scope, x), fuel);
            }
            String one = term(b.first(), scope, fuel - 1);
            try {
                Model.Reading r = new Model.Reading(one, model.laws, model.entries);
                Model.Value v = r.check(b.first(), scope).in(scope);
                return "," + one + term(b.second().apply(v), scope, fuel - 1);
            } catch (Model.Fault f) {
                return "," + one + "*";
            }
        }
        String wanted = Model.show(type, scope.size());
        String last = "";
        for (int i = 0; i < 4 + fuel; i++) {
            last = inferred(scope, fuel);
            try {
                Model.Reading r = new Model.Reading(last, model.laws, model.entries);
                String got = Model.show(r.infer(scope).type(), scope.size());
                if (r.next == last.length() && got.equals(wanted)) {
                    return last;
                }
            } catch (Model.Fault f) {
                continue;
            }
        }
        return last;
    }

    private String inferred(List<Model.Value> scope, int fuel) {
        String s = head(scope, fuel);
        for (int i = 0; i < 6 && chance(90); i++) {
            try {
                Model.Reading r = new Model.Reading(s, model.laws, model.entries);
                Model.Type t = r.infer(scope).type();
                if (!(t instanceof Model.Bound b)) {
                    return s;
                }
                if (b.function()) {
                    s = "." + s + (fuel > 0 ? term(b.first(), scope, fuel - 2) : head(scope, 0));
                } else {
                    s = (chance(50) ? "<" : ">") + s;
                }
            } catch (Model.Fault f) {
                return s;
            }
        }
        return s;
    }

    private String head(List<Model.Value> scope, int fuel) {
        int constants = model.laws.constants.size();
        if (fuel > 2 && chance(15)) {
            String type = type(scope, 2, fuel - 3);
            try {
                Model.Reading r = new Model.Reading(type, model.laws, model.entries);
                return ":" + type + term(r.type(scope).in(scope), scope, fuel - 3);
            } catch (Model.Fault f) {
                return ":" + type + "*";
            }
        }
        if (!scope.isEmpty() && chance(50)) {
            return String.valueOf(random.nextInt(scope.size()));
        }
        if (!model.entries.isEmpty() && chance(40)) {
            return "#" + random.nextInt(model.entries.size());
        }
        return constants == 0 ? "*" : String.valueOf((char) ('a' + random.nextInt(constants)));
    }
}
