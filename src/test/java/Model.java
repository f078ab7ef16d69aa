import java.util.ArrayDeque;
import java.util.ArrayList;
import java.util.HashMap;
import java.util.List;
import java.util.Map;
import java.util.function.Function;

/**
 * The document once more, in another way: types and terms become Java functions of the values of
 * their variables, as they are written; what is left of a term carries its own type. ModelTest
 * compares the class with it.
 */
final class Model {
    static final int LIMIT = 50, VARIABLES = 10;

    static final class Fault extends RuntimeException {
        final int where;

        Fault(int where) {
            super(null, null, false, false);
            this.where = where;
        }
    }

    private static final class TooLarge extends RuntimeException {
        TooLarge() {
            super(null, null, false, false);
        }
    }

    // ---- values

    interface Type {
    }

    record Unit() implements Type {
    }

    record Family(char name, Type indexType, Value index) implements Type {
    }

    /** A pair type or a function type. */
    record Bound(boolean function, Type first, Function<Value, Type> second) implements Type {
    }

    interface Value {
    }

    record Star() implements Value {
    }

    record Pair(Value first, Value second) implements Value {
    }

    record Closure(Function<Value, Value> body) implements Value {
    }

    /** What is left of a term: a name, or a sign in front of another one. */
    record Left(char sign, Left inner, Value argument, Type argumentType, Type type)
        implements Value {
    }

    static Value first(Value v) {
        if (v instanceof Pair p) {
            return p.first();
        }
        Left x = (Left) v;
        return new Left('<', x, null, null, ((Bound) x.type()).first());
    }

    static Value second(Value v) {
        if (v instanceof Pair p) {
            return p.second();
        }
        Left x = (Left) v;
        return new Left('>', x, null, null, ((Bound) x.type()).second().apply(first(v)));
    }

    static Value apply(Value f, Value v) {
        if (f instanceof Closure c) {
            return c.body().apply(v);
        }
        Left x = (Left) f;
        Bound b = (Bound) x.type();
        return new Left('.', x, v, b.first(), b.second().apply(v));
    }

    static Left variable(int n, Type type) {
        return new Left((char) ('0' + n), null, null, null, type);
    }

    // ---- normal forms

    private static final class Out {
        final StringBuilder signs = new StringBuilder();

        void put(char c) {
            if (signs.length() == LIMIT) {
                throw new TooLarge();
            }
            signs.append(c);
        }

        Left fresh(int n, Type type) {
            if (n >= VARIABLES) {
                throw new TooLarge();
            }
            return variable(n, type);
        }

        void type(Type type, int n) {
            if (type instanceof Unit) {
                put('1');
            } else if (type instanceof Family f) {
                put(f.name());
                if (f.indexType() != null) {
                    term(f.indexType(), f.index(), n);
                }
            } else {
                Bound b = (Bound) type;
                put(b.function() ? 'P' : 'S');
                type(b.first(), n);
                type(b.second().apply(fresh(n, b.first())), n + 1);
            }
        }

        void term(Type type, Value v, int n) {
            if (type instanceof Unit) {
                put('*');
            } else if (type instanceof Family) {
                left((Left) v, n);
            } else {
                Bound b = (Bound) type;
                if (b.function()) {
                    put('\\');
                    Left x = fresh(n, b.first());
                    term(b.second().apply(x), Model.apply(v, x), n + 1);
                } else {
                    put(',');
                    term(b.first(), first(v), n);
                    term(b.second().apply(first(v)), second(v), n);
                }
            }
        }

        void left(Left x, int n) {
            put(x.sign());
            if (x.inner() != null) {
                left(x.inner(), n);
            }
            if (x.argument() != null) {
                term(x.argumentType(), x.argument(), n);
            }
        }
    }

    /** The normal form of a type, or null if it is too large. */
    static String show(Type type, int n) {
        Out out = new Out();
        try {
            out.type(type, n);
            return out.signs.toString();
        } catch (TooLarge e) {
            return null;
        }
    }

    static String show(Type type, Value v, int n) {
        Out out = new Out();
        try {
            out.term(type, v, n);
            return out.signs.toString();
        } catch (TooLarge e) {
            return null;
        }
    }

    // ---- reading

    /** What was written, as a function of the values of the variables. */
    interface Meaning<X> {
        X in(List<Value> scope);
    }

    record Typed(Type type, Meaning<Value> term) {
    }

    static List<Value> with(List<Value> scope, Value v) {
        List<Value> more = new ArrayList<>(scope);
        more.add(v);
        return more;
    }

    static final class Declared {
        final List<Meaning<Type>> indexTypes = new ArrayList<>();
        final List<Meaning<Type>> constants = new ArrayList<>();
        final List<String> indexForms = new ArrayList<>();
        final List<String> constantForms = new ArrayList<>();
    }

    record Entry(String typeForm, String termForm, Type type, Value value) {
    }

    static final class Reading {
        final String text;
        final Declared laws;
        final List<Entry> entries;
        int next = 0;

        Reading(String text, Declared laws, List<Entry> entries) {
            this.text = text;
            this.laws = laws;
            this.entries = entries;
        }

        char look() {
            if (next >= text.length()) {
                throw new Fault(text.length());
            }
            return text.charAt(next);
        }

        void end() {
            if (next < text.length()) {
                throw new Fault(next);
            }
        }

        Meaning<Type> type(List<Value> scope) {
            int start = next;
            Meaning<Type> read = anyType(scope);
            if (show(read.in(scope), scope.size()) == null) {
                throw new Fault(start);
            }
            return read;
        }

        private Meaning<Type> anyType(List<Value> scope) {
            char c = look();
            int family = c - 'A';
            if (c == '1') {
                next++;
                return s -> new Unit();
            }
            if (c == 'S' || c == 'P') {
                if (scope.size() >= VARIABLES) {
                    throw new Fault(next);
                }
                next++;
                int at = next;
                Meaning<Type> one = type(scope);
                Type firstType = one.in(scope);
                if (c == 'P' && show(firstType, scope.size()).indexOf('P') >= 0) {
                    throw new Fault(at);
                }
                Meaning<Type> two = type(with(scope, variable(scope.size(), firstType)));
                return s -> new Bound(c == 'P', one.in(s), v -> two.in(with(s, v)));
            }
            if (family < 0 || family >= laws.indexTypes.size()) {
                throw new Fault(next);
            }
            next++;
            if (laws.indexTypes.get(family) == null) {
                return s -> new Family(c, null, null);
            }
            Type indexType = laws.indexTypes.get(family).in(List.of());
            Meaning<Value> index = check(indexType, scope);
            return s -> new Family(c, indexType, index.in(s));
        }

        Meaning<Value> check(Type type, List<Value> scope) {
            int start = next;
            char c = look();
            boolean pair = type instanceof Bound b && !b.function();
            boolean function = type instanceof Bound b && b.function();
            if (c == '*') {
                if (!(type instanceof Unit)) {
                    throw new Fault(start);
                }
                next++;
                return s -> new Star();
            }
            Meaning<Value> read;
            if (c == ',') {
                if (!pair) {
                    throw new Fault(start);
                }
                next++;
                Bound b = (Bound) type;
                Meaning<Value> one = check(b.first(), scope);
                Meaning<Value> two = check(b.second().apply(one.in(scope)), scope);
                read = s -> new Pair(one.in(s), two.in(s));
            } else if (c == '\\') {
                if (!function || scope.size() >= VARIABLES) {
                    throw new Fault(start);
                }
                next++;
                Bound b = (Bound) type;
                Value x = variable(scope.size(), b.first());
                Meaning<Value> body = check(b.second().apply(x), with(scope, x));
                read = s -> new Closure(v -> body.in(with(s, v)));
            } else {
                Typed inferred = infer(scope);
                String mine = show(inferred.type(), scope.size());
                if (!mine.equals(show(type, scope.size()))) {
                    throw new Fault(start);
                }
                return inferred.term();
            }
            if (show(type, read.in(scope), scope.size()) == null) {
                throw new Fault(start);
            }
            return read;
        }

        Typed infer(List<Value> scope) {
            int start = next;
            Typed read = anyInferred(scope);
            if (show(read.type(), scope.size()) == null
                || show(read.type(), read.term().in(scope), scope.size()) == null) {
                throw new Fault(start);
            }
            return read;
        }

        private Typed anyInferred(List<Value> scope) {
            char c = look();
            int start = next;
            if (c >= '0' && c - '0' < scope.size()) {
                next++;
                return new Typed(((Left) scope.get(c - '0')).type(), s -> s.get(c - '0'));
            }
            if (c >= 'a' && c - 'a' < laws.constants.size()) {
                next++;
                Type t = laws.constants.get(c - 'a').in(List.of());
                return new Typed(t, s -> new Left(c, null, null, null, t));
            }
            if ("#:.<>".indexOf(c) < 0) {
                throw new Fault(start);
            }
            next++;
            int at = next;
            if (c == '#') {
                int e = look() - '0';
                if (e < 0 || e >= entries.size()) {
                    throw new Fault(next);
                }
                next++;
                Entry entry = entries.get(e);
                return new Typed(entry.type(), s -> entry.value());
            }
            if (c == ':') {
                Meaning<Type> t = type(scope);
                Meaning<Value> v = check(t.in(scope), scope);
                return new Typed(t.in(scope), v);
            }
            Typed inner = infer(scope);
            if (!(inner.type() instanceof Bound b) || b.function() != (c == '.')) {
                throw new Fault(at);
            }
            if (c == '.') {
                Meaning<Value> u = check(b.first(), scope);
                return new Typed(b.second().apply(u.in(scope)),
                    s -> Model.apply(inner.term().in(s), u.in(s)));
            }
            if (c == '<') {
                return new Typed(b.first(), s -> first(inner.term().in(s)));
            }
            return new Typed(b.second().apply(first(inner.term().in(scope))),
                s -> second(inner.term().in(s)));
        }
    }

    // ---- the methods

    final StringBuilder text = new StringBuilder();
    Declared laws = new Declared();
    List<Entry> entries = new ArrayList<>();
    private final ArrayDeque<List<Entry>> before = new ArrayDeque<>();
    private final List<Entry> sights = new ArrayList<>();
    private final List<Integer> likes = new ArrayList<>();
    private final Map<Integer, List<Entry>> images = new HashMap<>();

    int type(int letter) {
        if (letter < 0 || letter > 255) {
            return -1;
        }
        if (text.length() == 32) {
            return -3;
        }
        text.append((char) letter);
        return text.length();
    }

    int clear() {
        int had = text.length();
        text.setLength(0);
        return had;
    }

    int laws() {
        Declared fresh = new Declared();
        Reading r = new Reading(text.toString(), fresh, List.of());
        int items = 0;
        try {
            while (r.next < text.length()) {
                item(r, fresh);
                items++;
            }
        } catch (Fault f) {
            return -10 - f.where;
        }
        laws = fresh;
        entries = new ArrayList<>();
        before.clear();
        forget();
        images.clear();
        clear();
        return items;
    }

    private static void item(Reading r, Declared fresh) {
        char c = r.look();
        boolean room = c == 'f' && fresh.indexTypes.size() < 3
            || c == 'k' && fresh.constants.size() < 4;
        if (!room) {
            throw new Fault(r.next);
        }
        r.next++;
        int at = r.next;
        Meaning<Type> t = c == 'f' && r.look() == ';' ? null : r.type(List.of());
        String form = t == null ? null : show(t.in(List.of()), 0);
        if (c == 'f' && t != null && form.indexOf('P') >= 0) {
            throw new Fault(at);
        }
        if (r.look() != ';') {
            throw new Fault(r.next);
        }
        r.next++;
        (c == 'f' ? fresh.indexTypes : fresh.constants).add(t);
        (c == 'f' ? fresh.indexForms : fresh.constantForms).add(form);
    }

    private static int sign(String form, int k) {
        if (k == -1) {
            return form.length();
        }
        return k < form.length() ? form.charAt(k) : -9;
    }

    int law(int kind, int which, int k) {
        if (kind < 0 || kind > 1 || which < 0 || k < 0) {
            return -1;
        }
        List<String> forms = kind == 0 ? laws.indexForms : laws.constantForms;
        if (which >= forms.size()) {
            return -1;
        }
        return forms.get(which) == null ? -9 : sign(forms.get(which), k);
    }

    Entry readGiven() {
        Reading r = new Reading(text.toString(), laws, entries);
        Type t = r.type(List.of()).in(List.of());
        Value v = r.check(t, List.of()).in(List.of());
        r.end();
        return new Entry(show(t, 0), show(t, v, 0), t, v);
    }

    int given(int k) {
        if (k < -1) {
            return -1;
        }
        try {
            return sign(readGiven().termForm(), k);
        } catch (Fault f) {
            return -10 - f.where;
        }
    }

    int found(int k) {
        if (k < -1) {
            return -1;
        }
        try {
            Reading r = new Reading(text.toString(), laws, entries);
            Typed t = r.infer(List.of());
            r.end();
            return sign(show(t.type(), 0), k);
        } catch (Fault f) {
            return -10 - f.where;
        }
    }

    int same() {
        try {
            Reading r = new Reading(text.toString(), laws, entries);
            Type t = r.type(List.of()).in(List.of());
            Value v = r.check(t, List.of()).in(List.of());
            Value w = r.check(t, List.of()).in(List.of());
            r.end();
            return show(t, v, 0).equals(show(t, w, 0)) ? 1 : 0;
        } catch (Fault f) {
            return -10 - f.where;
        }
    }

    private void note() {
        before.addLast(new ArrayList<>(entries));
        if (before.size() > 8) {
            before.removeFirst();
        }
    }

    int enters() {
        if (entries.size() == 6) {
            return -3;
        }
        try {
            Entry e = readGiven();
            note();
            entries.add(e);
            clear();
            return entries.size();
        } catch (Fault f) {
            return -10 - f.where;
        }
    }

    int drops(int e) {
        if (e < 0 || e >= entries.size()) {
            return -1;
        }
        note();
        entries.remove(e);
        return entries.size();
    }

    int undo() {
        if (before.isEmpty()) {
            return -2;
        }
        entries = before.removeLast();
        return before.size();
    }

    int entry(int e, int part, int k) {
        if (e < 0 || e >= entries.size() || part < 0 || part > 1 || k < 0) {
            return -1;
        }
        Entry x = entries.get(e);
        return sign(part == 0 ? x.typeForm() : x.termForm(), k);
    }

    private static int likeness(Entry x, Entry y) {
        if (!x.typeForm().equals(y.typeForm())) {
            return 0;
        }
        return x.termForm().equals(y.termForm()) ? 2 : 1;
    }

    int like(int e, int f) {
        if (e < 0 || e >= entries.size() || f < 0 || f >= entries.size()) {
            return -1;
        }
        return likeness(entries.get(e), entries.get(f));
    }

    int sees(int like) {
        if (like < 0 || like > 2) {
            return -1;
        }
        if (sights.size() == 4) {
            return -3;
        }
        try {
            sights.add(readGiven());
            likes.add(like);
            clear();
            return sights.size();
        } catch (Fault f) {
            return -10 - f.where;
        }
    }

    int forget() {
        int had = sights.size();
        sights.clear();
        likes.clear();
        return had;
    }

    int unseen() {
        int bits = 0;
        for (int e = 0; e < entries.size(); e++) {
            boolean all = true;
            for (int i = 0; i < sights.size(); i++) {
                all &= likeness(entries.get(e), sights.get(i)) == likes.get(i);
            }
            bits += all ? 1 << e : 0;
        }
        return bits;
    }

    int keep(int image) {
        if (image != 0 && image != 1) {
            return -1;
        }
        images.put(image, new ArrayList<>(entries));
        return entries.size();
    }

    int back(int image) {
        if (image != 0 && image != 1) {
            return -1;
        }
        if (!images.containsKey(image)) {
            return -2;
        }
        entries = new ArrayList<>(images.get(image));
        before.clear();
        return entries.size();
    }

    int count(int what) {
        int[] totals = {laws.indexTypes.size(), laws.constants.size(), entries.size(),
            sights.size(), text.length(), before.size()};
        return what < 0 || what > 5 ? -1 : totals[what];
    }
}
