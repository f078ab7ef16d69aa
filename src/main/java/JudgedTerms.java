import java.util.Arrays;

/**
 * A checker for a small dependent type theory: a unit type, dependent pairs, dependent functions,
 * and families of types with an index. The document of the project says what each method answers.
 *
 * How it works: the Reader goes through the text once, from left to right. Every part that it has
 * read is kept as its normal form (a row of signs in Signs), never as it was written. Where a
 * variable has to be replaced, Values evaluates a normal form, and the Writer writes the normal
 * form of what came out, by its type, giving up as soon as that is too large.
 */
public final class JudgedTerms {
    public static final int BAD = -1, STATE = -2, FULL = -3, NONE = -9;

    private static final int MAX_BYTES = 32;
    private static final int MAX_BYTE = 255;
    private static final int MAX_VARIABLES = 10;
    private static final int MAX_SIGNS = 50;
    private static final int MAX_FAMILIES = 3;
    private static final int MAX_CONSTANTS = 4;
    private static final int MAX_ENTRIES = 6;
    private static final int MAX_SIGHTS = 4;
    private static final int MAX_UNDO = 8;
    private static final int IMAGES = 2;
    private static final int MAX_LIKE = 2;
    private static final int FIRST_FAULT = -10;

    /** The place of nothing: there was a fault, or something is too large, or not declared. */
    private static final int NOWHERE = -1;

    private final int[] text = new int[MAX_BYTES];
    private int length;
    private Laws laws = new Laws();
    private final Shelf entries = new Shelf();
    private final History history = new History();
    private final Sights sights = new Sights();
    private final Shelf[] images = new Shelf[IMAGES];
    private final boolean[] kept = new boolean[IMAGES];
    private final Reader reader;

    public JudgedTerms() {
        for (int i = 0; i < IMAGES; i++) {
            images[i] = new Shelf();
        }
        Signs signs = new Signs();
        Values values = new Values(signs);
        reader = new Reader(signs, values, new Writer(signs, values));
    }

    public int type(int letter) {
        if (letter < 0 || letter > MAX_BYTE) {
            return BAD;
        }
        if (length >= MAX_BYTES) {
            return FULL;
        }
        text[length] = letter;
        length++;
        return length;
    }

    public int clear() {
        int had = length;
        length = 0;
        return had;
    }

    public int laws() {
        reader.begin(text, length, new Laws(), new Shelf());
        int items = 0;
        while (items < MAX_BYTES && reader.hasMore()) {
            if (!reader.readItem()) {
                return FIRST_FAULT - reader.fault;
            }
            items++;
        }
        laws = reader.signs.declared();
        entries.empty();
        history.empty();
        sights.empty();
        for (int i = 0; i < IMAGES; i++) {
            kept[i] = false;
        }
        length = 0;
        return items;
    }

    public int law(int kind, int which, int k) {
        if (kind < 0 || kind > 1 || which < 0 || k < 0) {
            return BAD;
        }
        if (which >= (kind == 0 ? laws.families : laws.constants)) {
            return BAD;
        }
        Form form = kind == 0 ? laws.indexForm(which) : laws.constantForm(which);
        return form == null ? NONE : form.signAt(k);
    }

    public int given(int k) {
        if (k < -1) {
            return BAD;
        }
        reader.begin(text, length, laws, entries);
        if (!reader.readGiven()) {
            return FIRST_FAULT - reader.fault;
        }
        return reader.signs.answer(reader.term, k);
    }

    public int found(int k) {
        if (k < -1) {
            return BAD;
        }
        reader.begin(text, length, laws, entries);
        if (!reader.readInferred()) {
            return FIRST_FAULT - reader.fault;
        }
        return reader.signs.answer(reader.inferred, k);
    }

    public int same() {
        reader.begin(text, length, laws, entries);
        if (!reader.readTwo()) {
            return FIRST_FAULT - reader.fault;
        }
        return reader.signs.equal(reader.term, reader.secondTerm) ? 1 : 0;
    }

    public int enters() {
        if (entries.size >= MAX_ENTRIES) {
            return FULL;
        }
        reader.begin(text, length, laws, entries);
        if (!reader.readGiven()) {
            return FIRST_FAULT - reader.fault;
        }
        history.note(entries);
        entries.add(reader.entryRead());
        length = 0;
        return entries.size;
    }

    public int drops(int e) {
        if (entries.at(e) == null) {
            return BAD;
        }
        history.note(entries);
        entries.remove(e);
        return entries.size;
    }

    public int undo() {
        if (history.size == 0) {
            return STATE;
        }
        history.restore(entries);
        return history.size;
    }

    public int entry(int e, int part, int k) {
        Entry entry = entries.at(e);
        if (entry == null || part < 0 || part > 1 || k < 0) {
            return BAD;
        }
        Form form = part == 0 ? entry.typeForm : entry.termForm;
        return form.signAt(k);
    }

    public int like(int e, int f) {
        Entry one = entries.at(e);
        Entry other = entries.at(f);
        if (one == null || other == null) {
            return BAD;
        }
        return one.likeness(other);
    }

    public int sees(int like) {
        if (like < 0 || like > MAX_LIKE) {
            return BAD;
        }
        if (sights.size >= MAX_SIGHTS) {
            return FULL;
        }
        reader.begin(text, length, laws, entries);
        if (!reader.readGiven()) {
            return FIRST_FAULT - reader.fault;
        }
        sights.add(reader.entryRead(), like);
        length = 0;
        return sights.size;
    }

    public int forget() {
        int had = sights.size;
        sights.empty();
        return had;
    }

    public int unseen() {
        int bits = 0;
        for (int e = 0; e < entries.size; e++) {
            Entry entry = entries.at(e);
            if (entry != null && sights.agreeWith(entry)) {
                bits |= 1 << e;
            }
        }
        return bits;
    }

    public int keep(int image) {
        if (image < 0 || image >= IMAGES) {
            return BAD;
        }
        images[image].become(entries);
        kept[image] = true;
        return entries.size;
    }

    public int back(int image) {
        if (image < 0 || image >= IMAGES) {
            return BAD;
        }
        if (!kept[image]) {
            return STATE;
        }
        entries.become(images[image]);
        history.empty();
        return entries.size;
    }

    public int count(int what) {
        switch (what) {
            case 0: return laws.families;
            case 1: return laws.constants;
            case 2: return entries.size;
            case 3: return sights.size;
            case 4: return length;
            case 5: return history.size;
            default: return BAD;
        }
    }

    /** A normal form that outlives the call that found it; it never changes. */
    private static final class Form {
        private final int[] signs;

        Form(int[] signs) {
            this.signs = signs;
        }

        int signAt(int k) {
            return k >= 0 && k < signs.length ? signs[k] : NONE;
        }

        boolean equalTo(Form other) {
            if (signs.length != other.signs.length) {
                return false;
            }
            for (int k = 0; k < signs.length; k++) {
                if (signs[k] != other.signAt(k)) {
                    return false;
                }
            }
            return true;
        }
    }

    /** A stored term with its type. Entries never change, so shelves can share them. */
    private static final class Entry {
        private final Form typeForm;
        private final Form termForm;

        Entry(Form typeForm, Form termForm) {
            this.typeForm = typeForm;
            this.termForm = termForm;
        }

        int likeness(Entry other) {
            if (!typeForm.equalTo(other.typeForm)) {
                return 0;
            }
            return termForm.equalTo(other.termForm) ? 2 : 1;
        }
    }

    /** Entries in their order. */
    private static final class Shelf {
        private final Entry[] row = new Entry[MAX_ENTRIES];
        private int size;

        /** The entry with this number, or null if there is none. */
        Entry at(int e) {
            return e >= 0 && e < size && e < MAX_ENTRIES ? row[e] : null;
        }

        void add(Entry entry) {
            if (size < MAX_ENTRIES) {
                row[size] = entry;
                size++;
            }
        }

        void remove(int e) {
            if (e < 0 || e >= size) {
                return;
            }
            size--;
            for (int i = e; i < size && i + 1 < MAX_ENTRIES; i++) {
                row[i] = row[i + 1];
            }
        }

        void become(Shelf other) {
            size = other.size;
            for (int i = 0; i < MAX_ENTRIES; i++) {
                row[i] = other.row[i];
            }
        }

        void empty() {
            size = 0;
        }
    }

    /** The entries as they were before each of the latest calls that can be undone. */
    private static final class History {
        private final Shelf[] before = new Shelf[MAX_UNDO];
        private int newest;
        private int size;

        History() {
            for (int i = 0; i < MAX_UNDO; i++) {
                before[i] = new Shelf();
            }
        }

        void note(Shelf entries) {
            newest = newest + 1 < MAX_UNDO ? newest + 1 : 0;
            before[newest].become(entries);
            size = Math.min(size + 1, MAX_UNDO);
        }

        void restore(Shelf entries) {
            if (size == 0) {
                return;
            }
            entries.become(before[newest]);
            newest = newest > 0 ? newest - 1 : MAX_UNDO - 1;
            size--;
        }

        void empty() {
            size = 0;
        }
    }

    /** What is known of the unknown entry. */
    private static final class Sights {
        private final Entry[] seen = new Entry[MAX_SIGHTS];
        private final int[] likeness = new int[MAX_SIGHTS];
        private int size;

        void add(Entry entry, int like) {
            if (size < MAX_SIGHTS) {
                seen[size] = entry;
                likeness[size] = like;
                size++;
            }
        }

        boolean agreeWith(Entry entry) {
            for (int i = 0; i < size && i < MAX_SIGHTS; i++) {
                if (seen[i] == null || entry.likeness(seen[i]) != likeness[i]) {
                    return false;
                }
            }
            return true;
        }

        void empty() {
            size = 0;
        }
    }

    /** The declared families and constants. */
    private static final class Laws {
        private final Form[] index = new Form[MAX_FAMILIES];
        private final Form[] constant = new Form[MAX_CONSTANTS];
        private int families;
        private int constants;

        /** Adds a family; its index type is null if it has no index. */
        void addFamily(Form indexType) {
            if (families < MAX_FAMILIES) {
                index[families] = indexType;
                families++;
            }
        }

        void addConstant(Form itsType) {
            if (constants < MAX_CONSTANTS) {
                constant[constants] = itsType;
                constants++;
            }
        }

        Form indexForm(int family) {
            return family >= 0 && family < families && family < MAX_FAMILIES ? index[family] : null;
        }

        Form constantForm(int c) {
            return c >= 0 && c < constants && c < MAX_CONSTANTS ? constant[c] : null;
        }
    }

    /**
     * The rows of signs of one call: each normal form begins at a place of its own. Nothing is
     * made anew for a call. The room holds what any text can need: for each byte at most a type
     * and a term, besides the declared types and one type that is compared with another.
     */
    private static final class Signs {
        private static final int ROOM = 2 * MAX_SIGNS * MAX_BYTES
            + (MAX_FAMILIES + MAX_CONSTANTS + 1) * MAX_SIGNS;
        private static final int NO_SIGN = 0;

        private final int[] row = new int[ROOM];
        private int size;
        private final int[] indexPlace = new int[MAX_FAMILIES];
        private int families;
        private final int[] constantPlace = new int[MAX_CONSTANTS];
        private int constants;

        /** Forgets all rows but those of the declared types. */
        void begin(Laws laws) {
            size = 0;
            families = 0;
            constants = 0;
            for (int i = 0; i < laws.families; i++) {
                addFamily(copyOf(laws.indexForm(i)));
            }
            for (int i = 0; i < laws.constants; i++) {
                addConstant(copyOf(laws.constantForm(i)));
            }
        }

        void addFamily(int place) {
            if (families < MAX_FAMILIES) {
                indexPlace[families] = place;
                families++;
            }
        }

        void addConstant(int place) {
            if (constants < MAX_CONSTANTS) {
                constantPlace[constants] = place;
                constants++;
            }
        }

        /** What is declared now, to be kept beyond this call. */
        Laws declared() {
            Laws laws = new Laws();
            for (int i = 0; i < families && i < MAX_FAMILIES; i++) {
                laws.addFamily(indexPlace[i] == NOWHERE ? null : keptForm(indexPlace[i]));
            }
            for (int i = 0; i < constants && i < MAX_CONSTANTS; i++) {
                laws.addConstant(keptForm(constantPlace[i]));
            }
            return laws;
        }

        boolean isFamily(int sign) {
            return sign >= 'A' && sign - 'A' < families;
        }

        boolean isConstant(int sign) {
            return sign >= 'a' && sign - 'a' < constants;
        }

        /** The place of the index type of a family, or NOWHERE if it has no index. */
        int indexTypeOf(int sign) {
            int family = sign - 'A';
            return family >= 0 && family < families && family < MAX_FAMILIES
                ? indexPlace[family] : NOWHERE;
        }

        int constantTypeOf(int sign) {
            int c = sign - 'a';
            return c >= 0 && c < constants && c < MAX_CONSTANTS ? constantPlace[c] : NOWHERE;
        }

        int at(int place) {
            return place >= 0 && place < size && place < ROOM ? row[place] : NO_SIGN;
        }

        boolean add(int sign) {
            if (size < 0 || size >= ROOM) {
                return false;
            }
            row[size] = sign;
            size++;
            return true;
        }

        /** The place behind the type or term that begins at this place. */
        int behind(int place) {
            int missing = 1;
            int next = place;
            while (missing > 0 && next < size) {
                missing += partsOf(at(next)) - 1;
                next++;
            }
            return next;
        }

        private int partsOf(int sign) {
            switch (sign) {
                case 'S':
                case 'P':
                case '.':
                case ',':
                    return 2;
                case '<':
                case '>':
                case '\\':
                    return 1;
                default:
                    int family = sign - 'A';
                    return family >= 0 && family < families && family < MAX_FAMILIES
                        && indexPlace[family] != NOWHERE ? 1 : 0;
            }
        }

        boolean equal(int place, int other) {
            int end = behind(place);
            if (end - place != behind(other) - other) {
                return false;
            }
            for (int i = 0; place + i < end; i++) {
                if (at(place + i) != at(other + i)) {
                    return false;
                }
            }
            return true;
        }

        /** Tells of a type in normal form whether it is a data type; no term has the sign P. */
        boolean isData(int place) {
            int end = behind(place);
            for (int i = place; i < end; i++) {
                if (at(i) == 'P') {
                    return false;
                }
            }
            return true;
        }

        /** The number of signs (k is -1) or a sign of a normal form. */
        int answer(int place, int k) {
            int many = behind(place) - place;
            if (k == -1) {
                return many;
            }
            return k >= 0 && k < many ? at(place + k) : NONE;
        }

        Form keptForm(int place) {
            int end = behind(place);
            if (place < 0 || place > end || end > ROOM) {
                return new Form(new int[0]);
            }
            return new Form(Arrays.copyOfRange(row, place, end));
        }

        int copyOf(Form form) {
            if (form == null) {
                return NOWHERE;
            }
            int place = size;
            for (int k = 0; k < form.signs.length; k++) {
                add(form.signAt(k));
            }
            return place;
        }
    }

    /**
     * Values of terms, each a node with a number; also scopes (which value each variable stands
     * for) and types (a place in Signs and the scope to read it in). Arguments of functions are
     * data, so applying a function never applies another one inside it: a normal form of 50 signs
     * takes at most some 22 times 50 nodes to evaluate, and as each argument is evaluated once
     * only, a call needs less than the room.
     */
    private static final class Values {
        private static final int ROOM = 3072;
        private static final int DEPTH = 2 * MAX_SIGNS + 4;
        /** The scope without variables; also what stands where the room was not enough. */
        private static final int EMPTY = 0;

        private static final int NOTHING = 0, VARIABLE = 1, CONSTANT = 2, APPLIED = 3, FIRST = 4,
            SECOND = 5, STAR = 6, PAIR = 7, FUNCTION = 8, SCOPE = 9, TYPE = 10;

        private final Signs signs;
        private final int[] kind = new int[ROOM];
        private final int[] left = new int[ROOM];
        private final int[] right = new int[ROOM];
        private int size = 1;
        private final int[] variableType = new int[MAX_VARIABLES];
        private int behind;

        Values(Signs signs) {
            this.signs = signs;
        }

        /** Takes back all nodes that were made since size was this. */
        void release(int mark) {
            if (mark > EMPTY && mark < size) {
                size = mark;
            }
        }

        private int make(int kindOfNode, int l, int r) {
            if (size < 1 || size >= ROOM) {
                return EMPTY;
            }
            kind[size] = kindOfNode;
            left[size] = l;
            right[size] = r;
            size++;
            return size - 1;
        }

        int kindOf(int node) {
            return node > EMPTY && node < size && node < ROOM ? kind[node] : NOTHING;
        }

        int leftOf(int node) {
            return node > EMPTY && node < size && node < ROOM ? left[node] : EMPTY;
        }

        int rightOf(int node) {
            return node > EMPTY && node < size && node < ROOM ? right[node] : EMPTY;
        }

        int typeAt(int place, int scope) {
            return make(TYPE, place, scope);
        }

        /** The first sign of a type, which tells its form. */
        int formOf(int typeNode) {
            return kindOf(typeNode) == TYPE ? signs.at(leftOf(typeNode)) : Signs.NO_SIGN;
        }

        /** T of a type S T U or P T U. */
        int firstType(int typeNode) {
            return typeAt(leftOf(typeNode) + 1, rightOf(typeNode));
        }

        /** U with a value, of a type S T U or P T U. */
        int secondType(int typeNode, int value) {
            int place = signs.behind(leftOf(typeNode) + 1);
            return typeAt(place, extended(rightOf(typeNode), value));
        }

        int extended(int scope, int value) {
            return make(SCOPE, value, scope);
        }

        /** Makes the next variable of a place where n are in scope. */
        int newVariable(int n, int itsType) {
            if (n < 0 || n >= MAX_VARIABLES) {
                return EMPTY;
            }
            variableType[n] = itsType;
            return make(VARIABLE, n, EMPTY);
        }

        int typeOfVariable(int n) {
            return n >= 0 && n < MAX_VARIABLES ? variableType[n] : EMPTY;
        }

        int constantOf(int sign) {
            return make(CONSTANT, sign, EMPTY);
        }

        int typeOfConstant(int sign) {
            return typeAt(signs.constantTypeOf(sign), EMPTY);
        }

        int variableIn(int scope, int n) {
            int inScope = 0;
            for (int s = scope; kindOf(s) == SCOPE && inScope <= MAX_VARIABLES; s = rightOf(s)) {
                inScope++;
            }
            int found = scope;
            for (int i = n + 1; i < inScope; i++) {
                found = rightOf(found);
            }
            return n >= 0 && n < inScope ? leftOf(found) : EMPTY;
        }

        /** Evaluates the normal form at a place, and leaves the place behind it in behind. */
        private int evaluate(int place, int scope, int depth) {
            int sign = signs.at(place);
            behind = place + 1;
            if (depth <= 0) {
                return EMPTY;
            }
            switch (sign) {
                case '*':
                    return make(STAR, EMPTY, EMPTY);
                case '\\':
                    behind = signs.behind(place);
                    return make(FUNCTION, place + 1, scope);
                case '<':
                    return firstOf(evaluate(place + 1, scope, depth - 1));
                case '>':
                    return secondOf(evaluate(place + 1, scope, depth - 1));
                case ',':
                case '.':
                    int one = evaluate(place + 1, scope, depth - 1);
                    int other = evaluate(behind, scope, depth - 1);
                    int end = behind;
                    int both = sign == ',' ? make(PAIR, one, other) : apply(one, other, depth - 1);
                    behind = end;
                    return both;
                default:
                    return signs.isConstant(sign) ? constantOf(sign) : variableIn(scope, sign - '0');
            }
        }

        private int apply(int function, int argument, int depth) {
            if (kindOf(function) != FUNCTION) {
                return make(APPLIED, function, argument);
            }
            return evaluate(leftOf(function), extended(rightOf(function), argument), depth);
        }

        int firstOf(int pair) {
            return kindOf(pair) == PAIR ? leftOf(pair) : make(FIRST, pair, EMPTY);
        }

        int secondOf(int pair) {
            return kindOf(pair) == PAIR ? rightOf(pair) : make(SECOND, pair, EMPTY);
        }
    }

    /**
     * Writes normal forms at the end of Signs. Each step writes a sign, and nothing is written
     * beyond 50 signs or the tenth variable; so writing ends soon even where the whole normal form
     * would be huge, as that of a type that is merely required can be.
     */
    private static final class Writer {
        private final Signs signs;
        private final Values values;
        private int start;
        private boolean tooLarge;

        Writer(Signs signs, Values values) {
            this.signs = signs;
            this.values = values;
        }

        /** Writes a sign and the normal forms of its parts; answers the place, or NOWHERE. */
        int join(int sign, int part, int otherPart) {
            begin();
            put(sign);
            putCopy(part);
            putCopy(otherPart);
            return written();
        }

        void begin() {
            start = signs.size;
            tooLarge = false;
        }

        /** The place of what was written since begin(), or NOWHERE if it is too large. */
        int written() {
            return tooLarge ? NOWHERE : start;
        }

        private void put(int sign) {
            if (signs.size - start >= MAX_SIGNS || sign == Signs.NO_SIGN) {
                tooLarge = true;
            }
            if (!tooLarge && !signs.add(sign)) {
                tooLarge = true;
            }
        }

        private void putCopy(int place) {
            if (place == NOWHERE) {
                return;
            }
            int end = signs.behind(place);
            for (int i = place; i < end; i++) {
                put(signs.at(i));
            }
        }

        /** Writes the normal form of a type where n variables are in scope. */
        private void putType(int typeNode, int n) {
            int form = values.formOf(typeNode);
            put(form);
            if (tooLarge) {
                return;
            }
            if (form == 'S' || form == 'P') {
                putType(values.firstType(typeNode), n);
                int variable = bound(values.firstType(typeNode), n);
                if (!tooLarge) {
                    putType(values.secondType(typeNode, variable), n + 1);
                }
                return;
            }
            int indexType = signs.indexTypeOf(form);
            if (indexType != NOWHERE) {
                int place = values.leftOf(typeNode) + 1;
                int index = values.evaluate(place, values.rightOf(typeNode), Values.DEPTH);
                putTerm(values.typeAt(indexType, Values.EMPTY), index, n);
            }
        }

        private int bound(int typeNode, int n) {
            if (n >= MAX_VARIABLES) {
                tooLarge = true;
            }
            return values.newVariable(n, typeNode);
        }

        /** Writes the normal form of a value of a type. */
        private void putTerm(int typeNode, int value, int n) {
            if (tooLarge) {
                return;
            }
            switch (values.formOf(typeNode)) {
                case '1':
                    put('*');
                    return;
                case 'S':
                    put(',');
                    int first = values.firstOf(value);
                    putTerm(values.firstType(typeNode), first, n);
                    putTerm(values.secondType(typeNode, first), values.secondOf(value), n);
                    return;
                case 'P':
                    put('\\');
                    int variable = bound(values.firstType(typeNode), n);
                    if (!tooLarge) {
                        int result = values.apply(value, variable, Values.DEPTH);
                        putTerm(values.secondType(typeNode, variable), result, n + 1);
                    }
                    return;
                default:
                    putLeft(value, n);
            }
        }

        /** Writes what is left of a term when it is evaluated; answers its type. */
        private int putLeft(int value, int n) {
            if (tooLarge) {
                return Values.EMPTY;
            }
            int inner = values.leftOf(value);
            switch (values.kindOf(value)) {
                case Values.VARIABLE:
                    put('0' + inner);
                    return values.typeOfVariable(inner);
                case Values.CONSTANT:
                    put(inner);
                    return values.typeOfConstant(inner);
                case Values.APPLIED:
                    put('.');
                    int function = putLeft(inner, n);
                    int argument = values.rightOf(value);
                    putTerm(values.firstType(function), argument, n);
                    return values.secondType(function, argument);
                case Values.FIRST:
                    put('<');
                    return values.firstType(putLeft(inner, n));
                case Values.SECOND:
                    put('>');
                    int pair = putLeft(inner, n);
                    return values.secondType(pair, values.firstOf(inner));
                default:
                    tooLarge = true;
                    return Values.EMPTY;
            }
        }
    }

    /**
     * Reads and checks the text. A method that reads a part answers the place of its normal form,
     * or NOWHERE if the fault was found; n is how many variables are in scope. Each level of the
     * recursion reads a byte, so the text's length bounds its depth.
     */
    private static final class Reader {
        private final Signs signs;
        private final Values values;
        private final Writer writer;
        private final int[] scopes = new int[MAX_VARIABLES + 1];

        private int[] text = new int[0];
        private int length;
        private Shelf entries = new Shelf();
        private int next;
        private int fault;

        /** The type of the term that was read last, if it was inferred. */
        private int inferred;
        private int typeRead;
        private int valueRead;
        private int givenType;
        private int term;
        private int secondTerm;

        Reader(Signs signs, Values values, Writer writer) {
            this.signs = signs;
            this.values = values;
            this.writer = writer;
        }

        void begin(int[] bytes, int many, Laws laws, Shelf shelf) {
            text = bytes;
            length = many;
            entries = shelf;
            next = 0;
            fault = NOWHERE;
            signs.begin(laws);
            values.release(Values.EMPTY + 1);
            scopes[0] = Values.EMPTY;
        }

        /** Reads the whole text as a type and a term of this type. */
        boolean readGiven() {
            givenType = readType(0);
            if (givenType == NOWHERE) {
                return false;
            }
            term = checkTerm(values.typeAt(givenType, Values.EMPTY), 0);
            return term != NOWHERE && readEnd();
        }

        /** Reads the whole text as a type and two terms of this type. */
        boolean readTwo() {
            givenType = readType(0);
            if (givenType == NOWHERE) {
                return false;
            }
            term = checkTerm(values.typeAt(givenType, Values.EMPTY), 0);
            if (term == NOWHERE) {
                return false;
            }
            secondTerm = checkTerm(values.typeAt(givenType, Values.EMPTY), 0);
            return secondTerm != NOWHERE && readEnd();
        }

        /** Reads the whole text as a term whose type is inferred. */
        boolean readInferred() {
            term = inferTerm(0);
            return term != NOWHERE && readEnd();
        }

        Entry entryRead() {
            return new Entry(signs.keptForm(givenType), signs.keptForm(term));
        }

        private boolean readEnd() {
            return next >= length || fail(next);
        }

        boolean hasMore() {
            return next < length;
        }

        /** Reads a declaration with its semicolon; answers whether it had no fault. */
        boolean readItem() {
            boolean family = peek() == 'f' && signs.families < MAX_FAMILIES;
            boolean constant = peek() == 'k' && signs.constants < MAX_CONSTANTS;
            if (!family && !constant) {
                return fail(next);
            }
            next++;
            int start = next;
            boolean typed = constant || peek() != ';';
            int place = typed ? readType(0) : NOWHERE;
            if (typed && place == NOWHERE) {
                return false;
            }
            if (family && typed && !signs.isData(place)) {
                return fail(start);
            }
            if (peek() != ';') {
                return fail(next);
            }
            next++;
            if (family) {
                signs.addFamily(place);
            } else {
                signs.addConstant(place);
            }
            return true;
        }

        /** The next byte, or -1 at the end of the text. */
        private int peek() {
            return next >= 0 && next < length && next < text.length ? text[next] : -1;
        }

        /** Notes the fault; at the end of the text, next is its length, which is the fault then. */
        private int refuse(int where) {
            fault = where;
            return NOWHERE;
        }

        private boolean fail(int where) {
            fault = where;
            return false;
        }

        private int join(int sign, int part, int otherPart, int start) {
            int place = writer.join(sign, part, otherPart);
            return place == NOWHERE ? refuse(start) : place;
        }

        private int scope(int n) {
            return n >= 0 && n <= MAX_VARIABLES ? scopes[n] : Values.EMPTY;
        }

        /** Brings the next variable into scope; answers its value. */
        private int bind(int itsType, int n) {
            int variable = values.newVariable(n, itsType);
            if (n >= 0 && n < MAX_VARIABLES) {
                scopes[n + 1] = values.extended(scopes[n], variable);
            }
            return variable;
        }

        private int readType(int n) {
            int sign = peek();
            boolean binder = (sign == 'S' || sign == 'P') && n < MAX_VARIABLES;
            if (sign != '1' && !binder && !signs.isFamily(sign)) {
                return refuse(next);
            }
            int start = next;
            next++;
            if (binder) {
                return readBinder(sign, start, n);
            }
            int indexType = signs.indexTypeOf(sign);
            if (indexType == NOWHERE) {
                return join(sign, NOWHERE, NOWHERE, start);
            }
            int index = checkTerm(values.typeAt(indexType, Values.EMPTY), n);
            return index == NOWHERE ? NOWHERE : join(sign, index, NOWHERE, start);
        }

        private int readBinder(int sign, int start, int n) {
            int firstStart = next;
            int first = readType(n);
            if (first == NOWHERE) {
                return NOWHERE;
            }
            if (sign == 'P' && !signs.isData(first)) {
                return refuse(firstStart);
            }
            bind(values.typeAt(first, scope(n)), n);
            int second = readType(n + 1);
            return second == NOWHERE ? NOWHERE : join(sign, first, second, start);
        }

        private int checkTerm(int required, int n) {
            int form = values.formOf(required);
            int start = next;
            switch (peek()) {
                case '*':
                    if (form != '1') {
                        return refuse(start);
                    }
                    next++;
                    return join('*', NOWHERE, NOWHERE, start);
                case ',':
                    return form == 'S' ? readPair(required, n) : refuse(start);
                case '\\':
                    boolean fits = form == 'P' && n < MAX_VARIABLES;
                    return fits ? readFunction(required, n) : refuse(start);
                default:
                    return checkInferred(required, n);
            }
        }

        /** Reads a term whose type is inferred; the required type may be too large to write. */
        private int checkInferred(int required, int n) {
            int start = next;
            int place = inferTerm(n);
            if (place == NOWHERE) {
                return NOWHERE;
            }
            int signsBefore = signs.size;
            int valuesBefore = values.size;
            writer.begin();
            writer.putType(required, n);
            int requiredPlace = writer.written();
            boolean fits = requiredPlace != NOWHERE && signs.equal(inferred, requiredPlace);
            signs.size = signsBefore;
            values.release(valuesBefore);
            return fits ? place : refuse(start);
        }

        private int readPair(int required, int n) {
            int start = next;
            next++;
            int first = checkTerm(values.firstType(required), n);
            if (first == NOWHERE) {
                return NOWHERE;
            }
            int value = values.evaluate(first, scope(n), Values.DEPTH);
            int second = checkTerm(values.secondType(required, value), n);
            return second == NOWHERE ? NOWHERE : join(',', first, second, start);
        }

        private int readFunction(int required, int n) {
            int start = next;
            next++;
            int variable = bind(values.firstType(required), n);
            int body = checkTerm(values.secondType(required, variable), n + 1);
            return body == NOWHERE ? NOWHERE : join('\\', body, NOWHERE, start);
        }

        /** Reads a term and infers its type, whose place is in inferred then. */
        private int inferTerm(int n) {
            int start = next;
            // What is read is kept as signs, so all values that it took can be given back.
            int valuesBefore = values.size;
            boolean read;
            switch (peek()) {
                case '#':
                    read = readEntry();
                    break;
                case ':':
                    read = readAnnotated(n);
                    break;
                case '.':
                    read = readApplied(n);
                    break;
                case '<':
                case '>':
                    read = readComponent(n);
                    break;
                default:
                    read = readName(n);
            }
            if (!read) {
                return NOWHERE;
            }
            writer.begin();
            writer.putType(typeRead, n);
            int typePlace = writer.written();
            writer.begin();
            writer.putTerm(typeRead, valueRead, n);
            int termPlace = writer.written();
            values.release(valuesBefore);
            if (typePlace == NOWHERE || termPlace == NOWHERE) {
                return refuse(start);
            }
            inferred = typePlace;
            return termPlace;
        }

        /** Leaves the type and the value of a term for inferTerm(), which writes them. */
        private boolean hasRead(int typeNode, int value) {
            typeRead = typeNode;
            valueRead = value;
            return true;
        }

        private boolean readName(int n) {
            int sign = peek();
            int number = sign - '0';
            if (number >= 0 && number < n) {
                next++;
                return hasRead(values.typeOfVariable(number), values.variableIn(scope(n), number));
            }
            if (signs.isConstant(sign)) {
                next++;
                return hasRead(values.typeOfConstant(sign), values.constantOf(sign));
            }
            return fail(next);
        }

        private boolean readEntry() {
            next++;
            Entry entry = entries.at(peek() - '0');
            if (entry == null) {
                return fail(next);
            }
            next++;
            int typePlace = signs.copyOf(entry.typeForm);
            int termPlace = signs.copyOf(entry.termForm);
            int value = values.evaluate(termPlace, Values.EMPTY, Values.DEPTH);
            return hasRead(values.typeAt(typePlace, Values.EMPTY), value);
        }

        private boolean readAnnotated(int n) {
            next++;
            int typePlace = readType(n);
            if (typePlace == NOWHERE) {
                return false;
            }
            int typeNode = values.typeAt(typePlace, scope(n));
            int annotated = checkTerm(typeNode, n);
            if (annotated == NOWHERE) {
                return false;
            }
            return hasRead(typeNode, values.evaluate(annotated, scope(n), Values.DEPTH));
        }

        private boolean readApplied(int n) {
            next++;
            int functionStart = next;
            int function = inferTerm(n);
            if (function == NOWHERE) {
                return false;
            }
            int functionType = values.typeAt(inferred, scope(n));
            if (values.formOf(functionType) != 'P') {
                return fail(functionStart);
            }
            int argument = checkTerm(values.firstType(functionType), n);
            if (argument == NOWHERE) {
                return false;
            }
            int x = values.evaluate(argument, scope(n), Values.DEPTH);
            int f = values.evaluate(function, scope(n), Values.DEPTH);
            return hasRead(values.secondType(functionType, x), values.apply(f, x, Values.DEPTH));
        }

        private boolean readComponent(int n) {
            boolean wantsFirst = peek() == '<';
            next++;
            int pairStart = next;
            int pair = inferTerm(n);
            if (pair == NOWHERE) {
                return false;
            }
            int pairType = values.typeAt(inferred, scope(n));
            if (values.formOf(pairType) != 'S') {
                return fail(pairStart);
            }
            int value = values.evaluate(pair, scope(n), Values.DEPTH);
            int first = values.firstOf(value);
            if (wantsFirst) {
                return hasRead(values.firstType(pairType), first);
            }
            return hasRead(values.secondType(pairType, first), values.secondOf(value));
        }
    }
}
