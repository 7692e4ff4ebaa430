/**
 * Documents of maps, rows, texts and numbers as letters: read with the first fault, written in one
 * way only, asked by paths, changed, patched, joined three ways, checked by schemas.
 *
 * <p>All room is made in the constructor and used again: no call makes an object.
 */
public final class Treeletter {
    public static final int NONE = -1;

    private static final int DOCUMENTS = 40;
    private static final int NODES = 100;
    private static final int DEPTH = 12;
    private static final int KEY_SIGNS = 12;
    private static final int TEXT_SIGNS = 40;
    private static final int FIGURES = 24;
    private static final int POWER = 99;
    private static final int PAGE_SIGNS = 400;
    // The longest writing has 100 lines of at most 344 signs.
    private static final int PAPER_SIGNS = 36000;
    // Each QUARREL takes up two NODES at least of the 300 that are joined.
    private static final int QUARRELS = 200;
    // A PLAIN PATH has at most 12 STEPS of at most 25 signs.
    private static final int QUARREL_SIGNS = 60000;
    private static final int REFS = 13;
    private static final int ASKS = 2000;
    private static final int COMPLAINTS = 1000;
    // 12 SCHEMAS within each other, and 10 more with each of 13 "ref", and one TRUTH.
    private static final int OPEN_ASKS = 150;
    private static final int NO_BOUND = 1000000;
    private static final int SEEDS = 65536;

    private static final int NOTHING = 0;
    private static final int TRUTH = 1;
    private static final int NUMBER = 2;
    private static final int TEXT = 3;
    private static final int ROW = 4;
    private static final int MAP = 5;

    private static final int LEAST = 0;
    private static final int ONE_WAY = 1;
    private static final int INDENTS = 2;

    private final Sheet thePage = new Sheet(PAGE_SIGNS);
    private final Sheet thePaper = new Sheet(PAPER_SIGNS);
    private final Sheet draft = new Sheet(PAPER_SIGNS);
    private final Tree[] documents = new Tree[DOCUMENTS];
    private final Tree made = new Tree();
    private final Tree theStandard = new Tree();
    private final Reader reader = new Reader();
    private final Route route = new Route();
    private final Finder finder = new Finder();
    private final Orders orders = new Orders();
    private final Editor editor = new Editor();
    private final Joiner joiner = new Joiner();
    private final Checker checker = new Checker();
    private final Grower grower = new Grower();
    private int count;
    private int theRule;

    public Treeletter() {
        for (int i = 0; i < documents.length; i++) {
            documents[i] = new Tree();
        }
        Scribe.standardTo(draft);
        reader.parse(draft, 0);
        theStandard.copyOf(reader.result(), 0);
    }

    public int write(int n, long letters) throws IllegalArgumentException, IllegalStateException {
        if (n < 1 || n > 8 || !areSigns(n, letters)) {
            throw new IllegalArgumentException();
        }
        if (thePage.length() + n > PAGE_SIGNS) {
            throw new IllegalStateException();
        }
        for (int i = n - 1; i >= 0; i--) {
            thePage.add(letterAt(letters, i));
        }
        return thePage.length();
    }

    public int wipe() {
        int n = thePage.length();
        thePage.clear();
        return n;
    }

    public long paper(int place, int n) throws IndexOutOfBoundsException, IllegalArgumentException {
        if (place < 0 || place >= thePaper.length()) {
            throw new IndexOutOfBoundsException();
        }
        if (n < 1 || n > 7 || n > thePaper.length() - place) {
            throw new IllegalArgumentException();
        }
        long letters = 0;
        for (int i = 0; i < n; i++) {
            letters = letters * 256 + thePaper.at(place + i);
        }
        return letters;
    }

    // ---- reading, writing

    public int rule(int how) throws IllegalArgumentException {
        if (how < 0 || how > 2) {
            throw new IllegalArgumentException();
        }
        int before = theRule;
        theRule = how;
        return before;
    }

    public int read() throws IllegalStateException {
        if (count >= DOCUMENTS) {
            throw new IllegalStateException();
        }
        int fault = reader.parse(thePage, theRule);
        thePage.clear();
        if (fault != NONE) {
            return -2 - fault;
        }
        return admit(reader.result());
    }

    public int print(int doc, int way) throws IndexOutOfBoundsException, IllegalArgumentException {
        Tree tree = document(doc);
        if (way < LEAST || way > INDENTS) {
            throw new IllegalArgumentException();
        }
        thePaper.clear();
        Scribe.value(tree, 0, way, 0, thePaper);
        return thePaper.length();
    }

    // ---- values

    public int node(int doc, int node, int what) throws IndexOutOfBoundsException, IllegalArgumentException {
        Tree tree = documentWith(doc, node);
        if (what < 0 || what > 9) {
            throw new IllegalArgumentException();
        }
        return tree.about(node, what);
    }

    public int tell(int doc, int node, int what)
            throws IndexOutOfBoundsException, IllegalArgumentException, IllegalStateException {
        Tree tree = documentWith(doc, node);
        if (what < 0 || what > 3) {
            throw new IllegalArgumentException();
        }
        if (!canTell(tree, node, what)) {
            throw new IllegalStateException();
        }
        thePaper.clear();
        if (what < 2) {
            tree.signsTo(node, thePaper);
        } else if (what == 2) {
            tree.keyTo(node, thePaper);
        } else {
            tree.pathTo(node, thePaper);
        }
        return thePaper.length();
    }

    public boolean equal(int a, int b) throws IndexOutOfBoundsException {
        Tree one = document(a);
        Tree other = document(b);
        return one.same(0, other, 0, 0);
    }

    public int compare(int a, int b) throws IndexOutOfBoundsException, IllegalStateException {
        Tree one = document(a);
        Tree other = document(b);
        if (!one.is(0, NUMBER) || !other.is(0, NUMBER)) {
            throw new IllegalStateException();
        }
        return one.orderOfNumbers(0, other, 0);
    }

    public int digest(int doc, int node) throws IndexOutOfBoundsException {
        Tree tree = documentWith(doc, node);
        draft.clear();
        Scribe.value(tree, node, ONE_WAY, 0, draft);
        return draft.digestOf();
    }

    public int take(int doc, int node) throws IndexOutOfBoundsException, IllegalStateException {
        Tree tree = documentWith(doc, node);
        made.copyOf(tree, node);
        return admit(made);
    }

    public int sorted(int doc) throws IndexOutOfBoundsException, IllegalStateException {
        Tree tree = document(doc);
        made.clear();
        made.appendInOrder(tree, 0, 0);
        return admit(made);
    }

    public int both(int a, int b) throws IndexOutOfBoundsException, IllegalStateException {
        Tree one = document(a);
        Tree other = document(b);
        made.clear();
        int pair = made.add(ROW);
        made.append(one, 0);
        made.append(other, 0);
        made.close(pair);
        return admit(made);
    }

    public int undo() throws IllegalStateException {
        if (count < 1) {
            throw new IllegalStateException();
        }
        count--;
        return count;
    }

    // ---- paths, changes

    public int select(int doc) throws IndexOutOfBoundsException, IllegalStateException {
        Tree tree = document(doc);
        loadPage();
        thePage.clear();
        finder.seek(tree, route);
        return finder.count();
    }

    public int find(int k) throws IndexOutOfBoundsException {
        if (k < 0 || k >= finder.count()) {
            throw new IndexOutOfBoundsException();
        }
        return finder.at(k);
    }

    public int put(int doc, int value) throws IndexOutOfBoundsException, IllegalStateException {
        Tree tree = document(doc);
        Tree other = document(value);
        loadPage();
        editor.begin(tree, false);
        if (!editor.putIn(route, other, 0)) {
            throw new IllegalStateException();
        }
        return admitAndWipe(editor.result());
    }

    public int cut(int doc) throws IndexOutOfBoundsException, IllegalStateException {
        Tree tree = document(doc);
        loadPage();
        editor.begin(tree, false);
        if (!editor.cutOut(route)) {
            throw new IllegalStateException();
        }
        return admitAndWipe(editor.result());
    }

    public int lay(int doc, int patch) throws IndexOutOfBoundsException, IllegalStateException {
        Tree tree = document(doc);
        Tree list = document(patch);
        if (!list.is(0, ROW)) {
            return NONE;
        }
        editor.begin(tree, false);
        int failed = editor.layAll(list);
        if (failed != NONE) {
            return -2 - failed;
        }
        return admit(editor.result());
    }

    public int patch(int a, int b) throws IndexOutOfBoundsException, IllegalStateException {
        Tree one = document(a);
        Tree other = document(b);
        orders.listTo(one, other, made);
        return admit(made);
    }

    public int turn(int doc, int patch) throws IndexOutOfBoundsException, IllegalStateException {
        Tree tree = document(doc);
        Tree list = document(patch);
        if (!list.is(0, ROW)) {
            throw new IllegalStateException();
        }
        editor.begin(tree, true);
        if (editor.layAll(list) != NONE) {
            throw new IllegalStateException();
        }
        return admit(editor.wayBack());
    }

    // ---- joining

    public int join(int o, int a, int b) throws IndexOutOfBoundsException, IllegalStateException {
        Tree common = document(o);
        Tree one = document(a);
        Tree other = document(b);
        if (!joiner.unite(common, one, other)) {
            return NONE;
        }
        int doc = admit(joiner.result());
        joiner.forget();
        return doc;
    }

    public int quarrels() {
        return joiner.count();
    }

    public int quarrel(int k) throws IndexOutOfBoundsException {
        if (k < 0 || k >= joiner.count()) {
            throw new IndexOutOfBoundsException();
        }
        thePaper.clear();
        joiner.pathTo(k, thePaper);
        return thePaper.length();
    }

    // ---- schemas

    public int standard() throws IllegalStateException {
        return admit(theStandard);
    }

    public int check(int schema, int doc) throws IndexOutOfBoundsException, IllegalStateException {
        Tree asker = document(schema);
        Tree tree = document(doc);
        if (!checker.agrees(theStandard, asker) || !checker.examine(asker, tree)) {
            throw new IllegalStateException();
        }
        return checker.count();
    }

    public int complaint(int k, int what) throws IndexOutOfBoundsException, IllegalArgumentException {
        if (k < 0 || k >= checker.count()) {
            throw new IndexOutOfBoundsException();
        }
        if (what < 0 || what > 1) {
            throw new IllegalArgumentException();
        }
        return what == 0 ? checker.nodeAt(k) : checker.wordAt(k);
    }

    // ---- tables, growing, all

    public int columns(int doc) throws IndexOutOfBoundsException, IllegalStateException {
        Tree tree = document(doc);
        if (!tree.is(0, ROW) || !tree.hasOnly(0, MAP)) {
            throw new IllegalStateException();
        }
        byColumns(tree, made);
        return admit(made);
    }

    public int rows(int doc) throws IndexOutOfBoundsException, IllegalStateException {
        Tree tree = document(doc);
        if (!isByColumns(tree)) {
            throw new IllegalStateException();
        }
        byRows(tree, made);
        return admit(made);
    }

    public int grow(int seed, int size) throws IllegalArgumentException, IllegalStateException {
        if (seed < 0 || seed >= SEEDS || size < 1 || size > 3) {
            throw new IllegalArgumentException();
        }
        grower.begin(seed);
        grower.sprout(0, size);
        return admit(grower.result());
    }

    public int vary(int doc, int seed)
            throws IndexOutOfBoundsException, IllegalArgumentException, IllegalStateException {
        Tree tree = document(doc);
        if (seed < 0 || seed >= SEEDS) {
            throw new IllegalArgumentException();
        }
        grower.begin(seed);
        int node = grower.draw(tree.count());
        grower.sprout(2, 2);
        made.copyOf(tree, 0);
        made.replace(node, grower.result(), 0);
        return admit(made);
    }

    public int sum(int what) throws IllegalArgumentException {
        if (what < 0 || what > 6) {
            throw new IllegalArgumentException();
        }
        switch (what) {
            case 0:
                return count;
            case 1:
                return thePage.length();
            case 2:
                return thePaper.length();
            case 3:
                return theRule;
            case 4:
                return finder.count();
            case 5:
                return checker.count();
            default:
                return allNodes();
        }
    }

    public boolean isSound(int doc) throws IndexOutOfBoundsException {
        Tree tree = document(doc);
        boolean sound = tree.isDocument() && tree.isWithinBounds();
        for (int way = LEAST; way <= INDENTS && sound; way++) {
            draft.clear();
            Scribe.value(tree, 0, way, 0, draft);
            sound = reader.parse(draft, 0) == NONE && reader.result().same(0, tree, 0, 0);
        }
        return sound;
    }

    private static int letterAt(long letters, int fromEnd) {
        return (int) (letters >>> (8 * fromEnd)) & 255;
    }

    private static boolean areSigns(int n, long letters) {
        if (n < 8 && letters >>> (8 * n) != 0) {
            return false;
        }
        for (int i = 0; i < n; i++) {
            int sign = letterAt(letters, i);
            if (sign != 10 && (sign < 32 || sign > 126)) {
                return false;
            }
        }
        return true;
    }

    private static boolean canTell(Tree tree, int node, int what) {
        switch (what) {
            case 0:
                return tree.is(node, TEXT);
            case 1:
                return tree.is(node, NUMBER);
            case 2:
                return tree.is(tree.ownerOf(node), MAP);
            default:
                return true;
        }
    }

    private Tree document(int doc) {
        Tree tree = doc >= 0 && doc < count && doc < documents.length ? documents[doc] : null;
        if (tree == null) {
            throw new IndexOutOfBoundsException();
        }
        return tree;
    }

    private Tree documentWith(int doc, int node) {
        Tree tree = document(doc);
        if (!tree.has(node)) {
            throw new IndexOutOfBoundsException();
        }
        return tree;
    }

    private void loadPage() {
        if (!route.load(thePage)) {
            throw new IllegalStateException();
        }
    }

    private int admit(Tree tree) {
        Tree place = count >= 0 && count < documents.length ? documents[count] : null;
        if (place == null || !tree.isDocument()) {
            throw new IllegalStateException();
        }
        place.copyOf(tree, 0);
        count++;
        return count - 1;
    }

    private int admitAndWipe(Tree tree) {
        int doc = admit(tree);
        thePage.clear();
        return doc;
    }

    private int allNodes() {
        int nodes = 0;
        for (int i = 0; i < count; i++) {
            nodes += document(i).count();
        }
        return nodes;
    }

    private static void byColumns(Tree table, Tree to) {
        to.clear();
        int map = to.add(MAP);
        for (int r = table.first(0), n = 0; r != NONE && n < NODES; r = table.next(0, r), n++) {
            for (int c = table.first(r), m = 0; c != NONE && m < NODES; c = table.next(r, c), m++) {
                to.close(map);
                if (to.valueLike(map, table, c) == NONE) {
                    addColumn(table, c, to);
                }
            }
        }
        to.close(map);
    }

    private static void addColumn(Tree table, int like, Tree to) {
        int column = to.add(ROW);
        to.setKeyLike(column, table, like);
        for (int r = table.first(0), n = 0; r != NONE && n < NODES; r = table.next(0, r), n++) {
            int value = table.valueLike(r, table, like);
            to.clearKey(value == NONE ? to.add(NOTHING) : to.append(table, value));
        }
        to.close(column);
    }

    private static boolean isByColumns(Tree tree) {
        int first = tree.firstOfMap(0);
        boolean even = first != NONE && tree.hasOnly(0, ROW);
        for (int c = first, n = 0; c != NONE && n < NODES; c = tree.next(0, c), n++) {
            even = even && tree.values(c) == tree.values(first);
        }
        return even;
    }

    private static void byRows(Tree table, Tree to) {
        to.clear();
        int list = to.add(ROW);
        int rows = table.values(table.firstOfMap(0));
        for (int r = 0; r < rows; r++) {
            int map = to.add(MAP);
            for (int c = table.firstOfMap(0), n = 0; c != NONE && n < NODES; c = table.next(0, c), n++) {
                int value = to.append(table, table.valueAt(c, r));
                to.setKeyLike(value, table, c);
            }
            to.close(map);
        }
        to.close(list);
    }

    /** Signs in a row of fixed room: THE PAGE, THE PAPER, and what is written on the way. */
    private static final class Sheet {
        private final char[] signs;
        private int length;

        Sheet(int room) {
            signs = new char[Math.max(0, room)];
        }

        int length() {
            return length;
        }

        void clear() {
            length = 0;
        }

        void shorten(int to) {
            if (to >= 0 && to < length) {
                length = to;
            }
        }

        int at(int place) {
            return place >= 0 && place < length && place < signs.length ? signs[place] : NONE;
        }

        void add(int sign) {
            if (length >= 0 && length < signs.length) {
                signs[length] = (char) sign;
                length++;
            }
        }

        void addAll(String text) {
            for (int i = 0; i < text.length(); i++) {
                add(text.charAt(i));
            }
        }

        /** Adds a sign of a TEXT as it is written. */
        void addWritten(int sign) {
            if (sign >= 32 && sign <= 126) {
                if (sign == '"' || sign == '\\') {
                    add('\\');
                }
                add(sign);
                return;
            }
            add('\\');
            add('u');
            add('0');
            add('0');
            add(sign / 16 % 16 < 10 ? '0' + sign / 16 % 16 : 'a' - 10 + sign / 16 % 16);
            add(sign % 16 < 10 ? '0' + sign % 16 : 'a' - 10 + sign % 16);
        }

        void addPart(Sheet other, int from, int to) {
            for (int i = Math.max(0, from); i < to && i < other.length(); i++) {
                add(other.at(i));
            }
        }

        /** Adds a whole number, of at most three figures, perhaps with a - ahead. */
        void addNumber(int number) {
            int rest = Math.abs(number);
            if (number < 0) {
                add('-');
            }
            if (rest > 99) {
                add('0' + rest / 100 % 10);
            }
            if (rest > 9) {
                add('0' + rest / 10 % 10);
            }
            add('0' + rest % 10);
        }

        boolean says(String text) {
            boolean same = length == text.length();
            for (int i = 0; i < length && same; i++) {
                same = at(i) == text.charAt(i);
            }
            return same;
        }

        /** Whether the signs behind a place are just those of another sheet. */
        boolean endsWith(Sheet other, int from) {
            boolean same = length - from == other.length();
            for (int i = 0; i < other.length() && same; i++) {
                same = at(from + i) == other.at(i);
            }
            return same;
        }

        int placeOf(int sign) {
            for (int i = 0; i < length; i++) {
                if (at(i) == sign) {
                    return i;
                }
            }
            return NONE;
        }

        int digestOf() {
            int h = 7;
            for (int i = 0; i < length; i++) {
                h = (257 * h + at(i)) % 65521;
            }
            return h;
        }
    }

    /**
     * A VALUE as its NODES in a row, each ahead of its own: a NODE's are the next ones, as many as
     * its size tells. A tree that should have had more than 100 NODES is overfull from then on.
     */
    private static final class Tree {
        private final int[] kinds = new int[NODES];
        private final int[] sizes = new int[NODES];
        // The POWER of a NUMBER; 1 for true.
        private final int[] powers = new int[NODES];
        private final int[] lengths = new int[NODES];
        private final char[] signs = new char[NODES * TEXT_SIGNS];
        private final int[] keyLengths = new int[NODES];
        private final char[] keys = new char[NODES * KEY_SIGNS];
        private int count;
        private boolean overfull;

        void clear() {
            count = 0;
            overfull = false;
        }

        int count() {
            return count;
        }

        boolean isOverfull() {
            return overfull;
        }

        boolean has(int node) {
            return node >= 0 && node < count && node < NODES;
        }

        int kind(int node) {
            return node >= 0 && node < count && node < NODES ? kinds[node] : NONE;
        }

        boolean is(int node, int kind) {
            return node >= 0 && node < count && node < NODES && kinds[node] == kind;
        }

        boolean isGroup(int node) {
            return node >= 0 && node < count && node < NODES && (kinds[node] == ROW || kinds[node] == MAP);
        }

        boolean isTrue(int node) {
            return is(node, TRUTH) && powers[node] == 1;
        }

        int power(int node) {
            return is(node, NUMBER) ? powers[node] : 0;
        }

        int size(int node) {
            return node >= 0 && node < count && node < NODES ? sizes[node] : 0;
        }

        /** The place behind all NODES of a NODE. */
        int after(int node) {
            return node >= 0 && node < count && node < NODES ? node + Math.max(1, sizes[node]) : node + 1;
        }

        int first(int group) {
            boolean there = group >= 0 && group < count - 1 && group < NODES;
            return there && kinds[group] >= ROW && sizes[group] > 1 ? group + 1 : NONE;
        }

        int firstOfMap(int map) {
            boolean there = map >= 0 && map < count - 1 && map < NODES;
            return there && kinds[map] == MAP && sizes[map] > 1 ? map + 1 : NONE;
        }

        int next(int group, int value) {
            if (group < 0 || value <= group || value >= count || value >= NODES) {
                return NONE;
            }
            int behind = value + Math.max(1, sizes[value]);
            return behind < count && behind < group + sizes[group] ? behind : NONE;
        }

        int values(int group) {
            int n = 0;
            for (int c = first(group); c != NONE && n < NODES; c = next(group, c)) {
                n++;
            }
            return n;
        }

        int valueAt(int group, int place) {
            for (int c = first(group), n = 0; c != NONE && n < NODES; c = next(group, c), n++) {
                if (n == place) {
                    return c;
                }
            }
            return NONE;
        }

        /** How many signs or VALUES it has. */
        int length(int node) {
            if (is(node, TEXT)) {
                return lengths[node];
            }
            return isGroup(node) ? values(node) : NONE;
        }

        /** The NODE of which it is a VALUE. */
        int ownerOf(int node) {
            for (int p = Math.min(node, count) - 1; p >= 0; p--) {
                if (after(p) > node) {
                    return p;
                }
            }
            return NONE;
        }

        int placeOf(int node) {
            int owner = ownerOf(node);
            for (int c = first(owner), n = 0; c != NONE && n < NODES; c = next(owner, c), n++) {
                if (c == node) {
                    return n;
                }
            }
            return NONE;
        }

        boolean hasOnly(int group, int kind) {
            boolean only = true;
            for (int c = first(group), n = 0; c != NONE && n < NODES; c = next(group, c), n++) {
                only = only && is(c, kind);
            }
            return only;
        }

        int about(int node, int what) {
            switch (what) {
                case 0:
                    return kind(node);
                case 1:
                    return depth(node, 0);
                case 2:
                    return size(node);
                case 3:
                    return length(node);
                case 4:
                    return is(node, TRUTH) ? powers[node] : NONE;
                case 5:
                    return power(node);
                case 6:
                    return figures(node);
                case 7:
                    return is(node, NUMBER) ? signOf(node) : NONE;
                case 8:
                    return ownerOf(node);
                default:
                    return placeOf(node);
            }
        }

        private int depth(int node, int open) {
            if (!isGroup(node)) {
                return 0;
            }
            int deepest = 0;
            for (int c = node + 1, n = 0; c < after(node) && n < NODES && open <= DEPTH; c = after(c), n++) {
                deepest = Math.max(deepest, depth(c, open + 1));
            }
            return deepest + 1;
        }

        boolean isDocument() {
            return !overfull && count >= 1 && count <= NODES && size(0) == count && depth(0, 0) <= DEPTH;
        }

        boolean isWithinBounds() {
            boolean within = true;
            for (int i = 0; i < count && within; i++) {
                within = size(i) >= 1 && after(i) <= count && hasSoundSigns(i) && hasSoundKeys(i);
            }
            return within;
        }

        private boolean hasSoundSigns(int node) {
            int n = has(node) ? lengths[node] : NONE;
            if (is(node, TEXT)) {
                return n >= 0 && n <= TEXT_SIGNS;
            }
            if (!is(node, NUMBER)) {
                return true;
            }
            boolean zero = signOf(node) == 0;
            boolean ended = zero ? power(node) == 0 && figures(node) == 1 : digit(node, figures(node) - 1) != '0';
            return ended && figures(node) <= FIGURES && Math.abs(power(node)) <= POWER;
        }

        private boolean hasSoundKeys(int map) {
            boolean sound = true;
            for (int c = firstOfMap(map), n = 0; c != NONE && n < NODES && sound; c = next(map, c), n++) {
                sound = keyLength(c) <= KEY_SIGNS && valueLike(map, this, c) == c;
            }
            return sound;
        }

        // ---- NUMBERS

        /** Sets figures times 10 to a power, of any power; whether the NUMBER is one by its POWER. */
        boolean setNumber(int node, boolean negative, Sheet figures, int power) {
            if (!has(node)) {
                return false;
            }
            int from = 0;
            int to = figures.length();
            while (from < to && figures.at(from) == '0') {
                from++;
            }
            while (to > from && figures.at(to - 1) == '0') {
                to--;
            }
            lengths[node] = 0;
            if (from == to) {
                addSign(node, '0');
                powers[node] = 0;
                return true;
            }
            if (negative) {
                addSign(node, '-');
            }
            for (int i = from; i < to; i++) {
                addSign(node, figures.at(i));
            }
            powers[node] = power + figures.length() - to;
            return Math.abs(powers[node]) <= POWER;
        }

        private int digit(int node, int place) {
            int at = place + (signAt(node, 0) == '-' ? 1 : 0);
            return at >= 0 && at < lengthOf(node) ? signAt(node, at) : '0';
        }

        int figures(int node) {
            if (!is(node, NUMBER)) {
                return 0;
            }
            return lengths[node] - (signAt(node, 0) == '-' ? 1 : 0);
        }

        private int signOf(int node) {
            int sign = signAt(node, 0);
            if (sign == '-') {
                return -1;
            }
            return sign == '0' ? 0 : 1;
        }

        private static int order(int a, int b) {
            return Math.max(-1, Math.min(1, a - b));
        }

        int orderOfNumbers(int node, Tree other, int its) {
            int sign = signOf(node);
            if (sign != other.signOf(its) || sign == 0) {
                return order(sign, other.signOf(its));
            }
            int size = order(figures(node) + power(node), other.figures(its) + other.power(its));
            for (int i = 0; i < FIGURES && size == 0; i++) {
                size = order(digit(node, i), other.digit(its, i));
            }
            return sign * size;
        }

        // ---- signs and KEYS

        int signAt(int node, int place) {
            boolean there = node >= 0 && node < count && node < NODES && place >= 0 && place < TEXT_SIGNS;
            return there && place < lengths[node] ? signs[node * TEXT_SIGNS + place] : NONE;
        }

        int lengthOf(int node) {
            return node >= 0 && node < count && node < NODES ? lengths[node] : 0;
        }

        void addSign(int node, int sign) {
            boolean there = node >= 0 && node < count && node < NODES && lengths[node] >= 0;
            if (there && lengths[node] < TEXT_SIGNS) {
                signs[node * TEXT_SIGNS + lengths[node]] = (char) sign;
                lengths[node]++;
            } else {
                overfull = true;
            }
        }

        void signsTo(int node, Sheet to) {
            for (int i = 0; i < lengthOf(node); i++) {
                to.add(signAt(node, i));
            }
        }

        boolean says(int node, String text) {
            boolean same = is(node, TEXT) && lengthOf(node) == text.length();
            for (int i = 0; i < text.length() && same; i++) {
                same = signAt(node, i) == text.charAt(i);
            }
            return same;
        }

        int keyLength(int node) {
            return node >= 0 && node < count && node < NODES ? keyLengths[node] : 0;
        }

        int keySign(int node, int place) {
            boolean there = node >= 0 && node < count && node < NODES && place >= 0 && place < KEY_SIGNS;
            return there && place < keyLengths[node] ? keys[node * KEY_SIGNS + place] : NONE;
        }

        void addKeySign(int node, int sign) {
            boolean there = node >= 0 && node < count && node < NODES && keyLengths[node] >= 0;
            if (there && keyLengths[node] < KEY_SIGNS) {
                keys[node * KEY_SIGNS + keyLengths[node]] = (char) sign;
                keyLengths[node]++;
            } else {
                overfull = true;
            }
        }

        void clearKey(int node) {
            if (node >= 0 && node < count && node < NODES) {
                keyLengths[node] = 0;
            }
        }

        void setKey(int node, Sheet key) {
            clearKey(node);
            for (int i = 0; i < key.length(); i++) {
                addKeySign(node, key.at(i));
            }
        }

        void setKeyWord(int node, String key) {
            clearKey(node);
            for (int i = 0; i < key.length(); i++) {
                addKeySign(node, key.charAt(i));
            }
        }

        void setKeyLike(int node, Tree other, int its) {
            clearKey(node);
            for (int i = 0; i < other.keyLength(its); i++) {
                addKeySign(node, other.keySign(its, i));
            }
        }

        void keyTo(int node, Sheet to) {
            for (int i = 0; i < keyLength(node); i++) {
                to.add(keySign(node, i));
            }
        }

        /** -1, 0, 1, as its KEY is ahead of the other one's, the same, behind it. */
        private int orderOfKeys(int node, Tree other, int its) {
            if (node < 0 || node >= NODES || its < 0 || its >= NODES) {
                return NONE;
            }
            int shared = Math.min(Math.min(keyLengths[node], other.keyLengths[its]), KEY_SIGNS);
            for (int i = 0; i < shared; i++) {
                int order = keys[node * KEY_SIGNS + i] - other.keys[its * KEY_SIGNS + i];
                if (order != 0) {
                    return order < 0 ? -1 : 1;
                }
            }
            return Math.max(-1, Math.min(1, keyLengths[node] - other.keyLengths[its]));
        }

        int valueLike(int map, Tree other, int its) {
            for (int c = firstOfMap(map), n = 0; c != NONE && n < NODES; c = next(map, c), n++) {
                if (orderOfKeys(c, other, its) == 0) {
                    return c;
                }
            }
            return NONE;
        }

        int valueOf(int map, Sheet key) {
            for (int c = firstOfMap(map), n = 0; c != NONE && n < NODES; c = next(map, c), n++) {
                if (hasKey(c, key)) {
                    return c;
                }
            }
            return NONE;
        }

        private boolean hasKey(int node, Sheet key) {
            boolean same = keyLength(node) == key.length();
            for (int i = 0; i < key.length() && same; i++) {
                same = keySign(node, i) == key.at(i);
            }
            return same;
        }

        int valueNamed(int map, String key) {
            for (int c = firstOfMap(map), n = 0; c != NONE && n < NODES; c = next(map, c), n++) {
                if (hasKeyWord(c, key)) {
                    return c;
                }
            }
            return NONE;
        }

        private boolean hasKeyWord(int node, String key) {
            boolean same = keyLength(node) == key.length();
            for (int i = 0; i < key.length() && same; i++) {
                same = keySign(node, i) == key.charAt(i);
            }
            return same;
        }

        /** The VALUE of a MAP with the least KEY behind that of another one, or of all. */
        int nextByKey(int map, int last) {
            int least = NONE;
            for (int c = firstOfMap(map), n = 0; c != NONE && n < NODES; c = next(map, c), n++) {
                boolean open = last == NONE || orderOfKeys(c, this, last) > 0;
                if (open && (least == NONE || orderOfKeys(c, this, least) < 0)) {
                    least = c;
                }
            }
            return least;
        }

        // ---- EQUAL

        /** Whether two VALUES are EQUAL; open tells in how many others they are, 0 at first. */
        private boolean same(int node, Tree other, int its, int open) {
            if (!has(node) || kind(node) != other.kind(its) || size(node) != other.size(its) || open > DEPTH) {
                return false;
            }
            if (!isGroup(node)) {
                return sameSigns(node, other, its);
            }
            boolean ordered = is(node, ROW);
            boolean same = values(node) == other.values(its);
            int d = other.first(its);
            for (int c = first(node), n = 0; c != NONE && n < NODES && same; c = next(node, c), n++) {
                same = same(c, other, ordered ? d : other.valueLike(its, this, c), open + 1);
                d = other.next(its, d);
            }
            return same;
        }

        private boolean sameSigns(int node, Tree other, int its) {
            boolean same = powerOrTruth(node) == other.powerOrTruth(its) && lengthOf(node) == other.lengthOf(its);
            for (int i = 0; i < lengthOf(node) && same; i++) {
                same = signAt(node, i) == other.signAt(its, i);
            }
            return same;
        }

        private int powerOrTruth(int node) {
            return node >= 0 && node < count && node < NODES ? powers[node] : 0;
        }

        // ---- PLAIN PATHS

        void pathTo(int node, Sheet to) {
            for (int p = 1; p <= node && p < count; p++) {
                if (after(p) > node) {
                    stepTo(p, to);
                }
            }
        }

        void stepTo(int node, Sheet to) {
            to.add('/');
            if (!is(ownerOf(node), MAP)) {
                to.addNumber(Math.max(0, placeOf(node)));
                return;
            }
            for (int i = 0; i < keyLength(node); i++) {
                int sign = keySign(node, i);
                if (sign == '~' || sign == '/') {
                    to.add('~');
                    to.add(sign == '~' ? '0' : '1');
                } else {
                    to.add(sign);
                }
            }
        }

        // ---- making and changing

        int add(int kind) {
            if (count < 0 || count >= NODES) {
                overfull = true;
                return NONE;
            }
            kinds[count] = kind;
            sizes[count] = 1;
            powers[count] = 0;
            lengths[count] = 0;
            keyLengths[count] = 0;
            count++;
            return count - 1;
        }

        int addTruth(boolean truth) {
            int node = add(TRUTH);
            if (has(node) && truth) {
                powers[node] = 1;
            }
            return node;
        }

        /** Tells that all that came behind a NODE is its own. */
        void close(int group) {
            if (has(group)) {
                sizes[group] = count - group;
            }
        }

        void dropFrom(int node) {
            if (has(node)) {
                count = node;
            }
        }

        int append(Tree source, int from) {
            int n = source.size(from);
            if (source.isOverfull() || n < 1 || count + n > NODES) {
                overfull = true;
                return NONE;
            }
            copyNodes(count, source, from, n);
            count += n;
            return count - n;
        }

        void copyOf(Tree source, int from) {
            clear();
            append(source, from);
            clearKey(0);
        }

        private void appendInOrder(Tree source, int from, int open) {
            if (!source.has(from) || count >= NODES || open > DEPTH) {
                overfull = true;
                return;
            }
            int node = count;
            copyNodes(node, source, from, 1);
            count++;
            boolean ordered = source.is(from, ROW);
            int c = ordered ? source.first(from) : source.nextByKey(from, NONE);
            for (int n = 0; n < NODES && c != NONE; n++) {
                appendInOrder(source, c, open + 1);
                c = ordered ? source.next(from, c) : source.nextByKey(from, c);
            }
            close(node);
        }

        private void copyNodes(int to, Tree source, int from, int n) {
            if (to < 0 || from < 0 || n < 1 || to + n > NODES || from + n > NODES) {
                return;
            }
            System.arraycopy(source.kinds, from, kinds, to, n);
            System.arraycopy(source.sizes, from, sizes, to, n);
            System.arraycopy(source.powers, from, powers, to, n);
            System.arraycopy(source.lengths, from, lengths, to, n);
            System.arraycopy(source.signs, from * TEXT_SIGNS, signs, to * TEXT_SIGNS, n * TEXT_SIGNS);
            System.arraycopy(source.keyLengths, from, keyLengths, to, n);
            System.arraycopy(source.keys, from * KEY_SIGNS, keys, to * KEY_SIGNS, n * KEY_SIGNS);
        }

        /** Brings n NODES of another tree into the place of those from at on that go, all in owner. */
        private boolean splice(int owner, int at, int gone, Tree source, int from, int n) {
            int behind = at + gone;
            if (!has(owner) || at < 0 || gone < 0 || n < 0 || behind > count) {
                return false;
            }
            if (source.isOverfull() || count - gone + n > NODES) {
                overfull = true;
                return false;
            }
            copyNodes(at + n, this, behind, count - behind);
            copyNodes(at, source, from, n);
            count += n - gone;
            for (int p = 0; p <= owner; p++) {
                if (p + sizes[p] > owner) {
                    sizes[p] += n - gone;
                }
            }
            return true;
        }

        /** Brings a VALUE of another tree into the place of one, which leaves its KEY there. */
        void replace(int node, Tree source, int from) {
            if (!has(node) || !source.has(from)) {
                overfull = true;
                return;
            }
            if (splice(node, node + 1, size(node) - 1, source, from + 1, source.size(from) - 1)) {
                kinds[node] = source.kinds[from];
                powers[node] = source.powers[from];
                lengths[node] = source.lengths[from];
                System.arraycopy(source.signs, from * TEXT_SIGNS, signs, node * TEXT_SIGNS, TEXT_SIGNS);
            }
        }

        /** Brings a VALUE of another tree ahead of the NODE at a place, as a VALUE of a group. */
        void insert(int group, int at, Tree source, int from) {
            splice(group, at, 0, source, from, source.size(from));
        }

        void remove(int node) {
            splice(ownerOf(node), node, size(node), this, node, 0);
        }

        /** The last VALUE that came takes the place of an earlier one. */
        void replaceByLast(int old, int last, Tree spare) {
            spare.copyOf(this, last);
            dropFrom(last);
            replace(old, spare, 0);
        }
    }

    /** Reads a text as a VALUE, up to its FAULT. */
    private static final class Reader {
        private final Tree made = new Tree();
        private final Tree spare = new Tree();
        private final Sheet key = new Sheet(KEY_SIGNS);
        private final Sheet signs = new Sheet(TEXT_SIGNS);
        private final Sheet figures = new Sheet(FIGURES);
        private Sheet source = key;
        private int rule;
        private int place;
        private int fault;
        // VALUES that began, those that THE RULE left out too.
        private int begun;

        Tree result() {
            return made;
        }

        /** The FAULT of the text, or NONE. */
        int parse(Sheet text, int how) {
            source = text;
            rule = how;
            place = 0;
            fault = NONE;
            begun = 0;
            made.clear();
            key.clear();
            value(0);
            skipBlanks();
            if (here() != NONE) {
                fail(place);
            }
            return fault;
        }

        private int here() {
            return source.at(place);
        }

        private int fail(int at) {
            if (fault == NONE) {
                fault = at;
            }
            return NONE;
        }

        private boolean goesOn() {
            return fault == NONE;
        }

        private void skipBlanks() {
            while (place < source.length() && (here() == ' ' || here() == 10)) {
                place++;
            }
        }

        private static boolean isFigure(int sign) {
            return sign >= '0' && sign <= '9';
        }

        /** Steps over a sign that has to be there. */
        private void pass(int sign) {
            if (source.at(place) == sign) {
                place++;
            } else {
                fail(place);
            }
        }

        private int begin(int kind) {
            int node = made.add(kind);
            made.setKey(node, key);
            return node;
        }

        private int value(int open) {
            skipBlanks();
            int sign = here();
            if (sign == NONE || begun >= NODES) {
                return fail(place);
            }
            begun++;
            if (sign == '[' || sign == '{') {
                return open >= DEPTH ? fail(place) : group(sign == '[' ? ROW : MAP, open + 1);
            }
            if (sign == '"') {
                return text();
            }
            return sign == '-' || isFigure(sign) ? number() : constant(sign);
        }

        private int constant(int sign) {
            if (sign == 'n') {
                passAll("null");
                return begin(NOTHING);
            }
            if (sign != 't' && sign != 'f') {
                return fail(place);
            }
            passAll(sign == 't' ? "true" : "false");
            int node = made.addTruth(sign == 't');
            made.setKey(node, key);
            return node;
        }

        private void passAll(String word) {
            for (int i = 0; i < word.length() && goesOn(); i++) {
                pass(word.charAt(i));
            }
        }

        private int text() {
            int node = begin(TEXT);
            readSigns(signs, TEXT_SIGNS);
            for (int i = 0; i < signs.length() && goesOn(); i++) {
                made.addSign(node, signs.at(i));
            }
            return node;
        }

        /** Reads signs up to the " behind them, which is stepped over. */
        private void readSigns(Sheet to, int most) {
            to.clear();
            pass('"');
            for (int n = 0; n <= most && here() != '"' && goesOn(); n++) {
                if (to.length() >= most || here() < 32) {
                    fail(place);
                } else if (here() == '\\') {
                    place++;
                    int sign = escaped();
                    if (goesOn()) {
                        to.add(sign);
                    }
                } else {
                    to.add(here());
                    place++;
                }
            }
            pass('"');
        }

        private int escaped() {
            int sign = here();
            place++;
            switch (sign) {
                case '"':
                case '\\':
                case '/':
                    return sign;
                case 'b':
                    return 8;
                case 'f':
                    return 12;
                case 'n':
                    return 10;
                case 'r':
                    return 13;
                case 't':
                    return 9;
                case 'u':
                    pass('0');
                    pass('0');
                    int high = hexFigure();
                    return 16 * high + hexFigure();
                default:
                    return fail(place - 1);
            }
        }

        private int hexFigure() {
            int sign = source.at(place);
            if (goesOn() && isFigure(sign)) {
                place++;
                return sign - '0';
            }
            if (goesOn() && (sign >= 'a' && sign <= 'f' || sign >= 'A' && sign <= 'F')) {
                place++;
                return sign - (sign >= 'a' ? 'a' : 'A') + 10;
            }
            fail(place);
            return 0;
        }

        private int number() {
            int start = place;
            figures.clear();
            boolean negative = here() == '-';
            if (negative) {
                place++;
            }
            if (here() == '0') {
                readFigure();
            } else {
                readFigures();
            }
            int whole = figures.length();
            if (here() == '.' && goesOn()) {
                place++;
                readFigures();
            }
            int power = whole - figures.length();
            if ((here() == 'e' || here() == 'E') && goesOn()) {
                power += exponent();
            }
            int node = begin(NUMBER);
            if (goesOn() && !made.setNumber(node, negative, figures, power)) {
                fail(start);
            }
            return node;
        }

        private void readFigure() {
            if (figures.length() >= FIGURES) {
                fail(place);
                return;
            }
            figures.add(here());
            place++;
        }

        /** Reads one figure at least. */
        private void readFigures() {
            if (!isFigure(here())) {
                fail(place);
            }
            for (int n = 0; n <= FIGURES && isFigure(here()) && goesOn(); n++) {
                readFigure();
            }
        }

        private int exponent() {
            place++;
            boolean negative = here() == '-';
            if (negative || here() == '+') {
                place++;
            }
            if (!isFigure(here())) {
                fail(place);
                return 0;
            }
            int power = here() - '0';
            place++;
            if (isFigure(here())) {
                power = power * 10 + here() - '0';
                place++;
            }
            return negative ? -power : power;
        }

        /** Reads a ROW or MAP; open tells how many are open, this one too. */
        private int group(int kind, int open) {
            int node = begin(kind);
            int end = kind == ROW ? ']' : '}';
            place++;
            skipBlanks();
            boolean ended = here() == end;
            for (int n = 0; n <= NODES && !ended && goesOn(); n++) {
                if (kind == ROW) {
                    key.clear();
                    value(open);
                } else {
                    entry(node, open);
                }
                skipBlanks();
                ended = here() == end;
                if (!ended) {
                    pass(',');
                }
            }
            pass(end);
            made.close(node);
            return node;
        }

        private void entry(int map, int open) {
            skipBlanks();
            readSigns(key, KEY_SIGNS);
            made.close(map);
            int old = made.valueOf(map, key);
            if (goesOn() && old != NONE && rule == 0) {
                fail(place - 1);
            }
            skipBlanks();
            pass(':');
            if (!goesOn()) {
                return;
            }
            int fresh = value(open);
            if (goesOn() && old != NONE && rule == 1) {
                made.dropFrom(fresh);
            } else if (goesOn() && old != NONE) {
                made.replaceByLast(old, fresh, spare);
            }
        }
    }

    /** Writes VALUES. */
    private static final class Scribe {
        private static void value(Tree tree, int node, int way, int indent, Sheet to) {
            switch (tree.kind(node)) {
                case NOTHING:
                    to.addAll("null");
                    break;
                case TRUTH:
                    to.addAll(tree.isTrue(node) ? "true" : "false");
                    break;
                case NUMBER:
                    number(tree, node, to);
                    break;
                case TEXT:
                    text(tree, node, to);
                    break;
                default:
                    group(tree, node, way, indent, to);
                    break;
            }
        }

        private static void number(Tree tree, int node, Sheet to) {
            tree.signsTo(node, to);
            if (tree.power(node) != 0) {
                to.add('e');
                to.addNumber(tree.power(node));
            }
        }

        private static void text(Tree tree, int node, Sheet to) {
            to.add('"');
            for (int i = 0; i < tree.lengthOf(node); i++) {
                to.addWritten(tree.signAt(node, i));
            }
            to.add('"');
        }

        private static void key(Tree tree, int node, Sheet to) {
            to.add('"');
            for (int i = 0; i < tree.keyLength(node); i++) {
                to.addWritten(tree.keySign(node, i));
            }
            to.add('"');
        }

        private static void group(Tree tree, int node, int way, int indent, Sheet to) {
            boolean map = tree.is(node, MAP);
            boolean byKeys = map && way == ONE_WAY;
            boolean lines = way == INDENTS && tree.first(node) != NONE;
            to.add(map ? '{' : '[');
            int c = byKeys ? tree.nextByKey(node, NONE) : tree.first(node);
            for (int n = 0; n < NODES && c != NONE && indent <= DEPTH; n++) {
                if (n > 0) {
                    to.add(',');
                }
                if (lines) {
                    line(indent + 1, to);
                }
                if (map) {
                    key(tree, c, to);
                    to.addAll(lines ? ": " : ":");
                }
                value(tree, c, way, indent + 1, to);
                c = byKeys ? tree.nextByKey(node, c) : tree.next(node, c);
            }
            if (lines) {
                line(indent, to);
            }
            to.add(map ? '}' : ']');
        }

        private static void line(int indent, Sheet to) {
            to.add(10);
            for (int i = 0; i < indent; i++) {
                to.addAll("  ");
            }
        }

        static void standardTo(Sheet to) {
            to.clear();
            to.addAll("{\"names\":{\"s\":{\"some\":[{\"kind\":\"truth\"},{\"kind\":\"map\",\"keys\":{");
            to.addAll("\"kind\":{\"some\":[{\"ref\":\"k\"},{\"kind\":\"row\",\"items\":{\"ref\":\"k\"}}]},");
            to.addAll("\"least\":{\"kind\":\"number\"},\"most\":{\"kind\":\"number\"},");
            to.addAll("\"shortest\":{\"kind\":\"number\"},\"longest\":{\"kind\":\"number\"},");
            to.addAll("\"needs\":{\"kind\":\"row\",\"items\":{\"kind\":\"text\"}},");
            to.addAll("\"keys\":{\"ref\":\"m\"},\"others\":{\"ref\":\"s\"},\"items\":{\"ref\":\"s\"},");
            to.addAll("\"only\":{\"kind\":\"row\"},\"all\":{\"ref\":\"r\"},\"some\":{\"ref\":\"r\"},");
            to.addAll("\"one\":{\"ref\":\"r\"},\"not\":{\"ref\":\"s\"},");
            to.addAll("\"ref\":{\"kind\":\"text\"},\"names\":{\"ref\":\"m\"}}}]},");
            to.addAll("\"k\":{\"only\":[\"nothing\",\"truth\",\"number\",\"text\",\"row\",\"map\",\"whole\"]},");
            to.addAll("\"m\":{\"kind\":\"map\",\"others\":{\"ref\":\"s\"}},");
            to.addAll("\"r\":{\"kind\":\"row\",\"items\":{\"ref\":\"s\"}}},\"ref\":\"s\"}");
        }
    }

    /** A PATH: its signs, and where its WORDS begin. */
    private static final class Route {
        private final Sheet signs = new Sheet(PAGE_SIGNS);
        private final Sheet word = new Sheet(PAGE_SIGNS);
        private final int[] starts = new int[PAGE_SIGNS];
        private int steps;

        int steps() {
            return steps;
        }

        /** Takes a text; whether it is a PATH. */
        boolean load(Sheet text) {
            signs.clear();
            signs.addPart(text, 0, text.length());
            return divide();
        }

        boolean loadText(Tree tree, int node) {
            signs.clear();
            tree.signsTo(node, signs);
            return tree.is(node, TEXT) && divide();
        }

        private boolean divide() {
            steps = 0;
            boolean sound = signs.length() == 0 || signs.at(0) == '/';
            for (int i = 0; i < signs.length() && sound; i++) {
                int next = signs.at(i + 1);
                if (signs.at(i) == '~') {
                    sound = next == '0' || next == '1';
                } else if (signs.at(i) == '/' && steps >= 0 && steps < starts.length) {
                    starts[steps] = i + 1;
                    steps++;
                }
            }
            return sound;
        }

        private int startOf(int step) {
            return step >= 0 && step < steps && step < starts.length ? starts[step] : signs.length() + 1;
        }

        void wordTo(int step, Sheet to) {
            to.clear();
            int end = startOf(step + 1) - 1;
            for (int i = startOf(step); i < end; i++) {
                if (signs.at(i) == '~') {
                    i++;
                    to.add(signs.at(i) == '0' ? '~' : '/');
                } else {
                    to.add(signs.at(i));
                }
            }
        }

        void textTo(Sheet to) {
            to.clear();
            to.addPart(signs, 0, signs.length());
        }

        /** The PATH, but with a place for its last WORD. */
        void textWithPlace(int place, Sheet to) {
            to.clear();
            to.addPart(signs, 0, startOf(steps - 1));
            to.addNumber(place);
        }

        /** Where a PLAIN PATH leads to by its first steps. */
        int leadsTo(Tree tree, int upTo) {
            int node = 0;
            for (int i = 0; i < upTo && i < steps && node != NONE; i++) {
                wordTo(i, word);
                node = tree.is(node, ROW) ? tree.valueAt(node, placeIn(word, 0)) : tree.valueOf(node, word);
            }
            return node;
        }

        /** The number that a word is from a sign on, written plainly; NONE, if none, or above 999. */
        static int placeIn(Sheet word, int from) {
            int n = word.length() - from;
            if (n < 1 || n > 3 || n > 1 && word.at(from) == '0') {
                return NONE;
            }
            int place = 0;
            for (int i = from; i < word.length(); i++) {
                int sign = word.at(i);
                if (sign < '0' || sign > '9') {
                    return NONE;
                }
                place = place * 10 + sign - '0';
            }
            return place;
        }
    }

    /** Finds NODES by a PATH. */
    private static final class Finder {
        private final Sheet word = new Sheet(PAGE_SIGNS);
        private final Sheet name = new Sheet(PAGE_SIGNS);
        private final Sheet writing = new Sheet(PAPER_SIGNS);
        private final int[] finds = new int[NODES];
        private final int[] before = new int[NODES];
        private final boolean[] met = new boolean[NODES];
        private int count;

        int count() {
            return count;
        }

        int at(int k) {
            return k >= 0 && k < count && k < NODES ? finds[k] : NONE;
        }

        void seek(Tree tree, Route route) {
            begin();
            meet(0);
            for (int i = 0; i < route.steps(); i++) {
                route.wordTo(i, word);
                int n = Math.min(count, NODES);
                for (int k = 0; k < n; k++) {
                    before[k] = finds[k];
                }
                begin();
                for (int k = 0; k < n; k++) {
                    stepFrom(tree, before[k]);
                }
            }
        }

        private void begin() {
            count = 0;
            for (int i = 0; i < NODES; i++) {
                met[i] = false;
            }
        }

        private void meet(int node) {
            if (node >= 0 && node < NODES && count >= 0 && count < NODES && !met[node]) {
                met[node] = true;
                finds[count] = node;
                count++;
            }
        }

        private void stepFrom(Tree tree, int node) {
            if (word.says("**")) {
                for (int i = node; i < tree.after(node); i++) {
                    meet(i);
                }
            } else if (word.says("*")) {
                for (int c = tree.first(node), n = 0; c != NONE && n < NODES; c = tree.next(node, c), n++) {
                    meet(c);
                }
            } else if (word.at(0) == '?') {
                meetMatches(tree, node);
            } else if (tree.is(node, ROW)) {
                meet(tree.valueAt(node, placeIn(tree, node)));
            } else {
                meet(tree.valueOf(node, word));
            }
        }

        private int placeIn(Tree tree, int row) {
            if (word.at(0) != '-') {
                return Route.placeIn(word, 0);
            }
            int back = Route.placeIn(word, 1);
            return back > 0 ? tree.values(row) - back : NONE;
        }

        private void meetMatches(Tree tree, int node) {
            int equals = word.placeOf('=');
            name.clear();
            name.addPart(word, 1, equals);
            for (int c = tree.first(node), n = 0; c != NONE && n < NODES && equals != NONE; n++) {
                int value = tree.valueOf(c, name);
                if (value != NONE) {
                    writing.clear();
                    Scribe.value(tree, value, LEAST, 0, writing);
                    if (word.endsWith(writing, equals + 1)) {
                        meet(c);
                    }
                }
                c = tree.next(node, c);
            }
        }
    }

    /** Makes the ORDERS of PATCHES. */
    private static final class Orders {
        private final Sheet path = new Sheet(PAGE_SIGNS);
        private final boolean[] equals = new boolean[NODES * NODES];
        private final int[] pairs = new int[NODES * NODES];
        private final int[] ones = new int[NODES];
        private final int[] others = new int[NODES];
        private Tree list = new Tree();
        private Tree one = list;
        private Tree other = list;

        /** The PATCH from a tree to another one. */
        void listTo(Tree a, Tree b, Tree to) {
            one = a;
            other = b;
            list = to;
            path.clear();
            list.clear();
            int row = list.add(ROW);
            between(0, 0, 0);
            list.close(row);
        }

        private void between(int i, int j, int open) {
            if (one.same(i, other, j, 0) || open > DEPTH) {
                return;
            }
            if (one.is(i, MAP) && other.is(j, MAP)) {
                betweenMaps(i, j, open);
            } else if (one.is(i, ROW) && other.is(j, ROW)) {
                betweenRows(i, j);
            } else {
                add(list, "replace", path, other, j);
            }
        }

        private void betweenMaps(int i, int j, int open) {
            int here = path.length();
            for (int c = one.first(i), n = 0; c != NONE && n < NODES; c = one.next(i, c), n++) {
                if (other.valueLike(j, one, c) == NONE) {
                    one.stepTo(c, path);
                    add(list, "remove", path, one, NONE);
                    path.shorten(here);
                }
            }
            for (int c = one.first(i), n = 0; c != NONE && n < NODES; c = one.next(i, c), n++) {
                int d = other.valueLike(j, one, c);
                if (d != NONE) {
                    one.stepTo(c, path);
                    between(c, d, open + 1);
                    path.shorten(here);
                }
            }
            for (int d = other.first(j), n = 0; d != NONE && n < NODES; d = other.next(j, d), n++) {
                if (one.valueLike(i, other, d) == NONE) {
                    other.stepTo(d, path);
                    add(list, "add", path, other, d);
                    path.shorten(here);
                }
            }
        }

        private void betweenRows(int i, int j) {
            int n = gather(one, i, ones);
            int m = gather(other, j, others);
            matchAll(n, m);
            countPairs(n, m);
            markPairs(n, m);
            int here = path.length();
            for (int k = n - 1; k >= 0 && k < NODES; k--) {
                if (ones[k] != NONE) {
                    addAtPlace("remove", k, NONE);
                    path.shorten(here);
                }
            }
            for (int k = 0; k < m && k < NODES; k++) {
                if (others[k] != NONE) {
                    addAtPlace("add", k, others[k]);
                    path.shorten(here);
                }
            }
        }

        private void addAtPlace(String op, int place, int value) {
            path.add('/');
            path.addNumber(place);
            add(list, op, path, other, value);
        }

        private static int gather(Tree tree, int row, int[] to) {
            int n = 0;
            for (int c = tree.first(row); c != NONE && n < to.length; c = tree.next(row, c)) {
                to[n] = c;
                n++;
            }
            return n;
        }

        private void matchAll(int n, int m) {
            for (int i = 0; i < n && i < NODES; i++) {
                for (int j = 0; j < m && j < NODES; j++) {
                    equals[i * NODES + j] = one.same(ones[i], other, others[j], 0);
                }
            }
        }

        private int pairsFrom(int i, int j) {
            return i >= 0 && i < NODES && j >= 0 && j < NODES ? pairs[i * NODES + j] : 0;
        }

        /** Counts, from each two places on, how many pairs can be COMMON. */
        private void countPairs(int n, int m) {
            for (int i = Math.min(n, NODES - 1); i >= 0; i--) {
                for (int j = Math.min(m, NODES - 1); j >= 0; j--) {
                    int most = Math.max(pairsFrom(i + 1, j), pairsFrom(i, j + 1));
                    if (i == n || j == m) {
                        most = 0;
                    } else if (equals[i * NODES + j]) {
                        most = pairsFrom(i + 1, j + 1) + 1;
                    }
                    pairs[i * NODES + j] = most;
                }
            }
        }

        /** Puts NONE for those of both ROWS that are COMMON. */
        private void markPairs(int n, int m) {
            int i = 0;
            int j = 0;
            for (int k = 0; k < 2 * NODES && i < n && j < m && i < NODES && j < NODES; k++) {
                if (equals[i * NODES + j]) {
                    ones[i] = NONE;
                    others[j] = NONE;
                    i++;
                    j++;
                } else if (pairsFrom(i + 1, j) == pairsFrom(i, j)) {
                    i++;
                } else {
                    j++;
                }
            }
        }

        /** Adds an ORDER, with a VALUE, if there is one, behind all of a tree. */
        static void add(Tree to, String op, Sheet path, Tree source, int value) {
            int order = to.add(MAP);
            int word = to.add(TEXT);
            to.setKeyWord(word, "op");
            for (int i = 0; i < op.length(); i++) {
                to.addSign(word, op.charAt(i));
            }
            int way = to.add(TEXT);
            to.setKeyWord(way, "path");
            for (int i = 0; i < path.length(); i++) {
                to.addSign(way, path.at(i));
            }
            if (value != NONE) {
                to.setKeyWord(to.append(source, value), "value");
            }
            to.close(order);
        }
    }

    /** Changes a DOCUMENT by PLAIN PATHS and ORDERS, and tells the way back, if it is wanted. */
    private static final class Editor {
        private final Tree work = new Tree();
        private final Tree held = new Tree();
        private final Tree order = new Tree();
        private final Tree back = new Tree();
        private final Route route = new Route();
        private final Sheet word = new Sheet(PAGE_SIGNS);
        private final Sheet path = new Sheet(PAGE_SIGNS);
        private boolean turning;
        // Where a VALUE is PUT: into which NODE, at which place, ahead of which NODE or in its place.
        private int owner;
        private int place;
        private int at;
        private boolean inPlace;

        Tree result() {
            return work;
        }

        Tree wayBack() {
            return back;
        }

        void begin(Tree tree, boolean turned) {
            work.copyOf(tree, 0);
            turning = turned;
            back.clear();
            back.add(ROW);
        }

        /** Whether what is PUT can be, and leaves a DOCUMENT. */
        boolean putIn(Route by, Tree source, int from) {
            owner = by.leadsTo(work, by.steps() - 1);
            if (!aim(by)) {
                return false;
            }
            if (turning && inPlace) {
                by.textTo(path);
                record("replace", work, at);
            } else if (turning) {
                aimedPathTo(by);
                record("remove", work, NONE);
            }
            if (inPlace) {
                work.replace(at, source, from);
                return work.isDocument();
            }
            work.insert(owner, at, source, from);
            work.clearKey(at);
            if (work.is(owner, MAP)) {
                work.setKey(at, word);
            }
            return work.isDocument();
        }

        private void aimedPathTo(Route by) {
            if (work.is(owner, ROW)) {
                by.textWithPlace(place, path);
            } else {
                by.textTo(path);
            }
        }

        /** Whether there is a place for what would be PUT. */
        private boolean aim(Route by) {
            at = 0;
            inPlace = by.steps() == 0;
            if (inPlace) {
                return true;
            }
            by.wordTo(by.steps() - 1, word);
            if (work.is(owner, MAP)) {
                at = work.valueOf(owner, word);
                inPlace = at != NONE;
                at = inPlace ? at : work.after(owner);
                return word.length() <= KEY_SIGNS;
            }
            if (!work.is(owner, ROW)) {
                return false;
            }
            int values = work.values(owner);
            place = word.says("-") ? values : Route.placeIn(word, 0);
            at = place < values ? work.valueAt(owner, place) : work.after(owner);
            return place >= 0 && place <= values;
        }

        boolean cutOut(Route by) {
            int node = by.leadsTo(work, by.steps());
            if (node == NONE || by.steps() == 0) {
                return false;
            }
            if (turning) {
                by.textTo(path);
                record("add", work, node);
            }
            work.remove(node);
            return true;
        }

        /** Tells an ORDER of the way back, ahead of those that were told. */
        private void record(String op, Tree source, int value) {
            order.clear();
            Orders.add(order, op, path, source, value);
            back.insert(0, 1, order, 0);
        }

        /** Lays all ORDERS; the number of the first one that cannot be done, or NONE. */
        int layAll(Tree list) {
            for (int c = list.first(0), n = 0; c != NONE && n < NODES; c = list.next(0, c), n++) {
                if (!layOne(list, c) || !work.isDocument()) {
                    return n;
                }
            }
            return NONE;
        }

        private boolean layOne(Tree list, int map) {
            int op = list.valueNamed(map, "op");
            int way = list.valueNamed(map, "path");
            int from = list.valueNamed(map, "from");
            int value = list.valueNamed(map, "value");
            if (!list.is(op, TEXT) || !route.loadText(list, way)) {
                return false;
            }
            if (list.says(op, "remove")) {
                return cutOut(route);
            }
            if (list.says(op, "move")) {
                return holdAt(list, from) && cutOut(route) && route.loadText(list, way) && putIn(route, held, 0);
            }
            if (list.says(op, "copy")) {
                return holdAt(list, from) && route.loadText(list, way) && putIn(route, held, 0);
            }
            if (value == NONE) {
                return false;
            }
            if (list.says(op, "add")) {
                return putIn(route, list, value);
            }
            if (list.says(op, "replace")) {
                return exchange(list, value);
            }
            return list.says(op, "test") && isThere(list, value);
        }

        /** Holds a copy of what is at the PLAIN PATH that a TEXT is. */
        private boolean holdAt(Tree list, int text) {
            if (!route.loadText(list, text)) {
                return false;
            }
            int node = route.leadsTo(work, route.steps());
            held.copyOf(work, node);
            return node != NONE;
        }

        private boolean exchange(Tree list, int value) {
            int node = route.leadsTo(work, route.steps());
            if (node == NONE) {
                return false;
            }
            if (turning) {
                route.textTo(path);
                record("replace", work, node);
            }
            work.replace(node, list, value);
            return true;
        }

        private boolean isThere(Tree list, int value) {
            int node = route.leadsTo(work, route.steps());
            if (node == NONE || !work.same(node, list, value, 0)) {
                return false;
            }
            if (turning) {
                route.textTo(path);
                record("test", list, value);
            }
            return true;
        }
    }

    /** Joins two VALUES over a common one, and keeps the QUARRELS. */
    private static final class Joiner {
        private final Tree made = new Tree();
        private final Sheet path = new Sheet(PAGE_SIGNS);
        private final Sheet paths = new Sheet(QUARREL_SIGNS);
        private final int[] ends = new int[QUARRELS];
        private Tree common = made;
        private Tree one = made;
        private Tree other = made;
        private int count;
        // The QUARRELS of an earlier join are kept until this one is known not to throw.
        private boolean quarrelled;

        Tree result() {
            return made;
        }

        int count() {
            return count;
        }

        void forget() {
            count = 0;
            paths.clear();
        }

        private int endOf(int k) {
            return k >= 0 && k < count && k < ends.length ? ends[k] : 0;
        }

        void pathTo(int k, Sheet to) {
            to.addPart(paths, endOf(k - 1), endOf(k));
        }

        /** Whether there is no QUARREL. */
        boolean unite(Tree o, Tree a, Tree b) {
            common = o;
            one = a;
            other = b;
            quarrelled = false;
            made.clear();
            path.clear();
            uniteAt(0, 0, 0, 0);
            return !quarrelled;
        }

        private static boolean alike(Tree a, int i, Tree b, int j) {
            return i == NONE || j == NONE ? i == j : a.same(i, b, j, 0);
        }

        private void uniteAt(int o, int a, int b, int open) {
            if (alike(one, a, other, b) || alike(other, b, common, o)) {
                accept(one, a);
            } else if (alike(one, a, common, o)) {
                accept(other, b);
            } else if (one.is(a, MAP) && other.is(b, MAP) && (o == NONE || common.is(o, MAP)) && open <= DEPTH) {
                uniteMaps(o, a, b, open);
            } else {
                dispute();
            }
        }

        private void accept(Tree tree, int node) {
            if (node != NONE) {
                made.append(tree, node);
            }
        }

        private void uniteMaps(int o, int a, int b, int open) {
            int map = made.add(MAP);
            made.setKeyLike(map, one, a);
            int here = path.length();
            for (int c = common.first(o), n = 0; c != NONE && n < NODES; c = common.next(o, c), n++) {
                common.stepTo(c, path);
                uniteAt(c, one.valueLike(a, common, c), other.valueLike(b, common, c), open + 1);
                path.shorten(here);
            }
            for (int c = one.first(a), n = 0; c != NONE && n < NODES; c = one.next(a, c), n++) {
                if (common.valueLike(o, one, c) == NONE) {
                    one.stepTo(c, path);
                    uniteAt(NONE, c, other.valueLike(b, one, c), open + 1);
                    path.shorten(here);
                }
            }
            for (int c = other.first(b), n = 0; c != NONE && n < NODES; c = other.next(b, c), n++) {
                if (common.valueLike(o, other, c) == NONE && one.valueLike(a, other, c) == NONE) {
                    accept(other, c);
                }
            }
            made.close(map);
        }

        private void dispute() {
            if (!quarrelled) {
                forget();
            }
            quarrelled = true;
            if (count >= 0 && count < ends.length) {
                paths.addPart(path, 0, path.length());
                ends[count] = paths.length();
                count++;
            }
        }
    }

    /** Asks SCHEMAS about VALUES. */
    private static final class Checker {
        private static final int NO_TARGET = -2;

        private final Tree scale = new Tree();
        private final Sheet word = new Sheet(TEXT_SIGNS);
        private final Sheet figures = new Sheet(FIGURES);
        private final int[] openTargets = new int[REFS];
        private final int[] openNodes = new int[REFS];
        private final int[] freshNodes = new int[COMPLAINTS];
        private final int[] freshWords = new int[COMPLAINTS];
        private final int[] nodes = new int[COMPLAINTS];
        private final int[] words = new int[COMPLAINTS];
        private Tree schema = scale;
        private Tree tree = scale;
        private int count;
        private int fresh;
        private int refs;
        private int asked;
        private int mostAsked;
        private boolean tooMuch;

        int count() {
            return count;
        }

        int nodeAt(int k) {
            return k >= 0 && k < COMPLAINTS ? nodes[k] : NONE;
        }

        int wordAt(int k) {
            return k >= 0 && k < COMPLAINTS ? words[k] : NONE;
        }

        /** Whether a SCHEMA says yes, however often it asks. */
        boolean agrees(Tree asker, Tree asked) {
            begin(asker, asked, NO_BOUND);
            return ask(0, 0, true, 0) && !tooMuch;
        }

        /** Gathers the COMPLAINTS; whether that is within the bounds. */
        boolean examine(Tree asker, Tree asked) {
            begin(asker, asked, ASKS);
            ask(0, 0, false, 0);
            for (int i = 0; i < fresh && i < COMPLAINTS && !tooMuch; i++) {
                nodes[i] = freshNodes[i];
                words[i] = freshWords[i];
                count = i + 1;
            }
            if (fresh == 0 && !tooMuch) {
                count = 0;
            }
            return !tooMuch;
        }

        private void begin(Tree asker, Tree about, int most) {
            schema = asker;
            tree = about;
            mostAsked = most;
            asked = 0;
            refs = 0;
            fresh = 0;
            tooMuch = false;
        }

        private void complain(int node, int by, boolean muted) {
            if (muted) {
                return;
            }
            if (fresh < 0 || fresh >= COMPLAINTS) {
                tooMuch = true;
                return;
            }
            freshNodes[fresh] = node;
            freshWords[fresh] = by;
            fresh++;
        }

        private static String wordOf(int by) {
            switch (by) {
                case 1:
                    return "kind";
                case 2:
                    return "least";
                case 3:
                    return "most";
                case 4:
                    return "shortest";
                case 5:
                    return "longest";
                case 6:
                    return "needs";
                case 7:
                    return "keys";
                case 8:
                    return "others";
                case 9:
                    return "items";
                case 10:
                    return "only";
                case 11:
                    return "all";
                case 12:
                    return "some";
                case 13:
                    return "one";
                case 14:
                    return "not";
                default:
                    return "ref";
            }
        }

        private static String kindOf(int kind) {
            switch (kind) {
                case NOTHING:
                    return "nothing";
                case TRUTH:
                    return "truth";
                case NUMBER:
                    return "number";
                case TEXT:
                    return "text";
                case ROW:
                    return "row";
                default:
                    return "map";
            }
        }

        /**
         * Whether the SCHEMA at a NODE says yes to the VALUE at another one. This calls itself with no
         * function between, since up to 150 of its calls may be open.
         */
        private boolean ask(int by, int node, boolean muted, int open) {
            asked++;
            tooMuch = tooMuch || asked > mostAsked || open > OPEN_ASKS;
            if (tooMuch) {
                return false;
            }
            if (!schema.is(by, MAP)) {
                boolean says = schema.isTrue(by);
                if (!says) {
                    complain(node, 0, muted);
                }
                return says;
            }
            boolean yes = true;
            for (int number = 1; number <= 15; number++) {
                int said = schema.valueNamed(by, wordOf(number));
                if (said != NONE && (number <= 6 || number == 10)) {
                    yes = plainly(number, said, node, muted) && yes;
                } else if (said != NONE) {
                    int asks = 0;
                    int agreed = 0;
                    int q = firstQuestion(number, said, node);
                    for (int n = 0; n < NODES && q >= 0 && !tooMuch; n++) {
                        int sub = schemaOf(number, by, said, q);
                        boolean quiet = muted || number >= 12 && number <= 14;
                        if (sub != NONE) {
                            asks++;
                            openRef(number, sub, node);
                            agreed += ask(sub, number < 10 ? q : node, quiet, open + 1) ? 1 : 0;
                            closeRef(number);
                        }
                        q = nextQuestion(number, said, node, q);
                    }
                    yes = holds(number, asks, agreed, q) && yes;
                    if (!holdsItself(number, asks, agreed, q)) {
                        complain(node, number, muted);
                    }
                }
            }
            return yes;
        }

        /** Of what is asked first: a VALUE of the NODE, or a SCHEMA; NO_TARGET, if a ref says no. */
        private int firstQuestion(int number, int said, int node) {
            switch (number) {
                case 7:
                case 8:
                    return tree.firstOfMap(node);
                case 9:
                    return tree.is(node, ROW) ? tree.first(node) : NONE;
                case 14:
                    return said;
                case 15:
                    return target(said, node);
                default:
                    return schema.first(said);
            }
        }

        private int nextQuestion(int number, int said, int node, int q) {
            if (number < 10) {
                return tree.next(node, q);
            }
            return number < 14 ? schema.next(said, q) : NONE;
        }

        private int schemaOf(int number, int by, int said, int q) {
            switch (number) {
                case 7:
                    return schema.valueLike(said, tree, q);
                case 8:
                    return schema.valueLike(schema.valueNamed(by, "keys"), tree, q) == NONE ? said : NONE;
                case 9:
                    return said;
                default:
                    return q;
            }
        }

        private static boolean holds(int number, int asks, int agreed, int q) {
            switch (number) {
                case 12:
                    return agreed > 0;
                case 13:
                    return agreed == 1;
                case 14:
                    return agreed == 0;
                default:
                    return agreed == asks && q != NO_TARGET;
            }
        }

        /** Whether the WORD has no COMPLAINT itself. */
        private static boolean holdsItself(int number, int asks, int agreed, int q) {
            if (number < 12) {
                return true;
            }
            return number == 15 ? q != NO_TARGET : holds(number, asks, agreed, q);
        }

        // ---- "ref"

        /** The SCHEMA that a ref asks; NONE, if it says yes by itself; NO_TARGET, if it says no. */
        private int target(int said, int node) {
            word.clear();
            schema.signsTo(said, word);
            int target = schema.valueOf(schema.valueNamed(0, "names"), word);
            if (target == NONE) {
                return NO_TARGET;
            }
            for (int i = 0; i < refs && i < REFS; i++) {
                if (openTargets[i] == target && openNodes[i] == node) {
                    return NONE;
                }
            }
            return refs >= REFS ? NO_TARGET : target;
        }

        private void openRef(int number, int target, int node) {
            if (number == 15 && refs >= 0 && refs < REFS) {
                openTargets[refs] = target;
                openNodes[refs] = node;
                refs++;
            }
        }

        private void closeRef(int number) {
            if (number == 15 && refs > 0) {
                refs--;
            }
        }

        // ---- WORDS that ask nothing

        private boolean plainly(int number, int said, int node, boolean muted) {
            if (number == 6) {
                return hasAll(said, node, muted);
            }
            boolean yes = true;
            switch (number) {
                case 1:
                    yes = isOfKinds(said, node);
                    break;
                case 2:
                    yes = !tree.is(node, NUMBER) || tree.orderOfNumbers(node, schema, said) >= 0;
                    break;
                case 3:
                    yes = !tree.is(node, NUMBER) || tree.orderOfNumbers(node, schema, said) <= 0;
                    break;
                case 4:
                    yes = tree.length(node) == NONE || orderOfLength(node, said) >= 0;
                    break;
                case 5:
                    yes = tree.length(node) == NONE || orderOfLength(node, said) <= 0;
                    break;
                default:
                    yes = isOneOf(said, node);
                    break;
            }
            if (!yes) {
                complain(node, number, muted);
            }
            return yes;
        }

        private boolean hasAll(int texts, int node, boolean muted) {
            boolean all = true;
            for (int c = schema.first(texts), n = 0; c != NONE && n < NODES; c = schema.next(texts, c), n++) {
                word.clear();
                schema.signsTo(c, word);
                if (tree.is(node, MAP) && tree.valueOf(node, word) == NONE) {
                    all = false;
                    complain(node, 6, muted);
                }
            }
            return all;
        }

        private boolean isOfKinds(int said, int node) {
            boolean some = isOfKind(said, node);
            for (int c = schema.first(said), n = 0; c != NONE && n < NODES; c = schema.next(said, c), n++) {
                some = some || isOfKind(c, node);
            }
            return some;
        }

        private boolean isOfKind(int said, int node) {
            if (schema.says(said, "whole")) {
                return tree.is(node, NUMBER) && tree.power(node) >= 0;
            }
            return schema.says(said, kindOf(tree.kind(node)));
        }

        private int orderOfLength(int node, int said) {
            figures.clear();
            figures.addNumber(tree.length(node));
            scale.clear();
            scale.setNumber(scale.add(NUMBER), false, figures, 0);
            return scale.orderOfNumbers(0, schema, said);
        }

        private boolean isOneOf(int said, int node) {
            boolean some = false;
            for (int c = schema.first(said), n = 0; c != NONE && n < NODES; c = schema.next(said, c), n++) {
                some = some || schema.same(c, tree, node, 0);
            }
            return some;
        }
    }

    /** Lets VALUES grow by DRAWS. */
    private static final class Grower {
        private final Tree made = new Tree();
        private final Tree spare = new Tree();
        private final Sheet figures = new Sheet(FIGURES);
        private final Sheet key = new Sheet(KEY_SIGNS);
        private int x;

        Tree result() {
            return made;
        }

        void begin(int seed) {
            x = seed;
            made.clear();
        }

        int draw(int n) {
            x = (25173 * x + 13849) % SEEDS;
            return n > 0 ? x / 16 % n : 0;
        }

        private int sprout(int level, int size) {
            int t = draw(level == 0 || level >= 3 ? 4 : 8) + (level == 0 ? 4 : 0);
            switch (t) {
                case 0:
                    return made.add(NOTHING);
                case 1:
                    return made.addTruth(draw(2) == 1);
                case 2:
                    return number();
                case 3:
                    return text();
                default:
                    return group(t < 6 ? ROW : MAP, level, size);
            }
        }

        private int number() {
            int node = made.add(NUMBER);
            figures.clear();
            figures.addNumber(draw(1000));
            made.setNumber(node, false, figures, draw(5) - 2);
            return node;
        }

        private int text() {
            int node = made.add(TEXT);
            int n = draw(4);
            for (int i = 0; i < n; i++) {
                made.addSign(node, 97 + draw(3));
            }
            return node;
        }

        private int group(int kind, int level, int size) {
            int node = made.add(kind);
            int n = draw(size + 1);
            for (int i = 0; i < n && level < 3; i++) {
                if (kind == ROW) {
                    sprout(level + 1, size);
                } else {
                    entry(node, level, size);
                }
            }
            made.close(node);
            return node;
        }

        /** A KEY and a VALUE, behind all others, or in the place of the one of that KEY. */
        private void entry(int map, int level, int size) {
            key.clear();
            key.add(97 + draw(5));
            made.close(map);
            int old = made.valueOf(map, key);
            int sign = key.at(0);
            int fresh = sprout(level + 1, size);
            if (old == NONE) {
                made.addKeySign(fresh, sign);
            } else {
                made.replaceByLast(old, fresh, spare);
            }
        }
    }
}
