/**
 * A run of calls on a new object, with what tests of boundaries need to type texts and to look at
 * answers. The document promises answers for 512 calls, so a run that makes more fails.
 */
final class Run {
    private static final int CALLS = 512;

    private final Treeletter t = new Treeletter();
    private int calls;

    /** The object, for one call. */
    Treeletter t() {
        calls++;
        if (calls > CALLS) {
            throw new AssertionError("the run makes more than 512 calls");
        }
        return t;
    }

    int calls() {
        return calls;
    }

    static long letters(String s) {
        long l = 0;
        for (char c : s.toCharArray()) {
            l = l << 8 | c;
        }
        return l;
    }

    Run type(String text) {
        for (int p = 0; p < text.length(); p += 8) {
            String part = text.substring(p, Math.min(text.length(), p + 8));
            t().write(part.length(), letters(part));
        }
        return this;
    }

    /** Empties THE PAGE and types a text on it. */
    Run page(String text) {
        t().wipe();
        return type(text);
    }

    int read(String text) {
        return page(text).t().read();
    }

    /** Reads a ROW with as many 1s. */
    int readOnes(int n) {
        return read("[" + Boundaries.list("1", n) + "]");
    }

    /** What comes by reading a text: its LEAST writing, or the place of its FAULT. */
    String came(String text) {
        int before = t().sum(0);
        int n = type(text).t().read();
        if (t().sum(1) != 0 || t().sum(0) != before + (n < 0 ? 0 : 1)) {
            return "THE PAGE has " + t().sum(1) + " signs, there are " + t().sum(0) + " DOCUMENTS";
        }
        return n < 0 ? "fault " + (-2 - n) : least(n);
    }

    String paper() {
        StringBuilder b = new StringBuilder();
        int length = t().sum(2);
        for (int p = 0; p < length; p += 7) {
            int n = Math.min(7, length - p);
            long letters = t().paper(p, n);
            for (int i = n - 1; i >= 0; i--) {
                b.append((char) (letters >>> 8 * i & 255));
            }
        }
        return b.toString();
    }

    private String told(int length) {
        String text = paper();
        return length == text.length() ? text : "length " + length + " of " + text;
    }

    String print(int doc, int way) {
        return told(t().print(doc, way));
    }

    String least(int doc) {
        return print(doc, 0);
    }

    String tell(int doc, int node, int what) {
        return told(t().tell(doc, node, what));
    }

    String quarrel(int k) {
        return told(t().quarrel(k));
    }

    /** All ten answers about a NODE. */
    String node(int doc, int node) {
        StringBuilder b = new StringBuilder();
        for (int what = 0; what < 10; what++) {
            b.append(what > 0 ? " " : "").append(t().node(doc, node, what));
        }
        return b.toString();
    }

    /** FINDS by a PATH. */
    String finds(int doc, String path) {
        int n = page(path).t().select(doc);
        StringBuilder b = new StringBuilder();
        for (int k = 0; k < n; k++) {
            b.append(k > 0 ? " " : "").append(t().find(k));
        }
        return b.toString();
    }

    /** COMPLAINTS as NODE and WORD; of many the first ones and the last one. */
    String complaints() {
        int n = t().sum(5);
        StringBuilder b = new StringBuilder();
        for (int k = 0; k < n; k = k < 12 ? k + 1 : n) {
            b.append(k > 0 ? " " : "").append(t().complaint(k, 0)).append(':').append(t().complaint(k, 1));
        }
        return n <= 12 ? b.toString() : b + " .. " + t().complaint(n - 1, 0) + ":" + t().complaint(n - 1, 1);
    }

    /** What a SCHEMA of a text says of a VALUE of a text: its COMPLAINTS. */
    String check(String schema, String value) {
        int s = read(schema);
        int n = t().check(s, read(value));
        return n == t().sum(5) ? complaints() : "counted " + n;
    }

    /** Lets copies of the first DOCUMENT come until there are so many. */
    Run fill(int documents) {
        for (int n = t().sum(0); n < documents; n++) {
            t().take(0, 0);
        }
        return this;
    }

    /** PUTS a VALUE at a PATH; its number. */
    int put(int doc, int value, String path) {
        return page(path).t().put(doc, value);
    }

    // ---- all that can be asked

    /** All that can be asked, with THE PAGE at last, which goes by that. */
    String probe() {
        StringBuilder b = new StringBuilder("sums");
        for (int what = 0; what <= 6; what++) {
            b.append(' ').append(t().sum(what));
        }
        b.append("; quarrels ").append(t().quarrels()).append("; paper ");
        b.append(t().sum(2) <= 400 ? paper() : "" + t().paper(0, 7) + t().paper(t().sum(2) - 7, 7));
        b.append("; finds");
        int finds = t().sum(4);
        for (int k = 0; k < finds; k = k < 8 ? k + 1 : Math.max(k + 1, finds - 1)) {
            b.append(' ').append(t().find(k));
        }
        b.append("; complaints ").append(complaints());
        probeDocuments(b);
        for (int k = 0, n = t().quarrels(); k < n; k = k < 4 ? k + 1 : Math.max(k + 1, n - 1)) {
            b.append("; quarrel ").append(quarrel(k));
        }
        probePage(b);
        probeLater(b);
        return b.toString();
    }

    private void probeDocuments(StringBuilder b) {
        int documents = t().sum(0);
        for (int doc = 0; doc < documents; doc++) {
            int length = t().print(doc, 0);
            b.append("; doc ").append(length).append(' ');
            if (length <= 42) {
                b.append(paper());
            } else {
                b.append(t().paper(0, 7)).append(t().paper(length - 7, 7));
                b.append(' ').append(t().digest(doc, 0)).append(' ').append(t().node(doc, 0, 2));
            }
        }
    }

    private void probePage(StringBuilder b) {
        if (t().sum(0) >= 40) {
            t().undo();
        }
        b.append("; put ").append(answer(r -> r.least(r.t().put(0, 0))));
        b.append("; select ").append(answer(r -> r.t().select(0)));
        b.append("; read ").append(answer(r -> r.least(r.t().read())));
        b.append("; wipe ").append(t().wipe());
    }

    /** What later calls answer that need much of what an object may keep. */
    private void probeLater(StringBuilder b) {
        if (t().sum(0) >= 39) {
            t().undo();
            t().undo();
        }
        b.append("; check ").append(answer(r -> r.t().check(r.t().standard(), 0) + " " + r.complaints()));
        b.append("; join ").append(answer(r -> r.t().join(0, 0, r.t().sum(0) - 1) + " " + r.t().quarrels()));
        b.append("; grow ").append(answer(r -> r.t().grow(65133, 3)));
    }

    /** The answer of a call, or the name of the exception that it throws. */
    Object answer(Boundaries.Call call) {
        try {
            return call.on(this);
        } catch (RuntimeException | AssertionError e) {
            return e.getClass().getSimpleName() + (e instanceof AssertionError ? ": " + e.getMessage() : "");
        }
    }
}
