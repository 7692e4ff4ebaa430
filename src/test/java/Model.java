import java.math.BigDecimal;
import java.math.BigInteger;
import java.util.ArrayList;
import java.util.HashSet;
import java.util.LinkedHashMap;
import java.util.LinkedHashSet;
import java.util.List;
import java.util.Map;
import java.util.Set;
import java.util.TreeMap;

/**
 * What the document asks, told a second time over the library's own maps, rows and great numbers, in
 * the plainest form: RandomRuns holds Treeletter against it.
 */
final class Model {
    /** NOTHING: a null of its own, so that a null from a map always means that there is no such KEY. */
    static final Object NIL = new Object();

    /** A text is no VALUE: the place of its FAULT. */
    static final class Fault extends RuntimeException {
        private static final long serialVersionUID = 1L;
        final int place;

        Fault(int place) {
            super(null, null, false, false);
            this.place = place;
        }
    }

    /** What is asked cannot be done. */
    static final class Refused extends RuntimeException {
        private static final long serialVersionUID = 1L;

        Refused() {
            super(null, null, false, false);
        }
    }

    /** A NODE with what it is in. */
    static final class Spot {
        Object value;
        int owner;
        int place;
        String key;
        String path;
    }

    final List<Object> docs = new ArrayList<>();
    final StringBuilder page = new StringBuilder();
    String paper = "";
    int rule;
    List<Integer> finds = new ArrayList<>();
    List<String> quarrels = new ArrayList<>();
    List<int[]> complaints = new ArrayList<>();

    // ---- VALUES

    static boolean isRow(Object v) {
        return v instanceof List;
    }

    static boolean isMap(Object v) {
        return v instanceof Map;
    }

    @SuppressWarnings("unchecked")
    static List<Object> row(Object v) {
        return (List<Object>) v;
    }

    @SuppressWarnings("unchecked")
    static Map<String, Object> map(Object v) {
        return (Map<String, Object>) v;
    }

    static int kind(Object v) {
        return v == NIL ? 0 : v instanceof Boolean ? 1 : v instanceof BigDecimal ? 2 : v instanceof String ? 3
                : isRow(v) ? 4 : 5;
    }

    static BigDecimal plain(BigDecimal n) {
        return n.signum() == 0 ? BigDecimal.ZERO : n.stripTrailingZeros();
    }

    static int power(BigDecimal n) {
        return -plain(n).scale();
    }

    static BigInteger digits(BigDecimal n) {
        return plain(n).unscaledValue();
    }

    static List<Object> values(Object v) {
        return isRow(v) ? row(v) : isMap(v) ? new ArrayList<>(map(v).values()) : new ArrayList<>();
    }

    static int depth(Object v) {
        int d = 0;
        for (Object c : values(v)) {
            d = Math.max(d, depth(c));
        }
        return isRow(v) || isMap(v) ? d + 1 : 0;
    }

    static int size(Object v) {
        int n = 1;
        for (Object c : values(v)) {
            n += size(c);
        }
        return n;
    }

    static boolean isDocument(Object v) {
        return size(v) <= 100 && depth(v) <= 12;
    }

    static boolean same(Object a, Object b) {
        if (kind(a) != kind(b)) {
            return false;
        }
        if (a instanceof BigDecimal) {
            return ((BigDecimal) a).compareTo((BigDecimal) b) == 0;
        }
        if (isRow(a)) {
            boolean same = row(a).size() == row(b).size();
            for (int i = 0; same && i < row(a).size(); i++) {
                same = same(row(a).get(i), row(b).get(i));
            }
            return same;
        }
        if (isMap(a)) {
            boolean same = map(a).keySet().equals(map(b).keySet());
            for (String k : map(a).keySet()) {
                same = same && same(map(a).get(k), map(b).get(k));
            }
            return same;
        }
        return a.equals(b);
    }

    static List<Spot> spots(Object v) {
        List<Spot> all = new ArrayList<>();
        addSpots(v, -1, -1, null, "", all);
        return all;
    }

    private static void addSpots(Object v, int owner, int place, String key, String path, List<Spot> all) {
        Spot s = new Spot();
        s.value = v;
        s.owner = owner;
        s.place = place;
        s.key = key;
        s.path = path;
        int me = all.size();
        all.add(s);
        int n = 0;
        if (isRow(v)) {
            for (Object c : row(v)) {
                addSpots(c, me, n, null, path + "/" + n, all);
                n++;
            }
        } else if (isMap(v)) {
            for (Map.Entry<String, Object> e : map(v).entrySet()) {
                addSpots(e.getValue(), me, n, e.getKey(), path + "/" + escaped(e.getKey()), all);
                n++;
            }
        }
    }

    static String escaped(String key) {
        return key.replace("~", "~0").replace("/", "~1");
    }

    // ---- reading

    static final class Parser {
        final String s;
        final int rule;
        int p;
        int begun;

        Parser(String s, int rule) {
            this.s = s;
            this.rule = rule;
        }

        Object all() {
            Object v = value(0);
            blanks();
            if (p < s.length()) {
                throw new Fault(p);
            }
            return v;
        }

        void blanks() {
            while (p < s.length() && (s.charAt(p) == ' ' || s.charAt(p) == '\n')) {
                p++;
            }
        }

        char next() {
            if (p >= s.length()) {
                throw new Fault(s.length());
            }
            return s.charAt(p);
        }

        void want(String word) {
            for (char c : word.toCharArray()) {
                if (next() != c) {
                    throw new Fault(p);
                }
                p++;
            }
        }

        Object value(int open) {
            blanks();
            char c = next();
            if (begun == 100) {
                throw new Fault(p);
            }
            begun++;
            switch (c) {
                case 'n':
                    want("null");
                    return NIL;
                case 't':
                    want("true");
                    return true;
                case 'f':
                    want("false");
                    return false;
                case '"':
                    return text(40);
                case '[':
                case '{':
                    if (open == 12) {
                        throw new Fault(p);
                    }
                    p++;
                    return c == '[' ? list(open + 1) : entries(open + 1);
                default:
                    return number();
            }
        }

        Object list(int open) {
            List<Object> l = new ArrayList<>();
            blanks();
            if (next() == ']') {
                p++;
                return l;
            }
            while (true) {
                l.add(value(open));
                blanks();
                if (next() == ']') {
                    p++;
                    return l;
                }
                want(",");
            }
        }

        Object entries(int open) {
            Map<String, Object> m = new LinkedHashMap<>();
            blanks();
            if (next() == '}') {
                p++;
                return m;
            }
            while (true) {
                blanks();
                if (next() != '"') {
                    throw new Fault(p);
                }
                String k = text(12);
                if (rule == 0 && m.containsKey(k)) {
                    throw new Fault(p - 1);
                }
                blanks();
                want(":");
                Object v = value(open);
                if (rule == 2 || !m.containsKey(k)) {
                    m.put(k, v);
                }
                blanks();
                if (next() == '}') {
                    p++;
                    return m;
                }
                want(",");
            }
        }

        String text(int most) {
            want("\"");
            StringBuilder b = new StringBuilder();
            while (next() != '"') {
                int from = p;
                if (b.length() == most || next() < 32) {
                    throw new Fault(from);
                }
                char c = s.charAt(p++);
                if (c == '\\') {
                    int at = "\"\\/bfnrtu".indexOf(next());
                    if (at < 0) {
                        throw new Fault(p);
                    }
                    p++;
                    if (at == 8) {
                        want("00");
                        int code = 0;
                        for (int i = 0; i < 2; i++) {
                            int h = Character.digit(next(), 16);
                            if (h < 0) {
                                throw new Fault(p);
                            }
                            code = code * 16 + h;
                            p++;
                        }
                        c = (char) code;
                    } else {
                        c = "\"\\/\b\f\n\r\t".charAt(at);
                    }
                }
                b.append(c);
            }
            p++;
            return b.toString();
        }

        boolean figureHere() {
            return p < s.length() && s.charAt(p) >= '0' && s.charAt(p) <= '9';
        }

        int figures;

        void figure() {
            next();
            if (!figureHere()) {
                throw new Fault(p);
            }
            if (figures == 24) {
                throw new Fault(p);
            }
            figures++;
            p++;
        }

        Object number() {
            int from = p;
            figures = 0;
            if (s.charAt(p) == '-') {
                p++;
            }
            boolean zero = p < s.length() && s.charAt(p) == '0';
            figure();
            while (!zero && figureHere()) {
                figure();
            }
            if (p < s.length() && s.charAt(p) == '.') {
                p++;
                figure();
                while (figureHere()) {
                    figure();
                }
            }
            if (p < s.length() && (s.charAt(p) == 'e' || s.charAt(p) == 'E')) {
                p++;
                if (next() == '+' || next() == '-') {
                    p++;
                }
                next();
                if (!figureHere()) {
                    throw new Fault(p);
                }
                p++;
                if (figureHere()) {
                    p++;
                }
            }
            BigDecimal n = plain(new BigDecimal(s.substring(from, p)));
            if (power(n) > 99 || power(n) < -99) {
                throw new Fault(from);
            }
            return n;
        }
    }

    // ---- writing

    static String least(Object v) {
        return written(v, 0, 0);
    }

    static String written(Object v, int way, int indent) {
        if (v == NIL) {
            return "null";
        }
        if (v instanceof BigDecimal) {
            BigDecimal n = (BigDecimal) v;
            return digits(n) + (power(n) == 0 ? "" : "e" + power(n));
        }
        if (v instanceof String) {
            return quoted((String) v);
        }
        if (v instanceof Boolean) {
            return v.toString();
        }
        List<String> parts = new ArrayList<>();
        if (isRow(v)) {
            for (Object c : row(v)) {
                parts.add(written(c, way, indent + 1));
            }
        } else {
            Map<String, Object> m = way == 1 ? new TreeMap<>(map(v)) : map(v);
            for (Map.Entry<String, Object> e : m.entrySet()) {
                parts.add(quoted(e.getKey()) + (way == 2 ? ": " : ":") + written(e.getValue(), way, indent + 1));
            }
        }
        String ends = isRow(v) ? "[]" : "{}";
        if (parts.isEmpty()) {
            return ends;
        }
        if (way != 2) {
            return ends.charAt(0) + String.join(",", parts) + ends.charAt(1);
        }
        String pad = "\n" + "  ".repeat(indent);
        return ends.charAt(0) + pad + "  " + String.join("," + pad + "  ", parts) + pad + ends.charAt(1);
    }

    static String quoted(String t) {
        StringBuilder b = new StringBuilder("\"");
        for (char c : t.toCharArray()) {
            if (c == '"' || c == '\\') {
                b.append('\\').append(c);
            } else if (c < 32 || c > 126) {
                b.append(String.format("\\u00%02x", (int) c));
            } else {
                b.append(c);
            }
        }
        return b.append('"').toString();
    }

    // ---- PATHS

    /** The WORDS as they are written; null, if it is no PATH. */
    static List<String> words(String path) {
        List<String> words = new ArrayList<>();
        if (path.isEmpty()) {
            return words;
        }
        if (path.charAt(0) != '/' || path.matches("(?s).*~([^01].*|)")) {
            return null;
        }
        for (String w : path.substring(1).split("/", -1)) {
            words.add(w);
        }
        return words;
    }

    static String meant(String word) {
        return word.replace("~1", "/").replace("~0", "~");
    }

    static int place(String word) {
        return word.matches("0|[1-9][0-9]{0,8}") ? Integer.parseInt(word) : -1;
    }

    /** A step of a PLAIN PATH; null, if it leads nowhere. */
    static Object step(Object v, String word) {
        if (isMap(v)) {
            return map(v).get(meant(word));
        }
        int at = place(word);
        return isRow(v) && at >= 0 && at < row(v).size() ? row(v).get(at) : null;
    }

    static Object at(Object v, List<String> words) {
        Object here = v;
        for (String w : words) {
            here = here == null ? null : step(here, w);
        }
        return here;
    }

    static List<Integer> found(Object doc, List<String> words) {
        List<Spot> all = spots(doc);
        List<Integer> now = new ArrayList<>();
        now.add(0);
        for (String w : words) {
            Set<Integer> next = new LinkedHashSet<>();
            for (int n : now) {
                addFound(all, n, w, next);
            }
            now = new ArrayList<>(next);
        }
        return now;
    }

    private static void addFound(List<Spot> all, int n, String w, Set<Integer> next) {
        Object v = all.get(n).value;
        if (w.equals("**")) {
            for (int i = 0; i < size(v); i++) {
                next.add(n + i);
            }
            return;
        }
        int back = w.startsWith("-") ? place(w.substring(1)) : -1;
        for (int i = n + 1; i < n + size(v); i++) {
            Spot s = all.get(i);
            if (s.owner != n) {
                continue;
            }
            boolean found;
            if (w.equals("*")) {
                found = true;
            } else if (w.startsWith("?")) {
                int eq = w.indexOf('=');
                Object c = eq < 0 || !isMap(s.value) ? null : map(s.value).get(meant(w.substring(1, eq)));
                found = c != null && least(c).equals(meant(w.substring(eq + 1)));
            } else if (isMap(v)) {
                found = s.key.equals(meant(w));
            } else {
                found = s.place == place(w) || back > 0 && s.place == row(v).size() - back;
            }
            if (found) {
                next.add(i);
            }
        }
    }

    // ---- changes

    static Object withPut(Object v, List<String> words, Object value) {
        if (words.isEmpty()) {
            return value;
        }
        String w = words.get(0);
        List<String> rest = words.subList(1, words.size());
        if (!rest.isEmpty()) {
            return withStep(v, w, withPut(mustBe(step(v, w)), rest, value));
        }
        if (isMap(v)) {
            if (meant(w).length() > 12) {
                throw new Refused();
            }
            return withStep(v, w, value);
        }
        if (!isRow(v)) {
            throw new Refused();
        }
        int at = w.equals("-") ? row(v).size() : place(w);
        if (at < 0 || at > row(v).size()) {
            throw new Refused();
        }
        List<Object> l = new ArrayList<>(row(v));
        l.add(at, value);
        return l;
    }

    static Object mustBe(Object v) {
        if (v == null) {
            throw new Refused();
        }
        return v;
    }

    /** The VALUE with another one in the place to which a step leads. */
    static Object withStep(Object v, String w, Object value) {
        if (isMap(v)) {
            Map<String, Object> m = new LinkedHashMap<>(map(v));
            m.put(meant(w), value);
            return m;
        }
        List<Object> l = new ArrayList<>(row(v));
        l.set(place(w), value);
        return l;
    }

    static Object withCut(Object v, List<String> words) {
        if (words.isEmpty()) {
            throw new Refused();
        }
        String w = words.get(0);
        Object there = mustBe(step(v, w));
        if (words.size() > 1) {
            return withStep(v, w, withCut(there, words.subList(1, words.size())));
        }
        if (isMap(v)) {
            Map<String, Object> m = new LinkedHashMap<>(map(v));
            m.remove(meant(w));
            return m;
        }
        List<Object> l = new ArrayList<>(row(v));
        l.remove(place(w));
        return l;
    }

    static Object withReplaced(Object v, List<String> words, Object value) {
        if (words.isEmpty()) {
            return value;
        }
        String w = words.get(0);
        return withStep(v, w, withReplaced(mustBe(step(v, w)), words.subList(1, words.size()), value));
    }

    static Object order(String op, String path, Object value) {
        Map<String, Object> m = new LinkedHashMap<>();
        m.put("op", op);
        m.put("path", path);
        if (value != null) {
            m.put("value", value);
        }
        return m;
    }

    /** The PLAIN PATH of what was PUT, and the ORDER that takes it back. */
    static Object backOfPut(Object before, String path) {
        List<String> words = words(path);
        if (words.isEmpty()) {
            return order("replace", path, before);
        }
        Object owner = at(before, words.subList(0, words.size() - 1));
        String last = words.get(words.size() - 1);
        if (isMap(owner)) {
            Object old = map(owner).get(meant(last));
            return old == null ? order("remove", path, null) : order("replace", path, old);
        }
        String sure = last.equals("-") ? "" + row(owner).size() : last;
        return order("remove", path.substring(0, path.length() - last.length()) + sure, null);
    }

    static String textIn(Map<String, Object> m, String key) {
        if (!(m.get(key) instanceof String)) {
            throw new Refused();
        }
        return (String) m.get(key);
    }

    static List<String> pathIn(Map<String, Object> m, String key) {
        List<String> words = words(textIn(m, key));
        if (words == null) {
            throw new Refused();
        }
        return words;
    }

    /** Lays one ORDER; adds what turns it round to a list. */
    static Object laid(Object v, Object o, List<Object> back) {
        if (!isMap(o)) {
            throw new Refused();
        }
        Map<String, Object> m = map(o);
        String op = textIn(m, "op");
        String path = textIn(m, "path");
        List<String> to = pathIn(m, "path");
        switch (op) {
            case "add":
                Object added = withPut(v, to, mustBe(m.get("value")));
                back.add(backOfPut(v, path));
                return added;
            case "remove":
                Object less = withCut(v, to);
                back.add(order("add", path, at(v, to)));
                return less;
            case "replace":
                Object other = withReplaced(v, to, mustBe(m.get("value")));
                back.add(order("replace", path, at(v, to)));
                return other;
            case "move":
                List<String> from = pathIn(m, "from");
                Object cut = withCut(v, from);
                Object moved = withPut(cut, to, at(v, from));
                back.add(backOfPut(cut, path));
                back.add(order("add", textIn(m, "from"), at(v, from)));
                return moved;
            case "copy":
                Object copied = withPut(v, to, mustBe(at(v, pathIn(m, "from"))));
                back.add(backOfPut(v, path));
                return copied;
            case "test":
                if (!same(mustBe(at(v, to)), mustBe(m.get("value")))) {
                    throw new Refused();
                }
                back.add(order("test", path, m.get("value")));
                return v;
            default:
                throw new Refused();
        }
    }

    /** The number of the first ORDER that cannot be done is told by a Fault. */
    static Object laidAll(Object v, List<Object> orders, List<Object> back) {
        Object now = v;
        for (int i = 0; i < orders.size(); i++) {
            try {
                List<Object> one = new ArrayList<>();
                now = laid(now, orders.get(i), one);
                if (!isDocument(now)) {
                    throw new Refused();
                }
                back.addAll(0, one);
            } catch (Refused e) {
                throw new Fault(i);
            }
        }
        return now;
    }

    static void patchTo(Object a, Object b, String path, List<Object> orders) {
        if (same(a, b)) {
            return;
        }
        if (isMap(a) && isMap(b)) {
            for (String k : map(a).keySet()) {
                if (!map(b).containsKey(k)) {
                    orders.add(order("remove", path + "/" + escaped(k), null));
                }
            }
            for (String k : map(a).keySet()) {
                if (map(b).containsKey(k)) {
                    patchTo(map(a).get(k), map(b).get(k), path + "/" + escaped(k), orders);
                }
            }
            for (String k : map(b).keySet()) {
                if (!map(a).containsKey(k)) {
                    orders.add(order("add", path + "/" + escaped(k), map(b).get(k)));
                }
            }
        } else if (isRow(a) && isRow(b)) {
            rowPatch(row(a), row(b), path, orders);
        } else {
            orders.add(order("replace", path, b));
        }
    }

    private static int most(List<Object> a, int i, List<Object> b, int j, int[][] known) {
        if (i == a.size() || j == b.size()) {
            return 0;
        }
        if (known[i][j] == 0) {
            known[i][j] = 1 + (same(a.get(i), b.get(j)) ? 1 + most(a, i + 1, b, j + 1, known)
                    : Math.max(most(a, i + 1, b, j, known), most(a, i, b, j + 1, known)));
        }
        return known[i][j] - 1;
    }

    private static void rowPatch(List<Object> a, List<Object> b, String path, List<Object> orders) {
        int[][] known = new int[a.size() + 1][b.size() + 1];
        List<Integer> gone = new ArrayList<>();
        List<Integer> come = new ArrayList<>();
        int i = 0;
        int j = 0;
        while (i < a.size() && j < b.size()) {
            if (same(a.get(i), b.get(j))) {
                i++;
                j++;
            } else if (most(a, i + 1, b, j, known) == most(a, i, b, j, known)) {
                gone.add(0, i++);
            } else {
                come.add(j++);
            }
        }
        while (i < a.size()) {
            gone.add(0, i++);
        }
        while (j < b.size()) {
            come.add(j++);
        }
        for (int k : gone) {
            orders.add(order("remove", path + "/" + k, null));
        }
        for (int k : come) {
            orders.add(order("add", path + "/" + k, b.get(k)));
        }
    }

    // ---- joining

    private static boolean alike(Object a, Object b) {
        return a == null || b == null ? a == b : same(a, b);
    }

    static Object joined(Object o, Object a, Object b, String path, List<String> quarrels) {
        if (alike(a, b)) {
            return a;
        }
        if (alike(a, o)) {
            return b;
        }
        if (alike(b, o)) {
            return a;
        }
        if (a != null && b != null && isMap(a) && isMap(b) && (o == null || isMap(o))) {
            Set<String> keys = new LinkedHashSet<>();
            if (o != null) {
                keys.addAll(map(o).keySet());
            }
            keys.addAll(map(a).keySet());
            keys.addAll(map(b).keySet());
            Map<String, Object> m = new LinkedHashMap<>();
            for (String k : keys) {
                Object v = joined(o == null ? null : map(o).get(k), map(a).get(k), map(b).get(k),
                        path + "/" + escaped(k), quarrels);
                if (v != null) {
                    m.put(k, v);
                }
            }
            return m;
        }
        quarrels.add(path);
        return null;
    }

    // ---- SCHEMAS

    static final String STANDARD = "{\"names\":{\"s\":{\"some\":[{\"kind\":\"truth\"},{\"kind\":\"map\",\"keys\":{\"kind\":{\"some\":[{\"ref\":\"k\"},{\"kind\":\"row\",\"items\":{\"ref\":\"k\"}}]},\n"
            + "\"least\":{\"kind\":\"number\"},\"most\":{\"kind\":\"number\"},\"shortest\":{\"kind\":\"number\"},\"longest\":{\"kind\":\"number\"},\"needs\":{\"kind\":\"row\",\"items\":{\"kind\":\"text\"}},\n"
            + "\"keys\":{\"ref\":\"m\"},\"others\":{\"ref\":\"s\"},\"items\":{\"ref\":\"s\"},\"only\":{\"kind\":\"row\"},\"all\":{\"ref\":\"r\"},\"some\":{\"ref\":\"r\"},\"one\":{\"ref\":\"r\"},\"not\":{\"ref\":\"s\"},\n"
            + "\"ref\":{\"kind\":\"text\"},\"names\":{\"ref\":\"m\"}}}]},\"k\":{\"only\":[\"nothing\",\"truth\",\"number\",\"text\",\"row\",\"map\",\"whole\"]},\"m\":{\"kind\":\"map\",\"others\":{\"ref\":\"s\"}},\n"
            + "\"r\":{\"kind\":\"row\",\"items\":{\"ref\":\"s\"}}},\"ref\":\"s\"}";

    static Object standard() {
        return new Parser(STANDARD, 0).all();
    }

    static final class Asking {
        final Object schema;
        final List<Spot> spots;
        final List<String> open = new ArrayList<>();
        int asked;

        Asking(Object schema, Object doc) {
            this.schema = schema;
            this.spots = spots(doc);
        }

        static boolean isOf(Object v, Object name) {
            if ("whole".equals(name)) {
                return v instanceof BigDecimal && power((BigDecimal) v) >= 0;
            }
            return new String[] {"nothing", "truth", "number", "text", "row", "map"}[kind(v)].equals(name);
        }

        List<Integer> own(int n) {
            List<Integer> own = new ArrayList<>();
            for (int i = 0; i < spots.size(); i++) {
                if (spots.get(i).owner == n) {
                    own.add(i);
                }
            }
            return own;
        }

        /** The COMPLAINTS of what is asked are dropped where out is a list that nobody reads. */
        boolean ask(Object s, int n, List<int[]> out) {
            asked++;
            if (asked > 200000) {
                throw new IllegalStateException();
            }
            if (s instanceof Boolean) {
                if (!(Boolean) s) {
                    out.add(new int[] {n, 0});
                }
                return (Boolean) s;
            }
            Map<String, Object> m = map(s);
            Object v = spots.get(n).value;
            int before = out.size();
            boolean said = true;
            if (m.containsKey("kind")) {
                Object k = m.get("kind");
                boolean ok = isRow(k) ? row(k).stream().anyMatch(x -> isOf(v, x)) : isOf(v, k);
                say(ok, n, 1, out);
            }
            if (v instanceof BigDecimal) {
                BigDecimal d = (BigDecimal) v;
                say(!m.containsKey("least") || d.compareTo((BigDecimal) m.get("least")) >= 0, n, 2, out);
                say(!m.containsKey("most") || d.compareTo((BigDecimal) m.get("most")) <= 0, n, 3, out);
            }
            if (kind(v) >= 3) {
                BigDecimal l = new BigDecimal(kind(v) == 3 ? ((String) v).length() : values(v).size());
                say(!m.containsKey("shortest") || l.compareTo((BigDecimal) m.get("shortest")) >= 0, n, 4, out);
                say(!m.containsKey("longest") || l.compareTo((BigDecimal) m.get("longest")) <= 0, n, 5, out);
            }
            if (isMap(v) && m.containsKey("needs")) {
                for (Object k : row(m.get("needs"))) {
                    say(map(v).containsKey(k), n, 6, out);
                }
            }
            said = out.size() == before;
            if (isMap(v) && m.containsKey("keys")) {
                for (int c : own(n)) {
                    Object sub = map(m.get("keys")).get(spots.get(c).key);
                    said &= sub == null || ask(sub, c, out);
                }
            }
            if (isMap(v) && m.containsKey("others")) {
                for (int c : own(n)) {
                    boolean known = m.containsKey("keys") && map(m.get("keys")).containsKey(spots.get(c).key);
                    said &= known || ask(m.get("others"), c, out);
                }
            }
            if (isRow(v) && m.containsKey("items")) {
                for (int c : own(n)) {
                    said &= ask(m.get("items"), c, out);
                }
            }
            if (m.containsKey("only")) {
                said &= say(row(m.get("only")).stream().anyMatch(x -> same(x, v)), n, 10, out);
            }
            if (m.containsKey("all")) {
                for (Object sub : row(m.get("all"))) {
                    said &= ask(sub, n, out);
                }
            }
            if (m.containsKey("some")) {
                said &= say(agreeing(row(m.get("some")), n) >= 1, n, 12, out);
            }
            if (m.containsKey("one")) {
                said &= say(agreeing(row(m.get("one")), n) == 1, n, 13, out);
            }
            if (m.containsKey("not")) {
                said &= say(!ask(m.get("not"), n, new ArrayList<>()), n, 14, out);
            }
            if (m.containsKey("ref")) {
                said &= ref((String) m.get("ref"), n, out);
            }
            return said;
        }

        private boolean ref(String key, int n, List<int[]> out) {
            if (open.contains(n + " " + key)) {
                return true;
            }
            Object names = isMap(schema) ? map(schema).get("names") : null;
            Object sub = names == null ? null : map(names).get(key);
            if (sub == null || open.size() == 13) {
                return say(false, n, 15, out);
            }
            open.add(n + " " + key);
            boolean said = ask(sub, n, out);
            open.remove(open.size() - 1);
            return said;
        }

        private int agreeing(List<Object> subs, int n) {
            int agreed = 0;
            for (Object sub : subs) {
                agreed += ask(sub, n, new ArrayList<>()) ? 1 : 0;
            }
            return agreed;
        }

        private static boolean say(boolean ok, int n, int word, List<int[]> out) {
            if (!ok) {
                out.add(new int[] {n, word});
            }
            return ok;
        }
    }

    // ---- growing

    static final class Garden {
        int x;

        Garden(int seed) {
            x = seed;
        }

        int draw(int n) {
            x = (int) ((25173L * x + 13849) % 65536);
            return x / 16 % n;
        }

        Object grow(int level, int size) {
            int t = level == 0 ? 4 + draw(4) : level == 3 ? draw(4) : draw(8);
            if (t == 0) {
                return NIL;
            }
            if (t == 1) {
                return draw(2) == 1;
            }
            if (t == 2) {
                int n = draw(1000);
                return plain(new BigDecimal(BigInteger.valueOf(n), -(draw(5) - 2)));
            }
            if (t == 3) {
                StringBuilder b = new StringBuilder();
                for (int n = draw(4); n > 0; n--) {
                    b.append((char) (97 + draw(3)));
                }
                return b.toString();
            }
            int n = draw(size + 1);
            List<Object> l = new ArrayList<>();
            Map<String, Object> m = new LinkedHashMap<>();
            for (int i = 0; i < n; i++) {
                if (t < 6) {
                    l.add(grow(level + 1, size));
                } else {
                    String k = "" + (char) (97 + draw(5));
                    m.put(k, grow(level + 1, size));
                }
            }
            return t < 6 ? l : m;
        }
    }

    // ---- the face

    private Object doc(int doc) {
        if (doc < 0 || doc >= docs.size()) {
            throw new IndexOutOfBoundsException();
        }
        return docs.get(doc);
    }

    private Spot spot(int doc, int node) {
        List<Spot> all = spots(doc(doc));
        if (node < 0 || node >= all.size()) {
            throw new IndexOutOfBoundsException();
        }
        return all.get(node);
    }

    private static void range(int n, int least, int most) {
        if (n < least || n > most) {
            throw new IllegalArgumentException();
        }
    }

    private int come(Object v) {
        if (docs.size() >= 40 || !isDocument(v)) {
            throw new IllegalStateException();
        }
        docs.add(v);
        return docs.size() - 1;
    }

    int write(int n, long letters) {
        range(n, 1, 8);
        String s = "";
        long rest = letters;
        for (int i = 0; i < n; i++) {
            int c = (int) (rest & 255);
            rest >>>= 8;
            if (c != 10 && (c < 32 || c > 126)) {
                throw new IllegalArgumentException();
            }
            s = (char) c + s;
        }
        if (rest != 0) {
            throw new IllegalArgumentException();
        }
        if (page.length() + n > 400) {
            throw new IllegalStateException();
        }
        page.append(s);
        return page.length();
    }

    int wipe() {
        int n = page.length();
        page.setLength(0);
        return n;
    }

    long paper(int place, int n) {
        if (place < 0 || place >= paper.length()) {
            throw new IndexOutOfBoundsException();
        }
        range(n, 1, 7);
        if (place + n > paper.length()) {
            throw new IllegalArgumentException();
        }
        long l = 0;
        for (char c : paper.substring(place, place + n).toCharArray()) {
            l = l << 8 | c;
        }
        return l;
    }

    int rule(int how) {
        range(how, 0, 2);
        int was = rule;
        rule = how;
        return was;
    }

    int read() {
        if (docs.size() == 40) {
            throw new IllegalStateException();
        }
        String s = page.toString();
        page.setLength(0);
        try {
            return come(new Parser(s, rule).all());
        } catch (Fault f) {
            return -2 - f.place;
        }
    }

    private int tellAll(String s) {
        paper = s;
        return s.length();
    }

    int print(int doc, int way) {
        Object v = doc(doc);
        range(way, 0, 2);
        return tellAll(written(v, way, 0));
    }

    int node(int doc, int node, int what) {
        Spot s = spot(doc, node);
        range(what, 0, 9);
        Object v = s.value;
        boolean number = v instanceof BigDecimal;
        switch (what) {
            case 0:
                return kind(v);
            case 1:
                return depth(v);
            case 2:
                return size(v);
            case 3:
                return kind(v) < 3 ? -1 : kind(v) == 3 ? ((String) v).length() : values(v).size();
            case 4:
                return v instanceof Boolean ? ((Boolean) v ? 1 : 0) : -1;
            case 5:
                return number ? power((BigDecimal) v) : 0;
            case 6:
                return number ? digits((BigDecimal) v).abs().toString().length() : 0;
            case 7:
                return number ? ((BigDecimal) v).signum() : -1;
            case 8:
                return s.owner;
            default:
                return s.place;
        }
    }

    int tell(int doc, int node, int what) {
        Spot s = spot(doc, node);
        range(what, 0, 3);
        if (what == 0 && s.value instanceof String) {
            return tellAll((String) s.value);
        }
        if (what == 1 && s.value instanceof BigDecimal) {
            return tellAll(digits((BigDecimal) s.value).toString());
        }
        if (what == 2 && s.key != null) {
            return tellAll(s.key);
        }
        if (what == 3) {
            return tellAll(s.path);
        }
        throw new IllegalStateException();
    }

    boolean equal(int a, int b) {
        Object one = doc(a);
        return same(one, doc(b));
    }

    int compare(int a, int b) {
        Object one = doc(a);
        Object other = doc(b);
        if (!(one instanceof BigDecimal) || !(other instanceof BigDecimal)) {
            throw new IllegalStateException();
        }
        return ((BigDecimal) one).compareTo((BigDecimal) other);
    }

    int digest(int doc, int node) {
        int h = 7;
        for (char c : written(spot(doc, node).value, 1, 0).toCharArray()) {
            h = (257 * h + c) % 65521;
        }
        return h;
    }

    int take(int doc, int node) {
        return come(spot(doc, node).value);
    }

    static Object inOrder(Object v) {
        if (isRow(v)) {
            List<Object> l = new ArrayList<>();
            row(v).forEach(c -> l.add(inOrder(c)));
            return l;
        }
        if (isMap(v)) {
            Map<String, Object> m = new LinkedHashMap<>();
            new TreeMap<>(map(v)).forEach((k, c) -> m.put(k, inOrder(c)));
            return m;
        }
        return v;
    }

    int sorted(int doc) {
        return come(inOrder(doc(doc)));
    }

    int both(int a, int b) {
        List<Object> l = new ArrayList<>();
        l.add(doc(a));
        l.add(doc(b));
        return come(l);
    }

    int undo() {
        if (docs.isEmpty()) {
            throw new IllegalStateException();
        }
        docs.remove(docs.size() - 1);
        return docs.size();
    }

    private List<String> pagePath() {
        List<String> words = words(page.toString());
        if (words == null) {
            throw new IllegalStateException();
        }
        return words;
    }

    int select(int doc) {
        Object v = doc(doc);
        List<String> words = pagePath();
        page.setLength(0);
        finds = found(v, words);
        return finds.size();
    }

    int find(int k) {
        if (k < 0 || k >= finds.size()) {
            throw new IndexOutOfBoundsException();
        }
        return finds.get(k);
    }

    int put(int doc, int value) {
        Object v = doc(doc);
        Object w = doc(value);
        try {
            int n = come(withPut(v, pagePath(), w));
            page.setLength(0);
            return n;
        } catch (Refused e) {
            throw new IllegalStateException();
        }
    }

    int cut(int doc) {
        Object v = doc(doc);
        try {
            int n = come(withCut(v, pagePath()));
            page.setLength(0);
            return n;
        } catch (Refused e) {
            throw new IllegalStateException();
        }
    }

    int lay(int doc, int patch) {
        Object v = doc(doc);
        Object p = doc(patch);
        if (!isRow(p)) {
            return -1;
        }
        try {
            return come(laidAll(v, row(p), new ArrayList<>()));
        } catch (Fault f) {
            return -2 - f.place;
        }
    }

    /** Whether no TEXT has more than 40 signs. */
    private static boolean textsFit(Object v) {
        return spots(v).stream().allMatch(s -> !(s.value instanceof String) || ((String) s.value).length() <= 40);
    }

    private int comeWithTexts(Object v) {
        if (!textsFit(v)) {
            throw new IllegalStateException();
        }
        return come(v);
    }

    int patch(int a, int b) {
        Object one = doc(a);
        Object other = doc(b);
        List<Object> orders = new ArrayList<>();
        patchTo(one, other, "", orders);
        return comeWithTexts(orders);
    }

    int turn(int doc, int patch) {
        Object v = doc(doc);
        Object p = doc(patch);
        if (!isRow(p)) {
            throw new IllegalStateException();
        }
        List<Object> back = new ArrayList<>();
        try {
            laidAll(v, row(p), back);
        } catch (Fault f) {
            throw new IllegalStateException();
        }
        return comeWithTexts(back);
    }

    int join(int o, int a, int b) {
        Object common = doc(o);
        Object one = doc(a);
        Object other = doc(b);
        List<String> met = new ArrayList<>();
        Object v = joined(common, one, other, "", met);
        int n = met.isEmpty() ? come(v) : -1;
        quarrels = met;
        return n;
    }

    int quarrels() {
        return quarrels.size();
    }

    int quarrel(int k) {
        if (k < 0 || k >= quarrels.size()) {
            throw new IndexOutOfBoundsException();
        }
        return tellAll(quarrels.get(k));
    }

    int theStandard() {
        return come(standard());
    }

    int check(int schema, int doc) {
        Object s = doc(schema);
        Object v = doc(doc);
        if (!new Asking(standard(), s).ask(standard(), 0, new ArrayList<>())) {
            throw new IllegalStateException();
        }
        Asking asking = new Asking(s, v);
        List<int[]> all = new ArrayList<>();
        asking.ask(s, 0, all);
        if (asking.asked > 2000 || all.size() > 1000) {
            throw new IllegalStateException();
        }
        complaints = all;
        return all.size();
    }

    int complaint(int k, int what) {
        if (k < 0 || k >= complaints.size()) {
            throw new IndexOutOfBoundsException();
        }
        range(what, 0, 1);
        return complaints.get(k)[what];
    }

    int columns(int doc) {
        Object v = doc(doc);
        if (!isRow(v) || !row(v).stream().allMatch(Model::isMap)) {
            throw new IllegalStateException();
        }
        Set<String> keys = new LinkedHashSet<>();
        row(v).forEach(m -> keys.addAll(map(m).keySet()));
        Map<String, Object> table = new LinkedHashMap<>();
        for (String k : keys) {
            List<Object> l = new ArrayList<>();
            row(v).forEach(m -> l.add(map(m).getOrDefault(k, NIL)));
            table.put(k, l);
        }
        return come(table);
    }

    int rows(int doc) {
        Object v = doc(doc);
        if (!isMap(v) || map(v).isEmpty() || !map(v).values().stream().allMatch(Model::isRow)) {
            throw new IllegalStateException();
        }
        Set<Integer> lengths = new HashSet<>();
        map(v).values().forEach(c -> lengths.add(row(c).size()));
        if (lengths.size() != 1) {
            throw new IllegalStateException();
        }
        List<Object> table = new ArrayList<>();
        for (int i = 0; i < lengths.iterator().next(); i++) {
            Map<String, Object> m = new LinkedHashMap<>();
            for (String k : map(v).keySet()) {
                m.put(k, row(map(v).get(k)).get(i));
            }
            table.add(m);
        }
        return come(table);
    }

    int grow(int seed, int size) {
        range(seed, 0, 65535);
        range(size, 1, 3);
        return come(new Garden(seed).grow(0, size));
    }

    static Object withSpot(Object v, String path, Object value) {
        return withReplaced(v, words(path), value);
    }

    int vary(int doc, int seed) {
        Object v = doc(doc);
        range(seed, 0, 65535);
        Garden g = new Garden(seed);
        List<Spot> all = spots(v);
        Spot s = all.get(g.draw(all.size()));
        return come(withSpot(v, s.path, g.grow(2, 2)));
    }

    int sum(int what) {
        range(what, 0, 6);
        switch (what) {
            case 0:
                return docs.size();
            case 1:
                return page.length();
            case 2:
                return paper.length();
            case 3:
                return rule;
            case 4:
                return finds.size();
            case 5:
                return complaints.size();
            default:
                return docs.stream().mapToInt(Model::size).sum();
        }
    }

    boolean isSound(int doc) {
        Object v = doc(doc);
        for (int way = 0; way < 3; way++) {
            if (!same(v, new Parser(written(v, way, 0), 0).all())) {
                return false;
            }
        }
        return true;
    }
}
