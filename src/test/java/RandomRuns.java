import java.lang.reflect.InvocationTargetException;
import java.lang.reflect.Method;
import java.util.ArrayList;
import java.util.HashMap;
import java.util.List;
import java.util.Map;
import java.util.Random;

/**
 * Runs of drawn calls on a Treeletter and on the Model, from fixed seeds: each answer, each exception
 * and all that can be asked behind it have to be the same. Arguments: how many runs, the first seed.
 */
public final class RandomRuns {
    private static final Map<String, Method> REAL = methods(Treeletter.class);
    private static final Map<String, Method> MODEL = methods(Model.class);

    private final Random random;
    private final long seed;
    private final Treeletter real = new Treeletter();
    private final Model model = new Model();
    private final StringBuilder story = new StringBuilder();
    private int theme;

    private static final class Wrong extends RuntimeException {
        private static final long serialVersionUID = 1L;

        Wrong(String text) {
            super(text);
        }
    }

    private RandomRuns(long seed) {
        this.seed = seed;
        random = new Random(seed);
    }

    public static void main(String[] args) {
        int runs = args.length > 0 ? Integer.parseInt(args[0]) : 600;
        long first = args.length > 1 ? Long.parseLong(args[1]) : 1;
        Map<String, Integer> seen = new HashMap<>();
        int wrong = 0;
        for (long s = first; s < first + runs && wrong < 5; s++) {
            RandomRuns run = new RandomRuns(s);
            run.seen = seen;
            try {
                run.play();
            } catch (Wrong e) {
                wrong++;
                String all = run.story.toString();
                System.out.println("seed " + s + ": " + e.getMessage());
                System.out.println(all.substring(Math.max(0, all.length() - 3000)));
            }
        }
        if (args.length > 2) {
            seen.entrySet().stream().sorted(Map.Entry.comparingByKey()).forEach(System.out::println);
        }
        System.out.println(runs + " random runs, " + wrong + " wrong");
        if (wrong > 0) {
            System.exit(1);
        }
    }

    private Map<String, Integer> seen;

    private static Map<String, Method> methods(Class<?> of) {
        Map<String, Method> all = new HashMap<>();
        for (Method m : of.getDeclaredMethods()) {
            m.setAccessible(true);
            all.putIfAbsent(m.getName() + "/" + m.getParameterCount(), m);
        }
        return all;
    }

    // ---- calls on both

    private static Object answer(Method m, Object on, Object... args) {
        try {
            return m.invoke(on, args);
        } catch (InvocationTargetException e) {
            return e.getCause().getClass().getSimpleName();
        } catch (IllegalAccessException e) {
            throw new IllegalStateException(e);
        }
    }

    private Object ask(String name, Object... args) {
        String key = name + "/" + args.length;
        Object want = answer(MODEL.get(name.equals("standard") ? "theStandard/0" : key), model, args);
        Object got = answer(REAL.get(key), real, args);
        if (!want.equals(got)) {
            story.append(line(name, args)).append(" -> ").append(got).append('\n');
            throw new Wrong(line(name, args) + " answered " + got + ", due is " + want);
        }
        return want;
    }

    private static String line(String name, Object... args) {
        StringBuilder b = new StringBuilder(name).append('(');
        for (Object a : args) {
            b.append(b.charAt(b.length() - 1) == '(' ? "" : ", ").append(a);
        }
        return b.append(')').toString();
    }

    private int call(String name, Object... args) {
        Object got = ask(name, args);
        story.append(line(name, args)).append(" -> ").append(got).append('\n');
        String class_ = got instanceof String ? (String) got : got instanceof Number && ((Number) got).longValue() < 0
                ? "below 0" : "ok";
        seen.merge(name + " " + class_, 1, Integer::sum);
        for (int what = 0; what <= 6; what++) {
            ask("sum", what);
        }
        if (name.equals("print") || name.equals("tell") || name.equals("quarrel") || random.nextInt(50) == 0) {
            comparePaper();
        }
        boolean comes = got instanceof Integer && (Integer) got >= 0 && (Integer) got == model.docs.size() - 1;
        if (comes && random.nextInt(3) == 0) {
            compareDocument(model.docs.size() - 1);
        }
        if (name.equals("select") || name.equals("check") || name.equals("join") || random.nextInt(40) == 0) {
            compareLists();
        }
        return got instanceof Integer ? (Integer) got : 0;
    }

    private void comparePaper() {
        for (int p = 0; p < model.paper.length(); p += 7) {
            ask("paper", p, Math.min(7, model.paper.length() - p));
        }
    }

    private void compareDocument(int doc) {
        for (int way = 0; way < 3; way++) {
            ask("print", doc, way);
            comparePaper();
        }
        if (!(Boolean) ask("isSound", doc)) {
            throw new Wrong("not sound: " + doc);
        }
        int nodes = Model.size(model.docs.get(doc));
        for (int n = 0; n < nodes; n += 1 + random.nextInt(4)) {
            for (int what = 0; what < 10; what++) {
                ask("node", doc, n, what);
            }
            for (int what = 0; what < 4; what++) {
                ask("tell", doc, n, what);
                comparePaper();
            }
            ask("digest", doc, n);
        }
    }

    private void compareLists() {
        for (int k = -1; k <= model.finds.size(); k++) {
            ask("find", k);
        }
        for (int k = -1; k <= model.complaints.size(); k++) {
            ask("complaint", k, 0);
            ask("complaint", k, 1);
        }
        ask("quarrels");
        for (int k = -1; k <= model.quarrels.size(); k++) {
            ask("quarrel", k);
            comparePaper();
        }
    }

    private void type(String text) {
        for (int p = 0; p < text.length();) {
            int n = Math.min(text.length() - p, 1 + random.nextInt(8));
            long letters = 0;
            for (char c : text.substring(p, p + n).toCharArray()) {
                letters = letters << 8 | c;
            }
            Object got = ask("write", n, letters);
            story.append(got instanceof String ? got + "! " : "");
            p += n;
        }
        story.append("types ").append(text).append('\n');
    }

    private int wipeAndRead(String text) {
        if (!model.page.toString().isEmpty() && random.nextInt(20) != 0) {
            call("wipe");
        }
        type(text);
        return call("read");
    }

    // ---- draws

    private int draw(int n) {
        return random.nextInt(n);
    }

    private boolean rarely(int n) {
        return draw(n) == 0;
    }

    private String of(String... some) {
        return some[draw(some.length)];
    }

    private int doc() {
        int n = model.docs.size();
        return rarely(60) ? draw(50) - 3 : n == 0 ? 0 : rarely(2) ? n - 1 - draw(Math.min(n, 3)) : draw(n);
    }

    private Object value(int doc) {
        return doc < 0 || doc >= model.docs.size() ? Boolean.TRUE : model.docs.get(doc);
    }

    // ---- texts of VALUES

    private String key() {
        return rarely(12) ? of("\"\"", "\"~\"", "\"/\"", "\"a~b/c\"", "\"-\"", "\"0\"", "\"*\"", "\"**\"", "\"?a=1\"",
                "\"\\u00e9\"", "\"\\n\"", "\"\\\"\"", "\"abcdefghijkl\"", "\"abcdefghijklm\"", "\"ab\"", "\"\\/\"", "\"1\"")
                : "\"" + of("a", "b", "c", "d", "e", "k") + "\"";
    }

    private String number() {
        return rarely(3) ? of("0", "-0", "0.0", "1e99", "10e99", "1e-99", "0.1e-99", "123456789012345678901234",
                "1234567890123456789012345", "0.00000000000000000000001", "1.50", "-3e4", "15E-1", "1e+2", "2.5e01", "100",
                "01", "1.", ".5", "-", "1e", "1e100", "0e99", "-0.0e-99", "1000000000000000000000000e80", "99e98", "9e9")
                : "" + (draw(12) - 3);
    }

    private String text() {
        return rarely(6) ? of("\"\"", "\"\\u00e9\\u007f\\u0000\"", "\"a\\\\b\\\"\"", "\"\\b\\f\\n\\r\\t\\/\"", "\"\\u00FF~/\"",
                "\"0123456789012345678901234567890123456789\"", "\"01234567890123456789012345678901234567890\"",
                "\"\\u00AG\"", "\"\\u1000\"", "\"\\x\"", "\"0123456789012345678901234567890123456789\\n\"")
                : "\"" + "abcabc".substring(draw(3), 3 + draw(4)) + "\"";
    }

    private String blank() {
        return rarely(15) ? of(" ", "\n", "  \n ") : "";
    }

    private String json(int level, int width) {
        int t = draw(level <= 0 ? 5 : 10);
        String v;
        if (t == 0) {
            v = of("null", "true", "false");
        } else if (t <= 2) {
            v = number();
        } else if (t <= 4) {
            v = text();
        } else {
            StringBuilder b = new StringBuilder(t <= 6 ? "[" : "{");
            int n = draw(width + 1);
            for (int i = 0; i < n; i++) {
                b.append(i > 0 ? "," : "").append(t <= 6 ? "" : key() + blank() + ":").append(json(level - 1, width));
            }
            v = b.append(blank()).append(t <= 6 ? "]" : "}").toString();
        }
        return blank() + v + blank();
    }

    private String spoilt(String s) {
        StringBuilder b = new StringBuilder(s);
        for (int n = 1 + draw(2); n > 0; n--) {
            int p = draw(b.length() + 1);
            char c = "[]{}:,\"\\ntf0123456789-+.eE u/ab\n~".charAt(draw(33));
            if (rarely(3) && p < b.length()) {
                b.deleteCharAt(p);
            } else if (rarely(2) && p < b.length()) {
                b.setCharAt(p, c);
            } else {
                b.insert(p, c);
            }
        }
        return b.toString();
    }

    private String much() {
        switch (draw(5)) {
            case 0:
                return "[".repeat(10 + draw(5)) + "1" + "]".repeat(10 + draw(5));
            case 1:
                return "{\"a\":".repeat(10 + draw(5)) + "1" + "}".repeat(10 + draw(5));
            case 2:
                return "[" + "1,".repeat(96 + draw(6)) + "1]";
            case 3:
                return "{" + "\"a\":[1,2],".repeat(10 + draw(25)) + "\"b\":1}";
            default:
                return "[" + "{\"a\":[]},".repeat(20 + draw(15)) + "1]";
        }
    }

    private void readSome() {
        String s = rarely(12) ? much() : json(2 + draw(3), 1 + draw(4));
        wipeAndRead(cutTo(rarely(4) ? spoilt(s) : s));
    }

    private String cutTo(String s) {
        return s.length() <= 400 || rarely(20) ? s : json(1, 3);
    }

    // ---- PATHS

    private String place(Object value) {
        List<Model.Spot> all = Model.spots(value);
        return all.get(draw(all.size())).path;
    }

    private String pathTo(Object value) {
        String p = place(value);
        if (rarely(3)) {
            p += "/" + of("a", "b", "f", "0", "1", "-", "2", "", "~0", "~1", "abcdefghijkl", "abcdefghijklm", "00", "-1", "01");
        }
        if (rarely(30)) {
            p = of("a", "/~", "/~2", "~", "/a~/b", "//", "/", "/ ", "/-", "/99999999999");
        }
        return p;
    }

    private String query(Object value) {
        String p = place(value);
        int n = draw(3);
        for (int i = 0; i < n; i++) {
            p += "/" + of("*", "*", "**", "?a=1", "?a", "?b=[]", "?c=\"a\"", "?d=true", "?~0=1", "?=1", "?k=null", "-1", "-2",
                    "-0", "-", "0", "1", "a", "b", "?a={\"a\":1}", "-01", "?a~1=1", "***", "?a==", "k");
        }
        if (rarely(4)) {
            int at = p.indexOf('/', draw(p.length() + 1));
            p = at < 0 ? p : p.substring(0, at) + of("/*", "/**", "/?a=1") + p.substring(at);
        }
        return rarely(40) ? spoilt(p) : p;
    }

    private void typePath(String p) {
        if (model.page.length() > 0 && !rarely(30)) {
            call("wipe");
        }
        for (char c : p.toCharArray()) {
            if (c != 10 && (c < 32 || c > 126)) {
                return;
            }
        }
        type(p);
    }

    // ---- PATCHES

    private String orderFor(Object value) {
        String op = of("add", "add", "remove", "replace", "move", "copy", "test", "test", rarely(30) ? "ad" : "add");
        String path = pathTo(value);
        StringBuilder b = new StringBuilder("{\"op\":").append(Model.quoted(op));
        b.append(",\"path\":").append(rarely(60) ? "1" : Model.quoted(path));
        if (op.equals("move") || op.equals("copy")) {
            b.append(rarely(40) ? "" : ",\"from\":" + Model.quoted(rarely(2) ? place(value) : pathTo(value)));
        } else if (op.equals("test")) {
            List<String> words = Model.words(path);
            Object there = words == null ? null : Model.at(value, words);
            String least = there == null || rarely(8) ? json(1, 2) : Model.written(there, 1, 0);
            b.append(",\"value\":").append(least);
        } else if (!op.equals("remove")) {
            b.append(rarely(40) ? "" : ",\"value\":" + json(1, 2));
        }
        return b.append("}").toString();
    }

    /** Orders, each for what the DOCUMENT is behind those ahead, if they can be done. */
    private String patchFor(Object value) {
        StringBuilder b = new StringBuilder("[");
        Object now = value;
        for (int n = draw(6); n > 0; n--) {
            String o = rarely(80) ? of("1", "{}", "{\"op\":\"add\"}", "[]", "{\"op\":\"add\",\"path\":\"/a\"}") : orderFor(now);
            if (b.length() + o.length() > 390) {
                break;
            }
            try {
                now = Model.laid(now, new Model.Parser(o, 0).all(), new ArrayList<>());
            } catch (Model.Refused | Model.Fault e) {
                if (!rarely(12)) {
                    continue;
                }
            }
            b.append(b.length() > 1 ? "," : "").append(o);
        }
        return b.append("]").toString();
    }

    private void playPatch() {
        int doc = doc();
        int patch = wipeAndRead(patchFor(value(doc)));
        if (patch < 0) {
            return;
        }
        int after = call("lay", doc, patch);
        int back = call("turn", doc, patch);
        if (after >= 0 && back > after && model.docs.size() < 40) {
            int again = call("lay", after, back);
            call("equal", again, doc);
        }
        clear(8);
    }

    private void playDifference() {
        int a = doc();
        int b = rarely(2) ? doc() : call("vary", a, draw(65536));
        int patch = call("patch", a, b);
        if (patch < 0 || patch >= model.docs.size()) {
            return;
        }
        int laid = call("lay", a, patch);
        call("equal", laid, b);
        int back = call("turn", a, patch);
        call("lay", laid, back);
        clear(8);
    }

    private void playJoin() {
        int o = doc();
        int a = call("vary", o, draw(65536));
        int b = call("vary", o, draw(65536));
        if (rarely(3)) {
            a = call("vary", a, draw(65536));
        }
        if (rarely(8)) {
            b = doc();
        }
        int x = call("join", o, a, b);
        int y = call("join", o, b, a);
        if (x >= 0 && y >= 0 && model.docs.size() > Math.max(x, y)) {
            call("equal", x, y);
        }
        clear(12);
    }

    // ---- SCHEMAS

    private String kinds() {
        String k = "\"" + of("nothing", "truth", "number", "text", "row", "map", "whole", rarely(60) ? "x" : "map") + "\"";
        return rarely(3) ? "[" + k + ",\"" + of("number", "text", "row", "map") + "\"]" : k;
    }

    private String list(int level) {
        StringBuilder b = new StringBuilder("[");
        for (int i = draw(4); i > 0; i--) {
            b.append(b.length() > 1 ? "," : "").append(schema(level - 1));
        }
        return b.append("]").toString();
    }

    private String schema(int level) {
        if (level <= 0 || rarely(8)) {
            return rarely(2) ? "true" : rarely(2) ? "false" : "{\"kind\":" + kinds() + "}";
        }
        StringBuilder b = new StringBuilder("{");
        int n = draw(3) + 1;
        List<String> used = new ArrayList<>();
        for (int i = 0; i < n; i++) {
            String w = of("kind", "least", "most", "shortest", "longest", "needs", "keys", "others", "items", "only", "all",
                    "some", "one", "not", "ref", "ref", "items", "others", "keys", rarely(20) ? "x" : "kind");
            if (!used.contains(w)) {
                used.add(w);
                b.append(b.length() > 1 ? "," : "").append('"').append(w).append("\":").append(saying(w, level));
            }
        }
        return b.append("}").toString();
    }

    private String saying(String w, int level) {
        if (rarely(150)) {
            return "null";
        }
        switch (w) {
            case "kind":
                return kinds();
            case "least":
            case "most":
                return of("0", "1", "5", "-1", "2.5", "3e2");
            case "shortest":
            case "longest":
                return of("0", "1", "2", "1.5", "-1", "3");
            case "needs":
                return of("[]", "[\"a\"]", "[\"a\",\"b\"]", "[\"c\",\"zzzzzzzzzzzzzzzz\"]", "[\"k\",\"k\"]");
            case "keys":
                return "{\"" + of("a", "b") + "\":" + schema(level - 1) + ",\"" + of("c", "d") + "\":" + schema(level - 1) + "}";
            case "others":
            case "items":
            case "not":
                return schema(level - 1);
            case "only":
                return of("[]", "[1,2,\"a\"]", "[true,[],{}]", "[null,0,1,{\"a\":1}]");
            case "all":
            case "some":
            case "one":
                return list(level);
            case "ref":
                return of("\"s\"", "\"t\"", "\"s\"", "\"t\"", "\"u\"");
            default:
                return "1";
        }
    }

    private void playCheck() {
        for (int tries = 0; tries < 3; tries++) {
            String s = schema(3);
            if (s.startsWith("{") && s.length() > 2 && !rarely(4)) {
                s = "{\"names\":{\"s\":" + schema(2) + ",\"t\":" + schema(2) + "}," + s.substring(1);
            }
            if (s.length() <= 400) {
                int schema = wipeAndRead(s);
                for (int i = 0; i < 3 && schema >= 0; i++) {
                    call("check", schema, doc());
                }
            }
        }
        if (rarely(6)) {
            int standard = call("standard");
            call("check", standard, doc());
            call("check", standard, standard);
        }
        clear(6);
    }

    // ---- all

    private void clear(int most) {
        if (model.docs.size() > 25) {
            for (int n = draw(most); n > 0; n--) {
                call("undo");
            }
        }
    }

    private int extreme() {
        return rarely(2) ? random.nextInt() : rarely(2) ? Integer.MIN_VALUE + draw(3) : Integer.MAX_VALUE - draw(3);
    }

    private void playWild() {
        String name = of("write", "paper", "rule", "print", "node", "tell", "compare", "digest", "take", "both", "undo", "find",
                "quarrel", "complaint", "columns", "rows", "grow", "vary", "sum", "isSound", "equal", "sorted", "read", "select",
                "put", "cut", "lay", "patch", "turn", "join", "check", "wipe", "standard");
        int a = rarely(30) ? extreme() : draw(46) - 3;
        int b = rarely(30) ? extreme() : rarely(3) ? draw(120) - 10 : draw(14) - 2;
        switch (name) {
            case "write":
                call(name, draw(12) - 1, rarely(2) ? random.nextLong() : (long) draw(70000));
                break;
            case "paper":
                call(name, rarely(20) ? extreme() : draw(60) - 5, rarely(20) ? extreme() : draw(11) - 1);
                break;
            case "rule":
                call(name, draw(5) - 1);
                break;
            case "tell":
            case "node":
                call(name, a, b, rarely(20) ? extreme() : draw(14) - 2);
                break;
            case "print":
                call(name, a, draw(6) - 1);
                break;
            case "join":
                call(name, doc(), doc(), doc());
                break;
            case "compare":
            case "digest":
            case "take":
            case "both":
            case "equal":
            case "complaint":
                call(name, a, b);
                break;
            case "put":
            case "lay":
            case "patch":
            case "turn":
            case "check":
                call(name, doc(), doc());
                break;
            case "grow":
                call(name, rarely(9) ? 65536 : rarely(20) ? extreme() : draw(65540) - 2, rarely(20) ? extreme() : draw(6) - 1);
                break;
            case "vary":
                call(name, a, rarely(9) ? extreme() : draw(65540) - 2);
                break;
            case "undo":
            case "read":
            case "wipe":
            case "standard":
                call(name);
                break;
            default:
                call(name, a);
                break;
        }
    }

    private void playTable() {
        StringBuilder b = new StringBuilder("[");
        for (int n = draw(4); n > 0; n--) {
            b.append(b.length() > 1 ? "," : "").append("{\"").append(of("a", "b")).append("\":").append(json(0, 1)).append(",\"")
                    .append(of("c", "d")).append("\":").append(json(1, 1)).append("}");
        }
        int table = wipeAndRead(cutTo(rarely(3) ? json(2, 3) : b.append("]").toString()));
        int columns = call("columns", table);
        int rows = call("rows", columns);
        call("columns", rows);
        call("columns", doc());
        call("rows", doc());
        clear(8);
    }

    private void playChange() {
        int doc = doc();
        typePath(pathTo(value(doc)));
        if (rarely(2)) {
            call("put", doc, doc());
        } else {
            call("cut", doc);
        }
        clear(3);
    }

    private String figures(int most) {
        StringBuilder b = new StringBuilder();
        for (int n = draw(most) + 1; n > 0; n--) {
            b.append(rarely(3) ? of("0", "9") : "" + draw(10));
        }
        return b.toString();
    }

    private void playNumbers() {
        String one = of("", "-") + figures(14) + of("", "." + figures(13)) + of("", "e" + (draw(200) - 100), "E+" + draw(20));
        String other = rarely(3) ? one.replace("9", "8") : rarely(2) ? one + "0" : of("", "-") + figures(6);
        int a = wipeAndRead(one);
        int b = wipeAndRead(other);
        if (a >= 0 && b >= 0) {
            call("compare", a, b);
            call("compare", b, a);
            call("equal", a, b);
            call("both", a, b);
        }
        clear(6);
    }

    /** DOCUMENTS near their bounds, by doubling, and by KEYS and ROWS within each other. */
    private void playBig() {
        int doc = doc();
        for (int i = draw(4); i > 0; i--) {
            int twice = call("both", doc, rarely(2) ? doc : doc());
            doc = twice > 0 ? twice : doc;
        }
        for (int i = draw(4); i > 0; i--) {
            int box = wipeAndRead(of("{\"abcdefghijkl\":{\"bcdefghijklm\":{}}}", "{\"a\":[[]]}", "[[],{\"a\":{}}]", "[1,[2,[3,[]]]]"));
            if (box >= 0) {
                typePath(place(value(box)) + of("/x", "/0", "/-", "/bcdefghijk~0~1", "/0"));
                int full = call("put", box, doc);
                doc = full > 0 ? full : doc;
            }
        }
        int varied = call("vary", doc, draw(65536));
        int patch = call("patch", doc, varied);
        if (patch > 0 && varied > 0) {
            call("lay", doc, patch);
            call("turn", doc, patch);
        }
        call("patch", doc(), doc);
        call("columns", doc);
        call("join", doc(), doc, doc());
        clear(20);
    }

    private void step() {
        int kind = draw(3) == 0 ? theme : draw(14);
        switch (kind) {
            case 0:
                readSome();
                break;
            case 1:
                int doc = doc();
                typePath(query(value(doc)));
                call("select", doc);
                break;
            case 2:
                playChange();
                break;
            case 3:
                playPatch();
                break;
            case 4:
                playDifference();
                break;
            case 5:
                playJoin();
                break;
            case 6:
                playCheck();
                break;
            case 7:
                playTable();
                break;
            case 8:
                call(of("grow"), draw(65536), 1 + draw(3));
                break;
            case 9:
                call("both", doc(), doc());
                call("sorted", doc());
                int d = doc();
                call("take", d, draw(Model.size(value(d))));
                call("compare", doc(), doc());
                call("equal", doc(), doc());
                call("rule", draw(3));
                break;
            case 10:
                call("digest", doc(), draw(4));
                call("print", doc(), draw(3));
                clear(20);
                break;
            case 11:
                playNumbers();
                break;
            case 12:
                playBig();
                break;
            default:
                playWild();
                break;
        }
    }

    private void play() {
        theme = draw(14);
        call("grow", draw(65536), 3);
        wipeAndRead("{\"a\":1,\"b\":[1,2,{\"a\":1}],\"c\":{\"d\":\"x\"}}");
        for (int i = 0; i < 60; i++) {
            step();
        }
        for (int i = 0; i < model.docs.size(); i++) {
            compareDocument(i);
        }
        compareLists();
    }
}
