/** For each promise: ordinary inputs, the edges that the document names, and wrong inputs. */
public final class PromiseTest {
    private static final String IOOBE = "IndexOutOfBoundsException";
    private static final String IAE = "IllegalArgumentException";
    private static final String ISE = "IllegalStateException";
    private static final String STANDARD = Model.STANDARD.replace("\n", "");

    private static int checks;
    private static int wrong;
    private static int promise;

    private interface Call {
        Object made();
    }

    /** A Treeletter with what a test needs to type and to look at texts. */
    private static final class Desk {
        final Treeletter t = new Treeletter();

        Desk type(String text) {
            for (int p = 0; p < text.length(); p += 8) {
                int n = Math.min(8, text.length() - p);
                long letters = 0;
                for (char c : text.substring(p, p + n).toCharArray()) {
                    letters = letters << 8 | c;
                }
                t.write(n, letters);
            }
            return this;
        }

        int read(String text) {
            t.wipe();
            return type(text).t.read();
        }

        /** Copies what is at one place n times to another one, by PATCHES of at most 7 ORDERS. */
        int copied(int doc, String from, String to, int n) {
            int now = doc;
            for (int left = n; left > 0; left -= 7) {
                int patch = read("[" + joinedTimes(from("copy", to, from), Math.min(left, 7)) + "]");
                now = t.lay(now, patch);
            }
            return now;
        }

        String paper() {
            StringBuilder b = new StringBuilder();
            for (int p = 0; p < t.sum(2); p++) {
                b.append((char) t.paper(p, 1));
            }
            return b.toString();
        }

        String print(int doc, int way) {
            int n = t.print(doc, way);
            String text = paper();
            return n == text.length() ? text : "length " + n + " of " + text;
        }

        String least(int doc) {
            return print(doc, 0);
        }

        String tell(int doc, int node, int what) {
            int n = t.tell(doc, node, what);
            String text = paper();
            return n == text.length() ? text : "length " + n + " of " + text;
        }

        Desk page(String path) {
            t.wipe();
            return type(path);
        }

        String finds(int doc, String path) {
            int n = page(path).t.select(doc);
            StringBuilder b = new StringBuilder();
            for (int k = 0; k < n; k++) {
                b.append(k > 0 ? " " : "").append(t.find(k));
            }
            return b.toString();
        }

        String complaints() {
            StringBuilder b = new StringBuilder();
            for (int k = 0; k < t.sum(5); k++) {
                b.append(k > 0 ? " " : "").append(t.complaint(k, 0)).append(":").append(t.complaint(k, 1));
            }
            return b.toString();
        }

        /** The COMPLAINTS of a SCHEMA of a text about a VALUE of a text. */
        String check(String schema, String value) {
            int s = read(schema);
            int n = t.check(s, read(value));
            String all = complaints();
            t.undo();
            t.undo();
            return n == t.sum(5) ? all : "counted " + n;
        }

        void fill() {
            while (t.sum(0) < 40) {
                t.standard();
            }
        }

        String state() {
            StringBuilder b = new StringBuilder();
            for (int what = 0; what <= 6; what++) {
                b.append(t.sum(what)).append(' ');
            }
            return b.append(t.quarrels()).toString();
        }
    }

    private static void due(String what, Object got, Object want) {
        checks++;
        if (!got.equals(want)) {
            wrong++;
            System.out.println("promise " + promise + ": " + what + " answered " + got + ", due is " + want);
        }
    }

    /** The call has to throw, and to change nothing that sums tell. */
    private static void refuses(Desk d, String what, String exception, Call call) {
        String before = d.state();
        Object got;
        try {
            got = call.made();
        } catch (RuntimeException e) {
            got = e.getClass().getSimpleName();
        }
        due(what, got, exception);
        due(what + " changes nothing", d.state(), before);
    }

    private static String times(String s, int n) {
        return s.repeat(n);
    }

    private static String joinedTimes(String s, int n) {
        return n == 0 ? "" : s + ("," + s).repeat(n - 1);
    }

    private static long letters(String s) {
        long l = 0;
        for (char c : s.toCharArray()) {
            l = l << 8 | c;
        }
        return l;
    }

    // ---- 1 to 7

    private static void newObject() {
        promise = 1;
        Desk d = new Desk();
        due("all sums", d.state(), "0 0 0 0 0 0 0 0");
        due("NONE", Treeletter.NONE, -1);
        refuses(d, "find(0)", IOOBE, () -> d.t.find(0));
        refuses(d, "complaint(0, 0)", IOOBE, () -> d.t.complaint(0, 0));
        refuses(d, "quarrel(0)", IOOBE, () -> d.t.quarrel(0));
        refuses(d, "paper(0, 1)", IOOBE, () -> d.t.paper(0, 1));
        refuses(d, "print(0, 0)", IOOBE, () -> d.t.print(0, 0));
        refuses(d, "undo()", ISE, () -> d.t.undo());
    }

    private static void write() {
        promise = 2;
        Desk d = new Desk();
        due("write 1", d.t.write(1, letters("[")), 1);
        due("write 8", d.t.write(8, letters("\"x y~\\n\"")), 9);
        due("write an end of line", d.t.write(2, letters("\n]")), 11);
        due("what was typed", d.t.read(), 0);
        due("what was typed, told", d.least(0), "[\"x y~\\u000a\"]");
        refuses(d, "n 0", IAE, () -> d.t.write(0, 0));
        refuses(d, "n -1", IAE, () -> d.t.write(-1, 32));
        refuses(d, "n 9", IAE, () -> d.t.write(9, letters("[")));
        refuses(d, "code 31", IAE, () -> d.t.write(1, 31));
        refuses(d, "code 9", IAE, () -> d.t.write(1, 9));
        refuses(d, "code 11", IAE, () -> d.t.write(1, 11));
        refuses(d, "code 127", IAE, () -> d.t.write(1, 127));
        refuses(d, "code 128", IAE, () -> d.t.write(1, 128));
        refuses(d, "highest code 0", IAE, () -> d.t.write(2, letters("a")));
        refuses(d, "lowest code 0", IAE, () -> d.t.write(2, letters("a") << 8));
        refuses(d, "more figures", IAE, () -> d.t.write(1, letters("ab")));
        refuses(d, "more figures of 7", IAE, () -> d.t.write(7, letters("abcdefgh")));
        refuses(d, "letters below 0", IAE, () -> d.t.write(8, -1L));
        refuses(d, "letters below 0 by n 1", IAE, () -> d.t.write(1, -224L));
        for (int i = 0; i < 49; i++) {
            d.t.write(8, letters("        "));
        }
        due("code 126", d.t.write(7, letters("~~~~~~~")), 399);
        refuses(d, "401 signs", ISE, () -> d.t.write(2, letters("ab")));
        refuses(d, "wrong code ahead of too many", IAE, () -> d.t.write(2, letters("a\t")));
        due("400 signs", d.t.write(1, 32), 400);
        refuses(d, "a 401st", ISE, () -> d.t.write(1, 32));
    }

    private static void wipe() {
        promise = 3;
        Desk d = new Desk();
        due("an empty one", d.t.wipe(), 0);
        due("3 signs", d.type("abc").t.wipe(), 3);
        due("empty then", d.t.sum(1), 0);
        due("nothing of it left", d.type("[1]").t.read(), 0);
    }

    private static void paper() {
        promise = 4;
        Desk d = new Desk();
        d.read("\"ab\\u00ffdefgh\"");
        d.t.tell(0, 0, 0);
        due("one sign", d.t.paper(0, 1), 97L);
        due("sign 255", d.t.paper(2, 1), 255L);
        due("7 signs", d.t.paper(1, 7), letters("b\u00ffdefgh"));
        due("the last one", d.t.paper(7, 1), 104L);
        refuses(d, "place 8", IOOBE, () -> d.t.paper(8, 1));
        refuses(d, "place -1", IOOBE, () -> d.t.paper(-1, 1));
        refuses(d, "place ahead of n", IOOBE, () -> d.t.paper(8, 0));
        refuses(d, "n 0", IAE, () -> d.t.paper(0, 0));
        refuses(d, "n 8", IAE, () -> d.t.paper(0, 8));
        refuses(d, "not so many", IAE, () -> d.t.paper(2, 7));
        refuses(d, "n far too great", IAE, () -> d.t.paper(1, Integer.MAX_VALUE));
        refuses(d, "place far too great", IOOBE, () -> d.t.paper(Integer.MAX_VALUE, Integer.MAX_VALUE));
        d.read("\"\"");
        d.t.tell(1, 0, 0);
        refuses(d, "an empty PAPER", IOOBE, () -> d.t.paper(0, 1));
    }

    private static void rule() {
        promise = 5;
        Desk d = new Desk();
        due("at first", d.t.rule(2), 0);
        due("then", d.t.rule(1), 2);
        refuses(d, "how 3", IAE, () -> d.t.rule(3));
        refuses(d, "how -1", IAE, () -> d.t.rule(-1));
        due("the same again", d.t.rule(1), 1);
        due("back", d.t.rule(0), 1);
    }

    /** Reads on a new object; what came, or the answer. */
    private static String came(String text, int how) {
        Desk d = new Desk();
        d.t.rule(how);
        int n = d.read(text);
        due("THE PAGE behind read of " + text, d.t.sum(1), 0);
        due("DOCUMENTS behind read of " + text, d.t.sum(0), n < 0 ? 0 : 1);
        return n < 0 ? "fault " + (-2 - n) : d.least(n);
    }

    private static void reads(String text, String want) {
        due("read of " + text, came(text, 0), want);
    }

    private static void faults(String text, int place) {
        due("read of " + text, came(text, 0), "fault " + place);
    }

    private static void read() {
        promise = 6;
        String[] same = {"null", "true", "false", "0", "-7", "15e-1", "\"\"", "[]", "{}", "[null,[],{}]",
            "{\"b\":1,\"a\":[2]}", "{\"\":0}"};
        for (String s : same) {
            reads(s, s);
        }
        reads(" \n [ 1 , 2 ]\n ", "[1,2]");
        reads("{ \"a\" : 1 , \"b\" : { } }", "{\"a\":1,\"b\":{}}");
        reads("\"\\\"\\\\\\/\\b\\f\\n\\r\\t\\u0041\\u00e9\\u00FF\"",
            "\"\\\"\\\\/\\u0008\\u000c\\u000a\\u000d\\u0009A\\u00e9\\u00ff\"");
        faults("", 0);
        faults("  ", 2);
        faults("nul", 3);
        faults("nulx", 3);
        faults("nullx", 4);
        faults("tru e", 3);
        faults("true false", 5);
        faults("[1,]", 3);
        faults("[,1]", 1);
        faults("[1 2]", 3);
        faults("[1", 2);
        faults("[1}", 2);
        faults("[", 1);
        faults("]", 0);
        faults("{", 1);
        faults("{,", 1);
        faults("{\"a\"}", 4);
        faults("{\"a\":}", 5);
        faults("{\"a\":1,}", 7);
        faults("{\"a\":1 \"b\"", 7);
        faults("{\"a\":1", 6);
        faults("{a", 1);
        faults("{\"a", 3);
        faults("\"a", 2);
        faults("\"a\nb\"", 2);
        faults("\"a\\", 3);
        faults("\"a\\x\"", 3);
        faults("\"\\u0041", 7);
        faults("\"\\u0141\"", 4);
        faults("\"\\u1041\"", 3);
        faults("\"\\u00g1\"", 5);
        faults("\"\\u004G\"", 6);
        faults("\"\\u00", 5);
        readNumbers();
        readBounds();
        readRules();
        Desk d = new Desk();
        d.fill();
        d.type("[1]");
        refuses(d, "the 41st", ISE, () -> d.t.read());
        due("THE PAGE stays", d.t.wipe(), 3);
        d.type("[");
        refuses(d, "the 41st, with a FAULT", ISE, () -> d.t.read());
        d.t.undo();
        due("the 40th", d.read("[1]"), 39);
    }

    private static void readNumbers() {
        reads("0.0", "0");
        reads("-0", "0");
        reads("-0e-99", "0");
        reads("0e99", "0");
        reads("100", "1e2");
        reads("1.50", "15e-1");
        reads("-30000", "-3e4");
        reads("2.5E+1", "25");
        reads("2.5e01", "25");
        reads("0.001e3", "1");
        reads("1e99", "1e99");
        reads("1e-99", "1e-99");
        reads("0.1e-98", "1e-99");
        reads("10e-99", "1e-98");
        reads("123456789012345678901234", "123456789012345678901234");
        reads("-123456789012.345678901234", "-123456789012345678901234e-12");
        reads("0.00000000000000000000001", "1e-23");
        faults("-", 1);
        faults("-a", 1);
        faults("01", 1);
        faults("-01", 2);
        faults("1.", 2);
        faults("1.e1", 2);
        faults(".5", 0);
        faults("+1", 0);
        faults("1e", 2);
        faults("1e+", 3);
        faults("1e+-1", 3);
        faults("1e123", 4);
        faults("1x", 1);
        faults("[10e99]", 1);
        faults("[-10e99,", 1);
        faults("0.1e-99", 0);
        faults("  1000e97x", 2);
        faults("1.1e-99", 0);
        faults("1234567890123456789012345", 24);
        faults("0.000000000000000000000001", 25);
        faults("123456789012.3456789012345", 25);
    }

    private static void readBounds() {
        reads(times("[", 12) + times("]", 12), times("[", 12) + times("]", 12));
        faults(times("[", 13), 12);
        faults(times("{\"a\":", 12) + "[]", 60);
        reads("[" + joinedTimes("1", 99) + "]", "[" + joinedTimes("1", 99) + "]");
        faults("[" + joinedTimes("1", 100) + "]", 199);
        faults("[" + joinedTimes("1", 99) + ",{", 199);
        faults("[" + joinedTimes("1", 99) + ", x", 200);
        reads("\"" + times("x", 40) + "\"", "\"" + times("x", 40) + "\"");
        faults("\"" + times("x", 41) + "\"", 41);
        faults("\"" + times("x", 40) + "\\n\"", 41);
        faults("\"" + times("\\n", 40) + "\\n\"", 81);
        reads("{\"123456789012\":1}", "{\"123456789012\":1}");
        faults("{\"1234567890123\":1}", 14);
        faults("{\"123456789012\\\"\":1}", 14);
    }

    private static void readRules() {
        due("THE RULE 0", came("{\"a\":1,\"b\":2,\"a\" :3}", 0), "fault 15");
        due("THE RULE 0, written otherwise", came("{\"a\":1,\"\\u0061\":3}", 0), "fault 14");
        due("THE RULE 1", came("{\"a\":1,\"b\":2,\"a\":3}", 1), "{\"a\":1,\"b\":2}");
        due("THE RULE 1, groups", came("{\"a\":[1],\"b\":2,\"a\":[3,4],\"c\":{}}", 1), "{\"a\":[1],\"b\":2,\"c\":{}}");
        due("THE RULE 2", came("{\"a\":1,\"b\":2,\"a\":3}", 2), "{\"a\":3,\"b\":2}");
        due("THE RULE 2, groups", came("{\"a\":[1,2],\"b\":2,\"a\":{\"x\":{\"a\":1,\"a\":[5]}},\"c\":0}", 2),
            "{\"a\":{\"x\":{\"a\":[5]}},\"b\":2,\"c\":0}");
        due("a KEY within another MAP", came("{\"a\":{\"a\":1}}", 0), "{\"a\":{\"a\":1}}");
        String many = "{\"a\":[" + joinedTimes("1", 49) + "],\"a\":[" + joinedTimes("1", 48) + "]";
        due("VALUES left out count, 100", came(many + "}", 1).length(), 105);
        due("VALUES left out count, 101", came(many + ",\"a\":2}", 1), "fault " + (many.length() + 5));
        due("VALUES replaced count, 101", came(many + ",\"a\":2}", 2), "fault " + (many.length() + 5));
        due("a FAULT in what is left out", came("{\"a\":1,\"a\":[1,}", 1), "fault 14");
    }

    private static void print() {
        promise = 7;
        Desk d = new Desk();
        d.read("{\"b\":[1,[],{\"d\":null,\"c\":{}}],\"a\":true,\"\":\"x\",\"ab\":-15e1,\"\\u00ff\":0,\"A\":2}");
        due("LEAST", d.print(0, 0),
            "{\"b\":[1,[],{\"d\":null,\"c\":{}}],\"a\":true,\"\":\"x\",\"ab\":-15e1,\"\\u00ff\":0,\"A\":2}");
        due("THE ONE WAY", d.print(0, 1),
            "{\"\":\"x\",\"A\":2,\"a\":true,\"ab\":-15e1,\"b\":[1,[],{\"c\":{},\"d\":null}],\"\\u00ff\":0}");
        due("INDENTS", d.print(0, 2), "{\n  \"b\": [\n    1,\n    [],\n    {\n      \"d\": null,\n      \"c\": {}\n    }\n  ],\n"
            + "  \"a\": true,\n  \"\": \"x\",\n  \"ab\": -15e1,\n  \"\\u00ff\": 0,\n  \"A\": 2\n}");
        d.read("\"\\u0000\\u001f \\\"\\\\/~\\u007f\\u0080\\u00AF\"");
        due("signs", d.least(1), "\"\\u0000\\u001f \\\"\\\\/~\\u007f\\u0080\\u00af\"");
        d.read("[]");
        due("INDENTS of an empty ROW", d.print(2, 2), "[]");
        refuses(d, "doc 3", IOOBE, () -> d.t.print(3, 0));
        refuses(d, "doc -1", IOOBE, () -> d.t.print(-1, 0));
        refuses(d, "doc ahead of way", IOOBE, () -> d.t.print(3, 3));
        refuses(d, "way 3", IAE, () -> d.t.print(0, 3));
        refuses(d, "way -1", IAE, () -> d.t.print(0, -1));
        longest();
    }

    /** The longest writing: 98 TEXTS and KEYS of signs that take six each, eleven ROWS deep. */
    private static void longest() {
        Desk d = new Desk();
        String text = "\"" + times("\\u0001", 40) + "\"";
        d.read(text);
        d.read("[]");
        for (int i = 0; i < 7; i++) {
            d.page("/-").t.put(d.t.sum(0) - 1, 0);
        }
        int parts = d.t.sum(0) - 1;
        d.read("[]");
        for (int i = 0; i < 11; i++) {
            d.page("/-").t.put(d.t.sum(0) - 1, parts);
        }
        int last = d.t.sum(0) - 1;
        String indents = d.print(last, 2);
        due("the length of INDENTS", indents.length() > 19000, true);
        due("the end of INDENTS", indents.endsWith("\\u0001\"\n  ]\n]"), true);
        due("a long one is sound", d.t.isSound(last), true);
    }

    // ---- 8 to 16

    private static String asked(Desk d, int doc, int node) {
        StringBuilder b = new StringBuilder();
        for (int what = 0; what < 10; what++) {
            b.append(what > 0 ? " " : "").append(d.t.node(doc, node, what));
        }
        return b.toString();
    }

    private static void node() {
        promise = 8;
        Desk d = new Desk();
        d.read("{\"a\":[null,true,false,-120,0,\"xyz\",[]],\"b\":{\"c\":{\"d\":[1]}},\"e\":12.5,\"f\":\"\"}");
        due("a MAP", asked(d, 0, 0), "5 4 15 4 -1 0 0 -1 -1 -1");
        due("a ROW", asked(d, 0, 1), "4 2 8 7 -1 0 0 -1 0 0");
        due("NOTHING", asked(d, 0, 2), "0 0 1 -1 -1 0 0 -1 1 0");
        due("true", asked(d, 0, 3), "1 0 1 -1 1 0 0 -1 1 1");
        due("false", asked(d, 0, 4), "1 0 1 -1 0 0 0 -1 1 2");
        due("-120", asked(d, 0, 5), "2 0 1 -1 -1 1 2 -1 1 3");
        due("0", asked(d, 0, 6), "2 0 1 -1 -1 0 1 0 1 4");
        due("a TEXT", asked(d, 0, 7), "3 0 1 3 -1 0 0 -1 1 5");
        due("an empty ROW", asked(d, 0, 8), "4 1 1 0 -1 0 0 -1 1 6");
        due("a MAP within", asked(d, 0, 9), "5 3 4 1 -1 0 0 -1 0 1");
        due("a ROW deep within", asked(d, 0, 11), "4 1 2 1 -1 0 0 -1 10 0");
        due("12.5", asked(d, 0, 13), "2 0 1 -1 -1 -1 3 1 0 2");
        refuses(d, "doc 1", IOOBE, () -> d.t.node(1, 0, 0));
        refuses(d, "node 15", IOOBE, () -> d.t.node(0, 15, 0));
        refuses(d, "node -1", IOOBE, () -> d.t.node(0, -1, 0));
        refuses(d, "node ahead of what", IOOBE, () -> d.t.node(0, 15, 10));
        refuses(d, "what 10", IAE, () -> d.t.node(0, 0, 10));
        refuses(d, "what -1", IAE, () -> d.t.node(0, 0, -1));
    }

    private static void tell() {
        promise = 9;
        Desk d = new Desk();
        d.read("{\"a~/\\u00e9\":[\"q\\\"\\n\",-120,{\"\":5,\"0\":null}]}");
        due("signs of a TEXT", d.tell(0, 2, 0), "q\"\n");
        due("DIGITS", d.tell(0, 3, 1), "-12");
        due("a KEY", d.tell(0, 1, 2), "a~/\u00e9");
        due("an empty KEY", d.tell(0, 5, 2), "");
        due("the PLAIN PATH of the whole", d.tell(0, 0, 3), "");
        due("a PLAIN PATH", d.tell(0, 4, 3), "/a~0~1\u00e9/2");
        due("a PLAIN PATH by an empty KEY", d.tell(0, 5, 3), "/a~0~1\u00e9/2/");
        due("a PLAIN PATH by a KEY like a place", d.tell(0, 6, 3), "/a~0~1\u00e9/2/0");
        refuses(d, "no TEXT", ISE, () -> d.t.tell(0, 3, 0));
        refuses(d, "no NUMBER", ISE, () -> d.t.tell(0, 2, 1));
        refuses(d, "no VALUE of a MAP", ISE, () -> d.t.tell(0, 2, 2));
        refuses(d, "the whole", ISE, () -> d.t.tell(0, 0, 2));
        refuses(d, "no node", IOOBE, () -> d.t.tell(0, 7, 4));
        refuses(d, "no doc", IOOBE, () -> d.t.tell(1, 0, 0));
        refuses(d, "what 4", IAE, () -> d.t.tell(0, 0, 4));
        refuses(d, "what -1", IAE, () -> d.t.tell(0, 0, -1));
    }

    private static boolean equal(String a, String b) {
        Desk d = new Desk();
        return d.t.equal(d.read(a), d.read(b));
    }

    private static void equal() {
        promise = 10;
        due("KEYS in another order", equal("{\"a\":1,\"b\":[{\"x\":1,\"y\":2}]}", "{\"b\":[{\"y\":2,\"x\":1}],\"a\":1}"), true);
        due("ROWS in another order", equal("[1,2]", "[2,1]"), false);
        due("numbers written otherwise", equal("1.50", "15e-1"), true);
        due("0 and -0", equal("0", "-0e5"), true);
        due("1 and -1", equal("1", "-1"), false);
        due("1 and 10", equal("1", "10"), false);
        due("TEXT and NUMBER", equal("\"1\"", "1"), false);
        due("true and false", equal("true", "false"), false);
        due("null and false", equal("null", "false"), false);
        due("empty ROW and MAP", equal("[]", "{}"), false);
        due("one KEY more", equal("{\"a\":1}", "{\"a\":1,\"b\":1}"), false);
        due("another KEY", equal("{\"a\":1}", "{\"b\":1}"), false);
        due("as many NODES in another shape", equal("[[1],2]", "[1,[2]]"), false);
        due("a shorter ROW", equal("[[1,2]]", "[[1],2]"), false);
        due("TEXTS", equal("\"ab\"", "\"a\\u0062\""), true);
        String deep = times("[{\"b\":0,\"a\":", 6);
        due("DEPTH 12", equal(deep + "1" + times("}]", 6), times("[{\"a\":", 6) + "1" + times(",\"b\":0}]", 6)), true);
        due("DEPTH 12, not", equal(deep + "1" + times("}]", 6), deep + "2" + times("}]", 6)), false);
        Desk d = new Desk();
        d.read("1");
        due("itself", d.t.equal(0, 0), true);
        refuses(d, "a 1", IOOBE, () -> d.t.equal(1, 0));
        refuses(d, "b 1", IOOBE, () -> d.t.equal(0, 1));
        refuses(d, "b -1", IOOBE, () -> d.t.equal(0, -1));
    }

    private static int compared(String a, String b) {
        Desk d = new Desk();
        return d.t.compare(d.read(a), d.read(b));
    }

    private static void compare() {
        promise = 11;
        String[] rising = {"-1e99", "-200", "-20.5", "-20", "-19.99", "-1", "-0.5", "-1e-99", "0", "1e-99", "0.09", "0.1", "0.11",
            "9", "10", "10.000000000000000000001", "11", "99", "100", "101", "123456789012345678901233", "123456789012345678901234",
            "9e98", "1e99"};
        for (int i = 0; i < rising.length; i++) {
            for (int j = 0; j < rising.length; j++) {
                due(rising[i] + " to " + rising[j], compared(rising[i], rising[j]), Integer.compare(i, j));
            }
        }
        due("0 to -0", compared("0", "-0"), 0);
        due("15e-1 to 1.50", compared("15e-1", "1.50"), 0);
        Desk d = new Desk();
        d.read("1");
        d.read("\"1\"");
        refuses(d, "a TEXT", ISE, () -> d.t.compare(1, 0));
        refuses(d, "to a TEXT", ISE, () -> d.t.compare(0, 1));
        refuses(d, "no b, a no NUMBER", IOOBE, () -> d.t.compare(1, 2));
        refuses(d, "no a", IOOBE, () -> d.t.compare(2, 0));
    }

    private static int digestOf(String s) {
        int h = 7;
        for (char c : s.toCharArray()) {
            h = (257 * h + c) % 65521;
        }
        return h;
    }

    private static void digest() {
        promise = 12;
        Desk d = new Desk();
        d.read("{\"b\":[{\"z\":\"\\u00ff\",\"y\":1}],\"a\":null}");
        due("the whole", d.t.digest(0, 0), digestOf("{\"a\":null,\"b\":[{\"y\":1,\"z\":\"\\u00ff\"}]}"));
        due("a NODE", d.t.digest(0, 2), digestOf("{\"y\":1,\"z\":\"\\u00ff\"}"));
        due("a NUMBER", d.t.digest(0, 4), (7 * 257 + '1') % 65521);
        due("THE PAPER", d.t.sum(2), 0);
        refuses(d, "no doc", IOOBE, () -> d.t.digest(1, 0));
        refuses(d, "no node", IOOBE, () -> d.t.digest(0, 6));
        refuses(d, "node -1", IOOBE, () -> d.t.digest(0, -1));
    }

    private static void take() {
        promise = 13;
        Desk d = new Desk();
        d.read("{\"b\":[{\"z\":\"x\",\"y\":[1,2]}],\"a\":null}");
        due("a MAP", d.t.take(0, 2), 1);
        due("what came", d.least(1), "{\"z\":\"x\",\"y\":[1,2]}");
        due("the whole", d.t.take(0, 0), 2);
        due("it is the same", d.t.equal(0, 2), true);
        d.t.take(0, 3);
        due("a TEXT", d.least(3), "\"x\"");
        refuses(d, "it has no KEY", ISE, () -> d.t.tell(3, 0, 2));
        refuses(d, "no node", IOOBE, () -> d.t.take(0, 8));
        refuses(d, "no doc", IOOBE, () -> d.t.take(4, 0));
        d.fill();
        refuses(d, "the 41st", ISE, () -> d.t.take(0, 0));
        refuses(d, "no node, of 40", IOOBE, () -> d.t.take(0, 8));
    }

    private static void sorted() {
        promise = 14;
        Desk d = new Desk();
        d.read("{\"b\":[{\"z\":1,\"y\":{\"d\":1,\"c\":2}},2,1],\"ab\":0,\"a\":null,\"\":1}");
        due("its number", d.t.sorted(0), 1);
        due("what came", d.least(1), "{\"\":1,\"a\":null,\"ab\":0,\"b\":[{\"y\":{\"c\":2,\"d\":1},\"z\":1},2,1]}");
        due("EQUAL", d.t.equal(0, 1), true);
        due("the one as it was", d.t.node(0, 1, 0), 4);
        d.read("5");
        d.t.sorted(2);
        due("a NUMBER", d.least(3), "5");
        d.read(times("[{\"b\":0,\"a\":", 6) + "1" + times("}]", 6));
        d.t.sorted(4);
        due("DEPTH 12", d.least(5), times("[{\"a\":", 6) + "1" + times(",\"b\":0}]", 6));
        refuses(d, "no doc", IOOBE, () -> d.t.sorted(6));
        d.fill();
        refuses(d, "the 41st", ISE, () -> d.t.sorted(0));
        refuses(d, "no doc, of 40", IOOBE, () -> d.t.sorted(40));
    }

    private static void both() {
        promise = 15;
        Desk d = new Desk();
        d.read("{\"a\":1}");
        d.read("[2]");
        due("its number", d.t.both(0, 1), 2);
        due("what came", d.least(2), "[{\"a\":1},[2]]");
        d.t.both(1, 1);
        due("twice the same", d.least(3), "[[2],[2]]");
        d.read(times("[", 12) + times("]", 12));
        refuses(d, "DEPTH 13", ISE, () -> d.t.both(0, 4));
        d.read(times("[", 11) + times("]", 11));
        due("DEPTH 12", d.t.both(5, 0), 6);
        d.read("[" + joinedTimes("1", 49) + "]");
        d.read("[" + joinedTimes("1", 48) + "]");
        due("100 NODES", d.t.node(d.t.both(7, 8), 0, 2), 100);
        refuses(d, "101 NODES", ISE, () -> d.t.both(7, 7));
        refuses(d, "no a", IOOBE, () -> d.t.both(99, 0));
        refuses(d, "no b", IOOBE, () -> d.t.both(0, 10));
        d.fill();
        refuses(d, "the 41st", ISE, () -> d.t.both(0, 0));
        refuses(d, "no b, of 40", IOOBE, () -> d.t.both(0, 40));
    }

    private static void undo() {
        promise = 16;
        Desk d = new Desk();
        refuses(d, "none", ISE, () -> d.t.undo());
        d.read("[1]");
        d.read("{\"a\":[1,2]}");
        d.finds(1, "/**");
        int schema = d.read("false");
        d.t.check(schema, 1);
        d.t.join(0, 1, 2);
        due("left", d.t.undo(), 2);
        due("left", d.t.undo(), 1);
        due("FINDS, COMPLAINTS, QUARRELS stay", d.t.sum(4) + " " + d.t.sum(5) + " " + d.t.quarrels(), "4 1 1");
        due("a FIND stays", d.t.find(3), 3);
        refuses(d, "it is no more", IOOBE, () -> d.t.print(1, 0));
        due("a new one takes its number", d.read("7"), 1);
        due("and is as it was read", d.least(1), "7");
        d.t.undo();
        due("left", d.t.undo(), 0);
        refuses(d, "none left", ISE, () -> d.t.undo());
    }

    // ---- 17 to 23

    private static void select() {
        promise = 17;
        Desk d = new Desk();
        // 0 whole, 1 a, 2..4 its VALUES, 5 b, 6 c, 7 d, 8 *, 9 a/b, 10 ~, 11 empty, 12 ?x, 13 -1
        d.read("{\"a\":[1,\"x\",2],\"b\":{\"c\":{\"d\":1}},\"*\":3,\"a/b\":4,\"~\":5,\"\":6,\"?x\":7,\"-1\":8}");
        due("the whole", d.finds(0, ""), "0");
        due("a KEY", d.finds(0, "/b"), "5");
        due("KEYS", d.finds(0, "/b/c/d"), "7");
        due("no KEY", d.finds(0, "/x"), "");
        due("a place", d.finds(0, "/a/1"), "3");
        due("place 3", d.finds(0, "/a/3"), "");
        due("place 01", d.finds(0, "/a/01"), "");
        due("place 00", d.finds(0, "/a/00"), "");
        due("a place that is far too great", d.finds(0, "/a/4294967296"), "");
        due("the last one", d.finds(0, "/a/-1"), "4");
        due("the first one from the end", d.finds(0, "/a/-3"), "2");
        due("-4", d.finds(0, "/a/-4"), "");
        due("-0", d.finds(0, "/a/-0"), "");
        due("-01", d.finds(0, "/a/-01"), "");
        due("-", d.finds(0, "/a/-"), "");
        due("-1 of a MAP", d.finds(0, "/-1"), "13");
        due("a place of a MAP", d.finds(0, "/0"), "");
        due("of a NUMBER", d.finds(0, "/a/0/0"), "");
        due("*", d.finds(0, "/*"), "1 5 8 9 10 11 12 13");
        due("* of a ROW", d.finds(0, "/a/*"), "2 3 4");
        due("* of a TEXT", d.finds(0, "/a/1/*"), "");
        due("**", d.finds(0, "/**"), "0 1 2 3 4 5 6 7 8 9 10 11 12 13");
        due("** within", d.finds(0, "/b/**"), "5 6 7");
        due("each but once", d.finds(0, "/**/**"), "0 1 2 3 4 5 6 7 8 9 10 11 12 13");
        due("the first time that it is met", d.finds(0, "/**/*"), "1 5 8 9 10 11 12 13 2 3 4 6 7");
        due("~1", d.finds(0, "/a~1b"), "9");
        due("~0", d.finds(0, "/~0"), "10");
        due("an empty WORD", d.finds(0, "/"), "11");
        due("? without =", d.finds(0, "/?x"), "");
        d.page("/a");
        due("how many", d.t.select(0), 1);
        due("THE PAGE", d.t.sum(1), 0);
        matches();
        for (String no : new String[] {"a", "~", "/~", "/~2", "/a~/b", " /a", "/a/~"}) {
            d.page(no);
            refuses(d, "no PATH " + no, ISE, () -> d.t.select(0));
        }
        refuses(d, "no doc ahead of no PATH", IOOBE, () -> d.t.select(1));
        refuses(d, "doc -1", IOOBE, () -> d.t.select(-1));
        due("THE PAGE stays", d.t.sum(1), 4);
        due("FINDS stay", d.t.find(0), 1);
    }

    private static void matches() {
        Desk d = new Desk();
        // 0 whole, 1 {a:1}, 3 {a:"1"}, 5 {a:[1,2]}, 9 [..], 11 {a:10}, 13 {~=:"/"}, 15 5
        d.read("[{\"a\":1},{\"a\":\"1\"},{\"a\":[1,2]},[{\"a\":1}],{\"a\":10},{\"~\":\"/\",\"\":true},5]");
        due("a NUMBER", d.finds(0, "/?a=1"), "1");
        due("a TEXT", d.finds(0, "/?a=\"1\""), "3");
        due("a ROW", d.finds(0, "/?a=[1,2]"), "5");
        due("by LEAST", d.finds(0, "/?a=1e1"), "12");
        due("not by another writing", d.finds(0, "/?a=10"), "");
        due("within", d.finds(0, "/**/?a=1"), "1 10");
        due("~0 and ~1", d.finds(0, "/?~0=\"~1\""), "14");
        due("an empty KEY", d.finds(0, "/?=true"), "14");
        due("then a KEY", d.finds(0, "/?a=[1,2]/a/-1"), "8");
        due("a longer v", d.finds(0, "/?a=1,"), "");
        due("an empty v", d.finds(0, "/?a="), "");
        d.read("{\"p\":{\"x\":\"=\"},\"q\":{\"x\":2}}");
        due("of a MAP, the first =", d.finds(1, "/?x=\"=\""), "1");
        due("VALUES of VALUES of a MAP", d.finds(1, "/?x=2/x"), "4");
        due("no MAPS in it", d.finds(1, "/p/?x=2"), "");
    }

    private static void find() {
        promise = 18;
        Desk d = new Desk();
        d.read("[1,[2]]");
        d.finds(0, "/**");
        due("the first", d.t.find(0), 0);
        due("the last", d.t.find(3), 3);
        refuses(d, "one more", IOOBE, () -> d.t.find(4));
        refuses(d, "-1", IOOBE, () -> d.t.find(-1));
        d.finds(0, "/9");
        refuses(d, "none", IOOBE, () -> d.t.find(0));
    }

    /** What comes by PUT on a new object. */
    private static String putIn(String doc, String path, String value) {
        Desk d = new Desk();
        int a = d.read(doc);
        int b = d.read(value);
        d.page(path);
        String before = d.state();
        try {
            int n = d.t.put(a, b);
            due("THE PAGE behind put", d.t.sum(1), 0);
            due("it is as it was", d.least(a).equals(doc), true);
            return n == 2 ? d.least(n) : "number " + n;
        } catch (IllegalStateException e) {
            due("put changes nothing", d.state(), before);
            return "refused";
        }
    }

    private static void put() {
        promise = 19;
        due("the whole", putIn("[1]", "", "{}"), "{}");
        due("a new KEY", putIn("{\"b\":1,\"c\":{}}", "/a", "[2]"), "{\"b\":1,\"c\":{},\"a\":[2]}");
        due("a KEY in its place", putIn("{\"b\":[1,2,3],\"c\":{}}", "/b", "{\"x\":1}"), "{\"b\":{\"x\":1},\"c\":{}}");
        due("a KEY in its place, greater", putIn("{\"b\":0,\"c\":9}", "/b", "[1,[2]]"), "{\"b\":[1,[2]],\"c\":9}");
        due("within", putIn("{\"b\":[{\"c\":1},2]}", "/b/0/d", "3"), "{\"b\":[{\"c\":1,\"d\":3},2]}");
        due("a place", putIn("[1,2]", "/1", "[]"), "[1,[],2]");
        due("the first place", putIn("[1,2]", "/0", "[]"), "[[],1,2]");
        due("the place behind", putIn("[1,2]", "/2", "[]"), "[1,2,[]]");
        due("-", putIn("[1,[2]]", "/-", "[]"), "[1,[2],[]]");
        due("- within", putIn("[1,[2],3]", "/1/-", "[]"), "[1,[2,[]],3]");
        due("- of an empty ROW", putIn("[]", "/-", "1"), "[1]");
        due("- as a KEY", putIn("{}", "/-", "1"), "{\"-\":1}");
        due("* as a KEY", putIn("{\"a\":1}", "/*", "1"), "{\"a\":1,\"*\":1}");
        due("** as a KEY", putIn("{\"**\":{}}", "/**/?a=1", "1"), "{\"**\":{\"?a=1\":1}}");
        due("~0 and ~1", putIn("{}", "/~0~1~01", "1"), "{\"~/~1\":1}");
        due("an empty KEY", putIn("{}", "/", "1"), "{\"\":1}");
        due("a KEY of 12", putIn("{}", "/123456789012", "1"), "{\"123456789012\":1}");
        due("a KEY of 12 by ~", putIn("{}", "/~012345678901", "1"), "{\"~12345678901\":1}");
        due("a KEY of 13", putIn("{}", "/1234567890123", "1"), "refused");
        due("place 3 of 2", putIn("[1,2]", "/3", "1"), "refused");
        due("place 01", putIn("[1,2]", "/01", "1"), "refused");
        due("place -1", putIn("[1,2]", "/-1", "1"), "refused");
        due("a KEY of a ROW", putIn("[1,2]", "/a", "1"), "refused");
        due("an empty WORD of a ROW", putIn("[1,2]", "/", "1"), "refused");
        due("* of a ROW", putIn("[1,2]", "/*", "1"), "refused");
        due("into a NUMBER", putIn("[1,2]", "/0/0", "1"), "refused");
        due("into a TEXT", putIn("\"ab\"", "/0", "1"), "refused");
        due("by nothing", putIn("{\"a\":{}}", "/b/c", "1"), "refused");
        due("by -", putIn("[[]]", "/-/0", "1"), "refused");
        due("by *", putIn("{\"a\":{}}", "/*/c", "1"), "refused");
        due("no PATH", putIn("{}", "a", "1"), "refused");
        due("no PATH ~", putIn("{}", "/~", "1"), "refused");
        String full = "[" + joinedTimes("1", 98) + "]";
        due("100 NODES", putIn(full, "/0", "2").length(), full.length() + 2);
        due("101 NODES", putIn(full, "/0", "[2]"), "refused");
        due("101 NODES but for those that go", putIn("{\"a\":" + full + "}", "/a", full).length(), full.length() + 6);
        String deep = times("[", 11) + times("]", 11);
        due("DEPTH 12", putIn("{}", "/a", deep), "{\"a\":" + deep + "}");
        due("DEPTH 13", putIn("{\"b\":{}}", "/b/a", deep), "refused");
        Desk d = new Desk();
        d.read("[1]");
        d.page("/0");
        refuses(d, "no doc", IOOBE, () -> d.t.put(1, 0));
        refuses(d, "no value", IOOBE, () -> d.t.put(0, 1));
        due("into itself", d.least(d.t.put(0, 0)), "[[1],1]");
        d.fill();
        d.page("/0");
        refuses(d, "the 41st", ISE, () -> d.t.put(0, 0));
        refuses(d, "no value, of 40", IOOBE, () -> d.t.put(0, 40));
        due("THE PAGE stays", d.t.wipe(), 2);
    }

    private static String cutOf(String doc, String path) {
        Desk d = new Desk();
        int a = d.read(doc);
        d.page(path);
        String before = d.state();
        try {
            int n = d.t.cut(a);
            due("THE PAGE behind cut", d.t.sum(1), 0);
            due("it is as it was", d.least(a).equals(doc), true);
            return d.least(n);
        } catch (IllegalStateException e) {
            due("cut changes nothing", d.state(), before);
            return "refused";
        }
    }

    private static void cut() {
        promise = 20;
        due("a KEY", cutOf("{\"a\":[1,{}],\"b\":2}", "/a"), "{\"b\":2}");
        due("the only KEY", cutOf("{\"a\":[1]}", "/a"), "{}");
        due("a place", cutOf("[1,[2,3],4]", "/1"), "[1,4]");
        due("within", cutOf("[1,[2,{\"x\":[5]}],4]", "/1/1/x"), "[1,[2,{}],4]");
        due("the last", cutOf("[1,[2,3],4]", "/2"), "[1,[2,3]]");
        due("* as a KEY", cutOf("{\"a\":1,\"*\":2}", "/*"), "{\"a\":1}");
        due("-1 as a KEY", cutOf("{\"-1\":1}", "/-1"), "{}");
        due("the whole", cutOf("[1]", ""), "refused");
        due("-1", cutOf("[1]", "/-1"), "refused");
        due("-", cutOf("[1]", "/-"), "refused");
        due("place 1 of 1", cutOf("[1]", "/1"), "refused");
        due("no KEY", cutOf("{\"a\":1}", "/b"), "refused");
        due("of a NUMBER", cutOf("{\"a\":1}", "/a/0"), "refused");
        due("no PATH", cutOf("{\"a\":1}", "/a~"), "refused");
        due("no PATH a", cutOf("{\"a\":1}", "a"), "refused");
        Desk d = new Desk();
        d.read("[1]");
        d.page("/0");
        refuses(d, "no doc", IOOBE, () -> d.t.cut(1));
        d.fill();
        d.page("/0");
        refuses(d, "the 41st", ISE, () -> d.t.cut(0));
        refuses(d, "no doc, of 40", IOOBE, () -> d.t.cut(40));
        due("THE PAGE stays", d.t.wipe(), 2);
    }

    private static String laid(String doc, String patch) {
        Desk d = new Desk();
        int a = d.read(doc);
        int b = d.read(patch);
        int n = d.t.lay(a, b);
        due("DOCUMENTS behind lay of " + patch, d.t.sum(0), n < 0 ? 2 : 3);
        return n < 0 ? "" + n : d.least(n);
    }

    private static String order(String op, String path, String more) {
        return "{\"op\":\"" + op + "\",\"path\":\"" + path + "\"" + more + "}";
    }

    private static String valued(String op, String path, String value) {
        return order(op, path, ",\"value\":" + value);
    }

    private static String from(String op, String path, String from) {
        return order(op, path, ",\"from\":\"" + from + "\"");
    }

    private static void lay() {
        promise = 21;
        String doc = "{\"a\":[1,2],\"b\":{\"c\":3}}";
        due("no ORDER", laid(doc, "[]"), doc);
        due("add", laid(doc, "[" + valued("add", "/a/-", "[5]") + "]"), "{\"a\":[1,2,[5]],\"b\":{\"c\":3}}");
        due("add a KEY", laid(doc, "[" + valued("add", "/b/d", "4") + "]"), "{\"a\":[1,2],\"b\":{\"c\":3,\"d\":4}}");
        due("add the whole", laid(doc, "[" + valued("add", "", "4") + "]"), "4");
        due("remove", laid(doc, "[" + order("remove", "/a/0", "") + "]"), "{\"a\":[2],\"b\":{\"c\":3}}");
        due("replace", laid(doc, "[" + valued("replace", "/a", "{\"x\":1}") + "]"), "{\"a\":{\"x\":1},\"b\":{\"c\":3}}");
        due("replace the whole", laid(doc, "[" + valued("replace", "", "[]") + "]"), "[]");
        due("move", laid(doc, "[" + from("move", "/b/x", "/a/1") + "]"), "{\"a\":[1],\"b\":{\"c\":3,\"x\":2}}");
        due("move to itself", laid(doc, "[" + from("move", "/a", "/a") + "]"), "{\"b\":{\"c\":3},\"a\":[1,2]}");
        due("move to the whole", laid(doc, "[" + from("move", "", "/a") + "]"), "[1,2]");
        due("copy", laid(doc, "[" + from("copy", "/b/x", "/a") + "]"), "{\"a\":[1,2],\"b\":{\"c\":3,\"x\":[1,2]}}");
        due("copy the whole", laid("[1]", "[" + from("copy", "/0", "") + "]"), "[[1],1]");
        due("test", laid(doc, "[" + valued("test", "/b", "{\"c\":3e0}") + "]"), doc);
        due("several", laid(doc, "[" + order("remove", "/b", "") + "," + valued("add", "/a/0", "0") + ","
            + valued("test", "", "{\"a\":[0,1,2]}") + "]"), "{\"a\":[0,1,2]}");
        due("other KEYS", laid(doc, "[" + order("remove", "/b", ",\"value\":1,\"x\":[]") + "]"), "{\"a\":[1,2]}");
        layRefuses(doc);
        Desk d = new Desk();
        d.read("{}");
        d.read("[]");
        d.read("[1]");
        due("no ROW", d.t.lay(1, 0), -1);
        refuses(d, "no doc", IOOBE, () -> d.t.lay(3, 0));
        refuses(d, "no patch", IOOBE, () -> d.t.lay(0, 3));
        d.fill();
        refuses(d, "the 41st", ISE, () -> d.t.lay(0, 1));
        due("no ROW, of 40", d.t.lay(0, 0), -1);
        due("an ORDER that cannot be, of 40", d.t.lay(0, 2), -2);
    }

    private static void layRefuses(String doc) {
        String ok = order("remove", "/b", "");
        String[] bad = {"1", "[]", "{}", "{\"op\":\"remove\"}", "{\"path\":\"/a\"}", "{\"op\":1,\"path\":\"/a\"}",
            "{\"op\":\"remove\",\"path\":1}", order("remove", "a", ""), order("remove", "/~", ""), order("remov", "/a", ""),
            order("remove", "", ""), order("remove", "/x", ""), order("remove", "/a/-", ""), order("add", "/x", ""),
            valued("add", "/a/9", "1"), valued("add", "/x/y", "1"), order("replace", "/a", ""), valued("replace", "/x", "1"),
            valued("replace", "/a/2", "1"), valued("replace", "/a/-", "1"), order("test", "/a", ""), valued("test", "/a", "[1]"),
            valued("test", "/x", "1"), order("move", "/x", ""), from("move", "/x", "/y"), from("move", "/x", ""),
            from("move", "/a/0", "/a"), from("move", "/x", "a"), order("copy", "/x", ""), from("copy", "/x", "/y"),
            order("copy", "/x", ",\"from\":1"), valued("add", "/1234567890123", "1"), from("copy", "/a/-/0", "/b")};
        for (String o : bad) {
            due("refused at first: " + o, laid(doc, "[" + o + "," + ok + "]"), "-2");
            due("refused then: " + o, laid(doc.replace("}}", "},\"z\":0}"), "[" + order("remove", "/z", "") + ","
                + valued("test", "/a", "[1,2]") + "," + o + "]"), "-4");
        }
        String ten = "[" + joinedTimes("1", 10) + "]";
        String row = "[" + joinedTimes(ten, 4) + "]";
        due("no DOCUMENT on the way", laid(row, "[" + from("copy", "/-", "") + "," + from("copy", "/-", "") + ","
            + order("remove", "/0", "") + "," + order("remove", "/0", "") + "]"), "-3");
        due("100 NODES on the way", laid("[" + joinedTimes("1", 98) + "]", "[" + valued("add", "/0", "2") + ","
            + order("remove", "/0", "") + "," + valued("add", "/0", "[]") + "," + valued("add", "/0/-", "2") + "]"), "-5");
        String deep = times("[", 7) + times("]", 7);
        due("DEPTH 13 on the way", laid(deep, "[" + from("copy", times("/0", 5) + "/0", "") + "," + order("remove", "/0", "") + "]"),
            "-2");
        due("DEPTH 12 on the way", laid(deep, "[" + from("copy", times("/0", 4) + "/0", "") + "]").length() > 20, true);
    }

    private static String patched(String a, String b) {
        Desk d = new Desk();
        int one = d.read(a);
        int other = d.read(b);
        int p = d.t.patch(one, other);
        String text = d.least(p);
        int laid = d.t.lay(one, p);
        due("the PATCH from " + a + " to " + b + " laid", laid >= 0 && d.t.equal(laid, other), true);
        int back = d.t.turn(one, p);
        due("the PATCH from " + a + " to " + b + " turned", d.t.equal(d.t.lay(laid, back), one), true);
        return text;
    }

    private static void patch() {
        promise = 22;
        due("EQUAL", patched("{\"a\":1,\"b\":2}", "{\"b\":2,\"a\":1}"), "[]");
        due("replace", patched("1", "[2]"), "[" + valued("replace", "", "[2]") + "]");
        due("ROW to MAP", patched("{\"a\":[]}", "{\"a\":{}}"), "[" + valued("replace", "/a", "{}") + "]");
        due("MAPS", patched("{\"x\":1,\"b\":{\"c\":1,\"d\":2},\"y\":1,\"a\":0}", "{\"n\":1,\"a\":5,\"b\":{\"e\":7,\"d\":2},\"m\":2}"), "["
            + order("remove", "/x", "") + "," + order("remove", "/y", "") + "," + order("remove", "/b/c", "") + ","
            + valued("add", "/b/e", "7") + "," + valued("replace", "/a", "5") + "," + valued("add", "/n", "1") + ","
            + valued("add", "/m", "2") + "]");
        due("KEYS with ~ and /", patched("{\"~\":1}", "{\"/\":2}"), "[" + order("remove", "/~0", "") + "," + valued("add", "/~1", "2") + "]");
        due("ROWS", patched("[1,2,3,4]", "[2,5,4,6]"), "[" + order("remove", "/2", "") + "," + order("remove", "/0", "") + ","
            + valued("add", "/1", "5") + "," + valued("add", "/3", "6") + "]");
        due("that of a is left out first", patched("[1,2]", "[2,1]"), "[" + order("remove", "/0", "") + "," + valued("add", "/1", "1") + "]");
        due("pairs from the first ones on", patched("[1,2,1]", "[1]"), "[" + order("remove", "/2", "") + "," + order("remove", "/1", "") + "]");
        due("all of b is new", patched("[]", "[1,[2]]"), "[" + valued("add", "/0", "1") + "," + valued("add", "/1", "[2]") + "]");
        due("VALUES of ROWS are not gone into", patched("[[1,2]]", "[[1]]"), "[" + order("remove", "/0", "") + "," + valued("add", "/0", "[1]") + "]");
        due("that of b is left out", patched("[1,2,3]", "[4,1,2,3]"), "[" + valued("add", "/0", "4") + "]");
        String deep = times("{\"a\":", 12);
        due("DEPTH 12", patched(deep + "1" + times("}", 12), deep + "2" + times("}", 12)),
            "[" + valued("replace", times("/a", 12), "2") + "]");
        Desk d = new Desk();
        String key = "123456789012";
        // A PATH of 40 signs, and of 41.
        d.read("{\"" + key + "\":{\"" + key + "\":{\"" + key + "\":1}}}");
        d.read("{\"" + key + "\":{\"" + key + "\":{\"" + key + "\":2}}}");
        due("39 signs", d.least(d.t.patch(0, 1)), "[" + valued("replace", "/" + key + "/" + key + "/" + key, "2") + "]");
        d.read("{\"" + key + "\":{\"" + key + "\":{\"/23456789012\":{}}}}");
        d.read("{\"" + key + "\":{\"" + key + "\":{\"/23456789012\":[]}}}");
        due("40 signs", d.t.patch(3, 4), 5);
        d.read("{\"" + key + "\":{\"" + key + "\":{\"/~3456789012\":{}}}}");
        d.read("{\"" + key + "\":{\"" + key + "\":{\"/~3456789012\":[]}}}");
        refuses(d, "41 signs", ISE, () -> d.t.patch(6, 7));
        due("41 signs, but EQUAL", d.least(d.t.patch(6, 6)), "[]");
        d.read("[" + joinedTimes("1", 33) + "]");
        d.read("[" + joinedTimes("2", 20) + "]");
        d.read("[]");
        refuses(d, "too many NODES", ISE, () -> d.t.patch(9, 10));
        due("33 removed", d.t.node(d.t.patch(9, 11), 0, 2), 100);
        d.read(times("[", 11) + times("]", 11));
        refuses(d, "too deep", ISE, () -> d.t.patch(0, 13));
        refuses(d, "no a", IOOBE, () -> d.t.patch(14, 0));
        refuses(d, "no b", IOOBE, () -> d.t.patch(0, 14));
        d.fill();
        refuses(d, "the 41st", ISE, () -> d.t.patch(0, 1));
        refuses(d, "no b, of 40", IOOBE, () -> d.t.patch(0, 40));
    }

    private static String turned(String doc, String patch) {
        Desk d = new Desk();
        int a = d.read(doc);
        int p = d.read(patch);
        String before = d.state();
        int back;
        try {
            back = d.t.turn(a, p);
        } catch (IllegalStateException e) {
            due("turn changes nothing", d.state(), before);
            return "refused";
        }
        String text = d.least(back);
        int laid = d.t.lay(a, p);
        due("turned " + patch + " leads back", d.t.equal(d.t.lay(laid, back), a), true);
        return text;
    }

    private static void turn() {
        promise = 23;
        String doc = "{\"a\":[1,2],\"b\":3}";
        due("none", turned(doc, "[]"), "[]");
        due("test", turned(doc, "[" + valued("test", "/b", "3.0") + "]"), "[" + valued("test", "/b", "3") + "]");
        due("add a KEY", turned(doc, "[" + valued("add", "/c", "3") + "]"), "[" + order("remove", "/c", "") + "]");
        due("add a KEY that is there", turned(doc, "[" + valued("add", "/b", "4") + "]"), "[" + valued("replace", "/b", "3") + "]");
        due("add the whole", turned(doc, "[" + valued("add", "", "4") + "]"), "[" + valued("replace", "", doc) + "]");
        due("add to a ROW", turned(doc, "[" + valued("add", "/a/1", "4") + "]"), "[" + order("remove", "/a/1", "") + "]");
        due("add by -", turned(doc, "[" + valued("add", "/a/-", "4") + "]"), "[" + order("remove", "/a/2", "") + "]");
        due("add the KEY -", turned(doc, "[" + valued("add", "/-", "4") + "]"), "[" + order("remove", "/-", "") + "]");
        due("copy", turned(doc, "[" + from("copy", "/b", "/a") + "]"), "[" + valued("replace", "/b", "3") + "]");
        due("copy by -", turned(doc, "[" + from("copy", "/a/-", "/b") + "]"), "[" + order("remove", "/a/2", "") + "]");
        due("remove", turned(doc, "[" + order("remove", "/a/0", "") + "]"), "[" + valued("add", "/a/0", "1") + "]");
        due("replace", turned(doc, "[" + valued("replace", "/a", "0") + "]"), "[" + valued("replace", "/a", "[1,2]") + "]");
        due("move", turned(doc, "[" + from("move", "/a/-", "/b") + "]"), "[" + order("remove", "/a/2", "") + "," + valued("add", "/b", "3") + "]");
        due("move over a KEY", turned(doc, "[" + from("move", "/b", "/a/0") + "]"),
            "[" + valued("replace", "/b", "3") + "," + valued("add", "/a/0", "1") + "]");
        due("move within a ROW", turned(doc, "[" + from("move", "/a/-", "/a/0") + "]"),
            "[" + order("remove", "/a/1", "") + "," + valued("add", "/a/0", "1") + "]");
        due("move to the whole", turned(doc, "[" + from("move", "", "/b") + "]"),
            "[" + valued("replace", "", "{\"a\":[1,2]}") + "," + valued("add", "/b", "3") + "]");
        due("several, the last one first", turned(doc, "[" + order("remove", "/b", "") + "," + valued("add", "/b", "5") + ","
            + valued("replace", "/b", "6") + "," + valued("test", "/b", "6") + "]"), "[" + valued("test", "/b", "6") + ","
            + valued("replace", "/b", "5") + "," + order("remove", "/b", "") + "," + valued("add", "/b", "3") + "]");
        due("cannot be laid", turned(doc, "[" + order("remove", "/x", "") + "]"), "refused");
        due("cannot be laid at last", turned(doc, "[" + order("remove", "/b", "") + "," + order("remove", "/b", "") + "]"), "refused");
        due("no ROW", turned(doc, "{}"), "refused");
        String key = "123456789012";
        String deep = "{\"" + key + "\":{\"" + key + "\":{\"12345678901\":[";
        String path = "/" + key + "/" + key + "/12345678901/-";
        due("40 signs", turned(deep + "]}}}", "[" + valued("add", path, "0") + "]"),
            "[" + order("remove", path.replace("-", "0"), "") + "]");
        due("41 signs by a figure more", turned(deep + joinedTimes("1", 10) + "]}}}", "[" + valued("add", path, "0") + "]"), "refused");
        due("a TEXT that is no PATH of 40", turned("\"" + times("x", 40) + "\"", "[" + valued("add", "", "0") + "]"),
            "[" + valued("replace", "", "\"" + times("x", 40) + "\"") + "]");
        due("too many NODES", turned("[" + joinedTimes("1", 96) + "]", "[" + valued("replace", "", "0") + "]"), "refused");
        due("100 NODES", turned("[" + joinedTimes("1", 95) + "]", "[" + valued("replace", "", "0") + "]").length() > 190, true);
        due("too deep", turned(times("[", 11) + times("]", 11), "[" + valued("replace", "", "0") + "]"), "refused");
        Desk d = new Desk();
        d.read("[]");
        refuses(d, "no doc", IOOBE, () -> d.t.turn(1, 0));
        refuses(d, "no patch", IOOBE, () -> d.t.turn(0, 1));
        d.fill();
        refuses(d, "the 41st", ISE, () -> d.t.turn(0, 0));
        refuses(d, "no patch, of 40", IOOBE, () -> d.t.turn(0, 40));
    }

    // ---- 24 to 26

    private static String joined(String o, String a, String b) {
        Desk d = new Desk();
        int n = d.t.join(d.read(o), d.read(a), d.read(b));
        StringBuilder s = new StringBuilder(n < 0 ? "" + n : d.least(n));
        for (int k = 0; k < d.t.quarrels(); k++) {
            int length = d.t.quarrel(k);
            String path = d.paper();
            s.append(" <").append(length == path.length() ? path : "length").append('>');
        }
        return s.toString();
    }

    private static void join() {
        promise = 24;
        due("all the same", joined("1", "1", "1"), "1");
        due("b is new", joined("1", "1", "[2]"), "[2]");
        due("a is new", joined("1", "[2]", "1"), "[2]");
        due("both are the same new", joined("1", "{\"x\":1,\"y\":2}", "{\"y\":2,\"x\":1}"), "{\"x\":1,\"y\":2}");
        due("a QUARREL at the whole", joined("1", "2", "3"), "-1 <>");
        due("KEYS", joined("{\"a\":1,\"b\":2,\"c\":3}", "{\"x\":7,\"c\":3,\"b\":5,\"a\":1}", "{\"y\":8,\"a\":4,\"b\":2}"),
            "{\"a\":4,\"b\":5,\"x\":7,\"y\":8}");
        due("taken out by both", joined("{\"a\":1,\"b\":2}", "{\"b\":2}", "{\"b\":3}"), "{\"b\":3}");
        due("taken out, changed", joined("{\"a\":1}", "{}", "{\"a\":2}"), "-1 </a>");
        due("changed, taken out", joined("{\"a\":1,\"b\":0}", "{\"a\":2,\"b\":0}", "{\"b\":0}"), "-1 </a>");
        due("an empty MAP", joined("{\"a\":1,\"b\":2}", "{\"a\":1}", "{\"b\":2}"), "{}");
        due("MAPS over none", joined("{}", "{\"a\":{\"x\":1}}", "{\"a\":{\"y\":2}}"), "{\"a\":{\"x\":1,\"y\":2}}");
        due("MAPS over no MAP", joined("{\"a\":1}", "{\"a\":{\"x\":1}}", "{\"a\":{\"y\":2}}"), "-1 </a>");
        due("ROWS", joined("[1]", "[1,2]", "[0,1]"), "-1 <>");
        due("a is o, but for the order of KEYS", joined("{\"a\":1,\"b\":2}", "{\"b\":2,\"a\":1}", "{\"b\":2,\"a\":1,\"c\":[]}"),
            "{\"b\":2,\"a\":1,\"c\":[]}");
        due("QUARRELS in order", joined("{\"c\":0,\"d\":{\"e~\":0}}", "{\"d\":{\"e~\":1},\"n/\":1,\"c\":1}", "{\"n/\":2,\"c\":2,\"d\":{\"e~\":2}}"),
            "-1 </c> </d/e~0> </n~1>");
        String deep = times("{\"a\":", 12);
        String ends = times("}", 11);
        due("DEPTH 12", joined(deep + "0}" + ends, deep + "0,\"x\":1}" + ends, deep + "2}" + ends), deep + "2,\"x\":1}" + ends);
        due("DEPTH 12, a QUARREL", joined(deep + "0}" + ends, deep + "1}" + ends, deep + "2}" + ends), "-1 <" + times("/a", 12) + ">");
        due("DEPTH 12 over none", joined("{}", deep + "0}" + ends, deep.substring(5, 60) + "{\"b\":0}" + ends).length(),
            (deep + "0,\"b\":0}" + ends).length());
        Desk d = new Desk();
        d.read("{\"a\":0}");
        d.read("{\"a\":1}");
        d.read("{\"a\":2}");
        due("NONE", d.t.join(0, 1, 2), -1);
        due("nothing came", d.t.sum(0), 3);
        d.read("{\"x\":[" + joinedTimes("1", 50) + "]}");
        d.read("{\"y\":[" + joinedTimes("1", 50) + "]}");
        d.read("{}");
        refuses(d, "too many NODES (and QUARRELS stay)", ISE, () -> d.t.join(5, 3, 4));
        due("the QUARREL stays", d.t.quarrel(0), 2);
        due("with a QUARREL, whatever its size", d.t.join(0, d.read("{\"a\":1,\"x\":[" + joinedTimes("1", 60) + "]}"),
            d.read("{\"a\":2,\"y\":[" + joinedTimes("1", 60) + "]}")), -1);
        due("it comes", d.t.join(0, 0, 2), 8);
        due("no QUARREL then", d.t.quarrels(), 0);
        refuses(d, "no o", IOOBE, () -> d.t.join(9, 0, 0));
        refuses(d, "no a", IOOBE, () -> d.t.join(0, 9, 0));
        refuses(d, "no b", IOOBE, () -> d.t.join(0, 0, 9));
        d.fill();
        refuses(d, "the 41st", ISE, () -> d.t.join(0, 0, 0));
        due("QUARRELS, of 40", d.t.join(0, 1, 2), -1);
        refuses(d, "no b, of 40", IOOBE, () -> d.t.join(0, 0, 40));
    }

    private static void quarrels() {
        promise = 25;
        Desk d = new Desk();
        due("at first", d.t.quarrels(), 0);
        d.read("{\"a\":0,\"b\":0}");
        d.read("{\"a\":1,\"b\":1}");
        d.read("{\"a\":2,\"b\":2}");
        d.t.join(0, 1, 2);
        due("two", d.t.quarrels(), 2);
        d.t.join(0, 1, 1);
        due("none", d.t.quarrels(), 0);
        d.read("5");
        d.t.join(0, 1, 4);
        due("one", d.t.quarrels(), 1);
        refuses(d, "a join that throws", IOOBE, () -> d.t.join(0, 1, 99));
        due("one still", d.t.quarrels(), 1);
        StringBuilder a = new StringBuilder("{\"a0\":1");
        for (int i = 1; i < 40; i++) {
            a.append(",\"a").append(i).append("\":1");
        }
        d.read(a.append("}").toString());
        d.read(a.toString().replace(":1", ":2"));
        d.read("{}");
        due("many", d.t.join(7, 5, 6), -1);
        due("40", d.t.quarrels(), 40);
        due("the last of them", d.t.quarrel(39), 4);
        due("the last of them, told", d.paper(), "/a39");
    }

    private static void quarrel() {
        promise = 26;
        Desk d = new Desk();
        d.read("{}");
        d.read("{\"a~/\":{\"\":{\"\\u00ff\":1}},\"b\":1}");
        d.read("{\"b\":2,\"a~/\":{\"\":{\"\\u00ff\":2}}}");
        d.t.join(0, 1, 2);
        due("how many signs", d.t.quarrel(0), 9);
        due("a PLAIN PATH", d.paper(), "/a~0~1//\u00ff");
        due("the next one", d.t.quarrel(1), 2);
        due("told", d.paper(), "/b");
        refuses(d, "one more", IOOBE, () -> d.t.quarrel(2));
        refuses(d, "-1", IOOBE, () -> d.t.quarrel(-1));
        d.t.join(0, 1, 0);
        refuses(d, "none", IOOBE, () -> d.t.quarrel(0));
        d.read("7");
        d.read("{\"a~/\":{\"\":{\"\\u00ff\":1}},\"b\":3}");
        d.t.join(d.t.sum(0) - 2, 1, 2);
        due("a join with another one", d.t.quarrel(0), 0);
        d.t.join(0, 2, d.t.sum(0) - 1);
        due("and another one", d.t.quarrel(1), 9);
        due("the first of it", d.t.quarrel(0), 2);
    }

    // ---- 27 to 29

    private static void standard() {
        promise = 27;
        Desk d = new Desk();
        due("its number", d.t.standard(), 0);
        due("what came", d.least(0), STANDARD);
        due("its NODES", d.t.node(0, 0, 2), 67);
        due("it says yes to itself", d.t.check(0, 0), 0);
        due("again", d.t.standard(), 1);
        d.fill();
        refuses(d, "the 41st", ISE, () -> d.t.standard());
    }

    private static void says(String schema, String value, String want) {
        due(schema + " to " + value, new Desk().check(schema, value), want);
        if (!schema.contains("\"ref\"")) {
            String not = "{\"not\":" + schema + "}";
            due(not + " to " + value, new Desk().check(not, value), want.isEmpty() ? "0:14" : "");
        }
    }

    private static void check() {
        promise = 28;
        says("true", "[1]", "");
        says("false", "[1]", "0:0");
        says("{}", "1", "");
        says("{\"x\":5,\"names\":{\"a\":false}}", "1", "");
        String[] kinds = {"nothing", "truth", "number", "text", "row", "map"};
        String[] values = {"null", "true", "-1.5", "\"\"", "[]", "{}"};
        for (int i = 0; i < 6; i++) {
            for (int j = 0; j < 6; j++) {
                says("{\"kind\":\"" + kinds[i] + "\"}", values[j], i == j ? "" : "0:1");
            }
        }
        says("{\"kind\":\"whole\"}", "100", "");
        says("{\"kind\":\"whole\"}", "0", "");
        says("{\"kind\":\"whole\"}", "0.5", "0:1");
        says("{\"kind\":\"whole\"}", "\"\"", "0:1");
        says("{\"kind\":[\"text\",\"whole\"]}", "5", "");
        says("{\"kind\":[\"text\",\"whole\"]}", "5.5", "0:1");
        says("{\"kind\":[]}", "5", "0:1");
        says("{\"least\":-1.5,\"most\":2e1}", "-1.5", "");
        says("{\"least\":-1.5,\"most\":2e1}", "-1.6", "0:2");
        says("{\"least\":-1.5,\"most\":2e1}", "20", "");
        says("{\"least\":-1.5,\"most\":2e1}", "20.1", "0:3");
        says("{\"least\":5,\"most\":4}", "4.5", "0:2 0:3");
        says("{\"least\":5,\"most\":4}", "\"x\"", "");
        says("{\"shortest\":1,\"longest\":2}", "\"\"", "0:4");
        says("{\"shortest\":1,\"longest\":2}", "\"ab\"", "");
        says("{\"shortest\":2,\"longest\":1}", "\"ab\"", "0:5");
        says("{\"shortest\":3,\"longest\":3}", "[1,[2],{}]", "");
        says("{\"shortest\":1.5,\"longest\":2.5}", "\"a\"", "0:4");
        says("{\"shortest\":1,\"longest\":2}", "[1,[2,3],4]", "0:5");
        says("{\"shortest\":1,\"longest\":2}", "{}", "0:4");
        says("{\"shortest\":11,\"longest\":-1}", "\"abcdefghij\"", "0:4 0:5");
        says("{\"shortest\":1,\"longest\":2}", "1000", "");
        says("{\"needs\":[\"a\",\"b\",\"a\"]}", "{\"b\":1}", "0:6 0:6");
        says("{\"needs\":[\"a\"]}", "[]", "");
        says("{\"needs\":[\"1234567890123\"]}", "{\"123456789012\":1}", "0:6");
        says("{\"keys\":{\"b\":false,\"a\":{\"kind\":\"text\"}}}", "{\"a\":1,\"c\":2,\"b\":3}", "1:1 3:0");
        says("{\"keys\":{\"a\":false}}", "[1]", "");
        says("{\"keys\":{\"b\":true},\"others\":false}", "{\"a\":1,\"b\":[2],\"c\":3}", "1:0 4:0");
        says("{\"others\":{\"kind\":\"text\"}}", "{\"a\":\"x\",\"b\":3}", "2:1");
        says("{\"others\":false}", "[1]", "");
        says("{\"items\":{\"most\":3}}", "[1,5,[9],4]", "2:3 5:3");
        says("{\"items\":false}", "{\"a\":1}", "");
        says("{\"only\":[1,{\"a\":1,\"b\":2}]}", "{\"b\":2,\"a\":1}", "");
        says("{\"only\":[1,\"1\"]}", "2", "0:10");
        says("{\"only\":[]}", "2", "0:10");
        groups();
        refs();
        checkRefuses();
        bounds();
        order();
    }

    private static void groups() {
        says("{\"all\":[{\"least\":1},{\"most\":3},false]}", "5", "0:3 0:0");
        says("{\"all\":[]}", "5", "");
        says("{\"some\":[{\"least\":9},{\"most\":3}]}", "5", "0:12");
        says("{\"some\":[{\"least\":9},{\"most\":6}]}", "5", "");
        says("{\"some\":[]}", "5", "0:12");
        says("{\"one\":[true,false]}", "5", "");
        says("{\"one\":[true,true]}", "5", "0:13");
        says("{\"one\":[false]}", "5", "0:13");
        says("{\"not\":{\"kind\":\"number\"}}", "5", "0:14");
        says("{\"not\":false}", "5", "");
        says("{\"not\":{\"not\":{\"items\":{\"kind\":\"text\"}}}}", "[5]", "0:14");
        says("{\"all\":[{\"some\":[false]},{\"not\":true}]}", "[5]", "0:12 0:14");
    }

    private static void refs() {
        says("{\"ref\":\"a\"}", "5", "0:15");
        says("{\"names\":{},\"ref\":\"a\"}", "5", "0:15");
        says("{\"names\":{\"a\":{\"kind\":\"text\"}},\"ref\":\"a\"}", "5", "0:1");
        says("{\"names\":{\"a\":{\"kind\":\"text\"}},\"items\":{\"ref\":\"a\"}}", "[5,\"x\"]", "1:1");
        says("{\"items\":{\"names\":{\"a\":true},\"ref\":\"a\"}}", "[5]", "1:15");
        says("{\"names\":{\"a\":{\"ref\":\"a\"}},\"ref\":\"a\"}", "5", "");
        says("{\"names\":{\"a\":{\"not\":{\"ref\":\"a\"}}},\"ref\":\"a\"}", "5", "0:14");
        says("{\"names\":{\"a\":{\"ref\":\"b\"},\"b\":{\"all\":[{\"ref\":\"a\"},false]}},\"ref\":\"a\"}", "5", "0:0");
        says("{\"names\":{\"a\":{\"kind\":\"row\",\"items\":{\"ref\":\"a\"}}},\"ref\":\"a\"}", "[[],[[1]]]", "4:1");
        says("{\"names\":{\"a\":{\"all\":[{\"ref\":\"b\"},{\"ref\":\"b\"}]},\"b\":false},\"ref\":\"a\"}", "1", "0:0 0:0");
        says("{\"names\":{\"a\":{\"ref\":\"a\"}},\"items\":{\"ref\":\"a\"}}", "[5]", "");
        says("{\"names\":{\"a\":{\"items\":{\"ref\":\"a\"},\"least\":6}},\"items\":{\"ref\":\"a\"}}", "[[5,6]]", "2:2");
        says("{\"names\":{\"a\":true},\"all\":[" + joinedTimes("{\"ref\":\"a\"}", 15) + "]}", "1", "");
        says("{\"names\":{\"a\":false},\"all\":[{\"ref\":\"a\"},{\"ref\":\"a\"}],\"ref\":\"a\"}", "1", "0:0 0:0 0:0");
        says("{\"names\":{\"a\":{\"ref\":\"b\"},\"b\":{\"kind\":\"row\",\"items\":{\"ref\":\"a\"}}},\"ref\":\"a\"}", "[[1],[]]", "2:1");
        says("{\"names\":{\"a\":false},\"not\":{\"ref\":\"a\"}}", "1", "");
        says("{\"names\":{\"a\":true},\"not\":{\"ref\":\"b\"}}", "1", "");
        says("{\"names\":{\"a\":true},\"not\":{\"ref\":\"a\"}}", "1", "0:14");
        says("{\"names\":{\"a\":{\"all\":[true,{\"ref\":\"a\"}]}},\"ref\":\"a\"}", "1", "");
        StringBuilder chain = new StringBuilder("{\"names\":{");
        for (int i = 0; i < 14; i++) {
            chain.append("\"a").append(i).append("\":{\"ref\":\"a").append(i + 1).append("\"},");
        }
        String end = chain + "\"a14\":true},\"ref\":\"a";
        says(end + "2\"}", "1", "");
        says(end + "1\"}", "1", "0:15");
        says(end.replace("\"a13\":{\"ref\":\"a14\"}", "\"a13\":{\"ref\":\"a2\"}") + "1\"}", "1", "");
        says(end.replace("\"a13\":{\"ref\":\"a14\"}", "\"a13\":{\"ref\":\"zz\"}") + "1\"}", "1", "0:15");
    }

    private static void checkRefuses() {
        String[] no = {"1", "null", "\"x\"", "[]", "{\"kind\":1}", "{\"kind\":\"x\"}", "{\"kind\":[\"map\",\"x\"]}", "{\"least\":\"1\"}",
            "{\"most\":null}", "{\"shortest\":\"\"}", "{\"longest\":[]}", "{\"needs\":\"a\"}", "{\"needs\":[1]}", "{\"keys\":[]}",
            "{\"keys\":{\"a\":1}}", "{\"others\":1}", "{\"items\":[]}", "{\"only\":1}", "{\"all\":true}", "{\"all\":[1]}",
            "{\"some\":{}}", "{\"one\":[{\"kind\":0}]}", "{\"not\":[]}", "{\"ref\":1}", "{\"names\":[]}", "{\"names\":{\"a\":1}}",
            "{\"items\":{\"names\":{\"a\":1}}}"};
        for (String s : no) {
            Desk d = new Desk();
            d.read("false");
            d.read(s);
            d.t.check(0, 1);
            refuses(d, "no SCHEMA: " + s, ISE, () -> d.t.check(1, 0));
            due("THE STANDARD says no to " + s, d.t.check(d.t.standard(), 1) > 0, true);
        }
        Desk d = new Desk();
        d.read("true");
        refuses(d, "no schema", IOOBE, () -> d.t.check(1, 0));
        refuses(d, "no doc", IOOBE, () -> d.t.check(0, 1));
        d.read("5");
        refuses(d, "no doc ahead of no SCHEMA", IOOBE, () -> d.t.check(1, 2));
        refuses(d, "no SCHEMA", ISE, () -> d.t.check(1, 0));
        d.fill();
        due("of 40", d.t.check(0, 1), 0);
    }

    /** Asks of 97 VALUES of a ROW, by one that says each WORD that asks, and by as many true as are told. */
    private static void asksByRow(int trues, boolean fits) {
        Desk d = new Desk();
        int row = d.read("[" + joinedTimes("1", 97) + "]");
        int base = d.read("{\"names\":{\"a\":true},\"all\":[{\"items\":true},{\"some\":[" + joinedTimes("true", 9)
            + "]},{\"one\":[true]},{\"not\":false},{\"ref\":\"a\"},true]}");
        int schema = d.copied(base, "/all/0", "/all/0", 19);
        schema = d.copied(schema, "/all/24", "/all/24", trues - 1);
        // The first time, 20 times 1 and 97, 1 and 9, and three times 2.
        int asks = 1 + 20 * 98 + 10 + 6 + trues;
        asksJust(d, schema, row, asks, fits);
    }

    private static void asksByMap(int trues, boolean fits) {
        Desk d = new Desk();
        StringBuilder keys = new StringBuilder("{\"a0\":1");
        for (int i = 1; i < 49; i++) {
            keys.append(",\"a").append(i).append("\":1");
        }
        int none = d.read("{}");
        int map = d.t.join(none, d.read(keys + "}"), d.read(keys.toString().replace("\"a", "\"b") + "}"));
        int base = d.read("{\"all\":[{\"keys\":{\"a0\":true},\"others\":true},{\"others\":true},true]}");
        int schema = d.copied(base, "/all/0", "/all/0", 9);
        schema = d.copied(schema, "/all/10", "/all/10", 9);
        schema = d.copied(schema, "/all/20", "/all/20", trues - 1);
        asksJust(d, schema, map, 1 + 20 * 99 + trues, fits);
    }

    private static void asksJust(Desk d, int schema, int doc, int asks, boolean fits) {
        if (fits) {
            due("a check that asks " + asks + " times", d.t.check(schema, doc), 0);
        } else {
            refuses(d, "a check that asks " + asks + " times", ISE, () -> d.t.check(schema, doc));
        }
    }

    private static void bounds() {
        asksByRow(23, true);
        asksByRow(24, false);
        asksByMap(19, true);
        asksByMap(20, false);
        Desk d = new Desk();
        int fifty = d.read("[" + joinedTimes("1", 50) + "]");
        int twenty = d.copied(d.read("{\"all\":[{\"items\":false}]}"), "/all/0", "/all/0", 19);
        due("1000 COMPLAINTS", d.t.check(twenty, fifty), 1000);
        due("the last of them", d.t.complaint(999, 0), 50);
        d.read("false");
        d.page("/all/-").t.put(twenty, d.t.sum(0) - 1);
        int more = d.t.sum(0) - 1;
        refuses(d, "1001 COMPLAINTS", ISE, () -> d.t.check(more, fifty));
        d.read("{\"not\":{\"items\":false}}");
        d.page("/all/-").t.put(twenty, d.t.sum(0) - 1);
        due("those of what \"not\" asks are none", d.t.check(d.t.sum(0) - 1, fifty), 1000);
    }

    private static void order() {
        Desk d = new Desk();
        int schema = d.read("{\"ref\":\"a\",\"not\":true,\"one\":[],\"some\":[],\"all\":[false],\"only\":[],"
            + "\"others\":{\"kind\":\"text\"},\"keys\":{\"k\":{\"kind\":\"text\"}},\"needs\":[\"x\"],\"longest\":0,"
            + "\"shortest\":9,\"kind\":\"row\",\"names\":{\"a\":false}}");
        int doc = d.read("{\"b\":1,\"k\":2}");
        due("in order of the WORDS", d.t.check(schema, doc), 12);
        due("COMPLAINTS", d.complaints(), "0:1 0:4 0:5 0:6 2:1 1:1 0:10 0:0 0:12 0:13 0:14 0:0");
    }

    private static void complaint() {
        promise = 29;
        Desk d = new Desk();
        d.read("{\"items\":{\"kind\":\"text\"}}");
        d.read("[\"x\",1,[2]]");
        due("how many", d.t.check(0, 1), 2);
        due("NODE", d.t.complaint(0, 0), 2);
        due("WORD", d.t.complaint(0, 1), 1);
        due("NODE of the second", d.t.complaint(1, 0), 3);
        refuses(d, "k 2", IOOBE, () -> d.t.complaint(2, 0));
        refuses(d, "k -1", IOOBE, () -> d.t.complaint(-1, 0));
        refuses(d, "k ahead of what", IOOBE, () -> d.t.complaint(2, 2));
        refuses(d, "what 2", IAE, () -> d.t.complaint(0, 2));
        refuses(d, "what -1", IAE, () -> d.t.complaint(0, -1));
        refuses(d, "a check that throws", ISE, () -> d.t.check(1, 0));
        due("they stay", d.t.complaint(1, 0), 3);
        d.read("true");
        d.t.check(2, 1);
        refuses(d, "none", IOOBE, () -> d.t.complaint(0, 0));
    }

    // ---- 30 to 35

    private static String tabled(String doc, boolean columns) {
        Desk d = new Desk();
        int a = d.read(doc);
        String before = d.state();
        try {
            return d.least(columns ? d.t.columns(a) : d.t.rows(a));
        } catch (IllegalStateException e) {
            due("a table that cannot be changes nothing", d.state(), before);
            return "refused";
        }
    }

    private static void columns() {
        promise = 30;
        due("KEYS as they are met", tabled("[{\"b\":1,\"a\":[2]},{\"c\":3,\"b\":{\"x\":4}},{}]", true),
            "{\"b\":[1,{\"x\":4},null],\"a\":[[2],null,null],\"c\":[null,3,null]}");
        due("one", tabled("[{\"a\":1}]", true), "{\"a\":[1]}");
        due("no KEYS", tabled("[{},{}]", true), "{}");
        due("no MAPS", tabled("[]", true), "{}");
        due("a NUMBER in it", tabled("[{},1]", true), "refused");
        due("a MAP", tabled("{}", true), "refused");
        Desk twice = new Desk();
        twice.read("[{\"a\":1,\"b\":2},{\"a\":3,\"b\":4}]");
        due("there and back and there", twice.least(twice.t.columns(twice.t.rows(twice.t.columns(0)))), "{\"a\":[1,3],\"b\":[2,4]}");
        due("a TEXT", tabled("\"a\"", true), "refused");
        StringBuilder wide = new StringBuilder("[{\"a0\":1");
        for (int i = 1; i < 9; i++) {
            wide.append(",\"a").append(i).append("\":1");
        }
        due("100 NODES", tabled(wide + "}," + joinedTimes("{}", 9) + "]", true).length() > 100, true);
        due("109 NODES", tabled(wide + "}," + joinedTimes("{}", 10) + "]", true), "refused");
        Desk d = new Desk();
        refuses(d, "no doc", IOOBE, () -> d.t.columns(0));
        d.read("[]");
        d.read("1");
        d.fill();
        refuses(d, "the 41st", ISE, () -> d.t.columns(0));
        refuses(d, "no doc, of 40", IOOBE, () -> d.t.columns(40));
    }

    private static void rows() {
        promise = 31;
        due("rows", tabled("{\"b\":[1,[2]],\"a\":[{\"x\":3},null]}", false), "[{\"b\":1,\"a\":{\"x\":3}},{\"b\":[2],\"a\":null}]");
        due("no VALUES", tabled("{\"b\":[],\"a\":[]}", false), "[]");
        due("no KEY", tabled("{}", false), "refused");
        due("not as many", tabled("{\"b\":[1],\"a\":[1,2]}", false), "refused");
        due("not as many, the other way", tabled("{\"b\":[1,2],\"a\":[1]}", false), "refused");
        due("a NUMBER in it", tabled("{\"b\":[1],\"a\":1}", false), "refused");
        due("a MAP in it", tabled("{\"b\":{\"x\":1}}", false), "refused");
        due("a ROW", tabled("[[1],[2]]", false), "refused");
        due("there and back", tabled(tabled("[{\"b\":1,\"a\":[2]},{\"b\":4,\"a\":0}]", true), false), "[{\"b\":1,\"a\":[2]},{\"b\":4,\"a\":0}]");
        due("99 NODES", tabled("{\"a\":[" + joinedTimes("1", 49) + "]}", false).length() > 100, true);
        due("101 NODES", tabled("{\"a\":[" + joinedTimes("1", 50) + "]}", false), "refused");
        Desk d = new Desk();
        refuses(d, "no doc", IOOBE, () -> d.t.rows(0));
        d.read("{\"a\":[]}");
        d.fill();
        refuses(d, "the 41st", ISE, () -> d.t.rows(0));
        refuses(d, "no doc, of 40", IOOBE, () -> d.t.rows(40));
    }

    private static void grow() {
        promise = 32;
        Desk d = new Desk();
        for (int seed = 0; seed < 65536; seed += 123) {
            for (int size = 1; size <= 3; size++) {
                due("grow(" + seed + ", " + size + ")", d.t.grow(seed, size), 0);
                due("what grew", d.least(0), Model.least(new Model.Garden(seed).grow(0, size)));
                d.t.undo();
            }
        }
        due("the last seed", d.t.grow(65535, 3), 0);
        refuses(d, "seed -1", IAE, () -> d.t.grow(-1, 1));
        refuses(d, "seed 65536", IAE, () -> d.t.grow(65536, 1));
        refuses(d, "size 0", IAE, () -> d.t.grow(0, 0));
        refuses(d, "size 4", IAE, () -> d.t.grow(0, 4));
        d.fill();
        refuses(d, "the 41st", ISE, () -> d.t.grow(0, 1));
        refuses(d, "size 4, of 40", IAE, () -> d.t.grow(0, 4));
    }

    private static void vary() {
        promise = 33;
        Desk d = new Desk();
        String doc = "{\"a\":[1,{\"b\":2}],\"c\":[[],3]}";
        d.read(doc);
        Object value = new Model.Parser(doc, 0).all();
        for (int seed = 0; seed < 65536; seed += 97) {
            Model.Garden g = new Model.Garden(seed);
            String path = Model.spots(value).get(g.draw(8)).path;
            due("vary(0, " + seed + ")", d.t.vary(0, seed), 1);
            due("what came", d.least(1), Model.least(Model.withSpot(value, path, g.grow(2, 2))));
            d.t.undo();
        }
        refuses(d, "no doc", IOOBE, () -> d.t.vary(1, 0));
        refuses(d, "no doc ahead of seed", IOOBE, () -> d.t.vary(1, -1));
        refuses(d, "seed -1", IAE, () -> d.t.vary(0, -1));
        refuses(d, "seed 65536", IAE, () -> d.t.vary(0, 65536));
        d.read("[" + joinedTimes("1", 99) + "]");
        d.read(times("[", 12) + times("]", 12));
        varyTooMuch(d);
        d.fill();
        refuses(d, "the 41st", ISE, () -> d.t.vary(0, 0));
        refuses(d, "seed 65536, of 40", IAE, () -> d.t.vary(0, 65536));
    }

    private static void varyTooMuch(Desk d) {
        int refused = 0;
        for (int seed = 0; seed < 3000; seed++) {
            for (int doc = 1; doc <= 2; doc++) {
                Model m = new Model();
                m.docs.add(new Model.Parser(doc == 1 ? "[" + joinedTimes("1", 99) + "]" : times("[", 12) + times("]", 12), 0).all());
                int s = seed;
                int n = doc;
                try {
                    m.vary(0, seed);
                } catch (IllegalStateException e) {
                    refused++;
                    if (refused < 20) {
                        refuses(d, "vary to no DOCUMENT by " + seed, ISE, () -> d.t.vary(n, s));
                    }
                }
            }
        }
        due("some are refused", refused > 10, true);
    }

    private static void sum() {
        promise = 34;
        Desk d = new Desk();
        d.read("[1,[2]]");
        d.read("{\"a\":{\"b\":null}}");
        d.finds(0, "/**");
        d.t.check(d.read("{\"all\":[false,false]}"), 0);
        d.t.rule(2);
        d.t.print(0, 0);
        d.page("abcde");
        due("all", d.state(), "3 5 7 2 4 2 11 0");
        refuses(d, "what 7", IAE, () -> d.t.sum(7));
        refuses(d, "what -1", IAE, () -> d.t.sum(-1));
        d.t.undo();
        due("NODES behind undo", d.t.sum(6), 7);
    }

    private static void isSound() {
        promise = 35;
        Desk d = new Desk();
        refuses(d, "none", IOOBE, () -> d.t.isSound(0));
        d.read("{\"b~\\u0000\\\"\":[1e-99,-15e-1,0,\"\\u00ff\\\\\\n\",true,null,{}],\"a\":{}}");
        due("a MAP", d.t.isSound(0), true);
        due("what it leaves of THE PAPER", d.t.sum(2), 0);
        d.t.rule(1);
        due("by THE RULE 1", d.t.isSound(0), true);
        due("THE RULE", d.t.rule(0), 1);
        due("THE STANDARD", d.t.isSound(d.t.standard()), true);
        refuses(d, "doc 2", IOOBE, () -> d.t.isSound(2));
        refuses(d, "doc -1", IOOBE, () -> d.t.isSound(-1));
    }

    public static void main(String[] args) {
        newObject();
        write();
        wipe();
        paper();
        rule();
        read();
        print();
        node();
        tell();
        equal();
        compare();
        digest();
        take();
        sorted();
        both();
        undo();
        select();
        find();
        put();
        cut();
        lay();
        patch();
        turn();
        join();
        quarrels();
        quarrel();
        standard();
        check();
        complaint();
        columns();
        rows();
        grow();
        vary();
        sum();
        isSound();
        System.out.println(checks + " checks of the promises, " + wrong + " wrong");
        if (wrong > 0) {
            System.exit(1);
        }
    }
}
