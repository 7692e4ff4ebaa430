/** Boundaries of promises 8 to 16: VALUES and what is asked of them. */
final class ValueBoundaries extends Boundaries {
    private static final String NO_NODE = "if there is no such DOCUMENT, or NODE";
    private static final String FORTY_DOCUMENTS = "if there are 40 DOCUMENTS";

    static void all() {
        node();
        kinds();
        depths();
        counts();
        numbers();
        owners();
        tell();
        tellTexts();
        paths();
        equal();
        equalGroups();
        compare();
        digest();
        take();
        sorted();
        both();
        bothTooMuch();
        undo();
    }

    /** Both sides of the NODES of a DOCUMENT of two. */
    private static void nodes(int promise, String sentence, Numbered call, Object first, Object last) {
        at(promise, sentence, reading("[1]"))
            .refuses("NODE -1", r -> call.on(r, -1), IOOBE)
            .takes("NODE 0", r -> call.on(r, 0), first)
            .takes("NODE 1", r -> call.on(r, 1), last)
            .refuses("NODE 2", r -> call.on(r, 2), IOOBE)
            .refuses("NODE 100", r -> call.on(r, 100), IOOBE)
            .refuses("the greatest int", r -> call.on(r, Integer.MAX_VALUE), IOOBE)
            .refuses("the least int", r -> call.on(r, Integer.MIN_VALUE), IOOBE);
    }

    private static void node() {
        documents(8, "\"a\"", "[1,2]", (r, doc) -> r.t().node(doc, 0, 0), 3, 4);
        nodes(8, NO_NODE, (r, node) -> r.t().node(0, node, 0), 4, 2);
        nodes(8, "`node`: its number", (r, node) -> r.t().node(0, node, 2), 2, 1);
        at(8, NO_NODE, r -> r.readOnes(99)).asks("NODE 99 of 100", r -> r.t().node(0, 99, 9), 98)
            .refuses("NODE 100 of 100", r -> r.t().node(0, 100, 9), IOOBE);
        At test = at(8, "`what`: 0 to 9", reading("[5]"));
        int[] answers = {2, 0, 1, -1, -1, 0, 1, 1, 0, 0};
        for (int what = 0; what <= 9; what++) {
            int asked = what;
            test.asks("what " + what, r -> r.t().node(0, 1, asked), answers[what]);
        }
        test.refuses("what -1", r -> r.t().node(0, 1, -1), IAE).refuses("what 10", r -> r.t().node(0, 1, 10), IAE);
        at(8, "if what is out of range", reading("[5]"))
            .refuses("the greatest int", r -> r.t().node(0, 0, Integer.MAX_VALUE), IAE)
            .refuses("the least int", r -> r.t().node(0, 0, Integer.MIN_VALUE), IAE);
        at(8, SEVERAL, reading("[5]")).refuses("neither NODE nor what", r -> r.t().node(0, 2, 10), IOOBE)
            .refuses("neither DOCUMENT nor what", r -> r.t().node(1, 0, -1), IOOBE)
            .refuses("neither DOCUMENT nor NODE", r -> r.t().node(1, 2, 0), IOOBE);
    }

    private static void kinds() {
        at(8, "A VALUE is of a KIND: 0 NOTHING; 1 a TRUTH, true or false; 2 a NUMBER", reading("[null,true,false,0,\"\",[],{}]"))
            .asks("a ROW", r -> r.node(0, 0), "4 2 8 7 -1 0 0 -1 -1 -1")
            .asks("NOTHING", r -> r.node(0, 1), "0 0 1 -1 -1 0 0 -1 0 0")
            .asks("true", r -> r.node(0, 2), "1 0 1 -1 1 0 0 -1 0 1")
            .asks("false", r -> r.node(0, 3), "1 0 1 -1 0 0 0 -1 0 2")
            .asks("0", r -> r.node(0, 4), "2 0 1 -1 -1 0 1 0 0 3")
            .asks("a TEXT", r -> r.node(0, 5), "3 0 1 0 -1 0 0 -1 0 4")
            .asks("an empty ROW", r -> r.node(0, 6), "4 1 1 0 -1 0 0 -1 0 5")
            .asks("an empty MAP", r -> r.node(0, 7), "5 1 1 0 -1 0 0 -1 0 6");
        at(8, "4 whether it is true, 1 or 0, NONE for what is no TRUTH", reading("{\"a\":true,\"b\":false,\"c\":1,\"d\":\"true\"}"))
            .asks("true", r -> r.t().node(0, 1, 4), 1)
            .asks("false", r -> r.t().node(0, 2, 4), 0)
            .asks("1", r -> r.t().node(0, 3, 4), -1)
            .asks("the TEXT true", r -> r.t().node(0, 4, 4), -1);
    }

    private static void depths() {
        at(8, "The DEPTH of a ROW or MAP is 1 more than the greatest of its VALUES, 1 if it is empty; of all else 0.",
            reading("[[],{\"a\":[1,[]],\"b\":0},[{}],\"x\",null]", "[1]", "{\"a\":\"\"}", deep(12), "5"))
            .asks("the greatest, not the last one", r -> r.t().node(0, 0, 1), 4)
            .asks("an empty ROW", r -> r.t().node(0, 1, 1), 1)
            .asks("a MAP", r -> r.t().node(0, 2, 1), 3)
            .asks("a TEXT", r -> r.t().node(0, 9, 1), 0)
            .asks("NOTHING", r -> r.t().node(0, 10, 1), 0)
            .asks("a ROW of a NUMBER", r -> r.t().node(1, 0, 1), 1)
            .asks("a MAP of a TEXT", r -> r.t().node(2, 0, 1), 1)
            .asks("DEPTH 12", r -> r.t().node(3, 0, 1) + " " + r.t().node(3, 1, 1) + " " + r.t().node(3, 11, 1), "12 11 1")
            .asks("a NUMBER alone", r -> r.t().node(4, 0, 1), 0);
        at(8, "2 how many NODES it has, it too", r -> {
            r.readOnes(99);
            r.read("[[],[[1]],{\"a\":[]}]");
        }).asks("100", r -> r.t().node(0, 0, 2), 100)
            .asks("1", r -> r.t().node(0, 1, 2), 1)
            .asks("an empty ROW", r -> r.t().node(1, 1, 2), 1)
            .asks("ROWS in a ROW", r -> r.t().node(1, 2, 2) + " " + r.t().node(1, 3, 2), "3 2")
            .asks("the whole", r -> r.t().node(1, 0, 2), 7);
    }

    private static void counts() {
        at(8, "3 how many signs, VALUES it has, NONE for NOTHING, a TRUTH, a NUMBER", r -> {
            r.read("[\"\",\"a\\n\\u00e9\",\"" + times("\\n", 40) + "\",[],[1],[[1,2]],{},{\"abc\":[]},null,true,123]");
            r.readOnes(99);
        }).asks("an empty TEXT", r -> r.t().node(0, 1, 3), 0)
            .asks("a TEXT of 3 signs", r -> r.t().node(0, 2, 3), 3)
            .asks("a TEXT of 40 signs", r -> r.t().node(0, 3, 3), 40)
            .asks("an empty ROW", r -> r.t().node(0, 4, 3), 0)
            .asks("a ROW of one", r -> r.t().node(0, 5, 3), 1)
            .asks("a ROW of a ROW of two", r -> r.t().node(0, 7, 3), 1)
            .asks("an empty MAP", r -> r.t().node(0, 11, 3), 0)
            .asks("a MAP of one", r -> r.t().node(0, 12, 3), 1)
            .asks("NOTHING", r -> r.t().node(0, 14, 3), -1)
            .asks("a TRUTH", r -> r.t().node(0, 15, 3), -1)
            .asks("a NUMBER", r -> r.t().node(0, 16, 3), -1)
            .asks("99 VALUES", r -> r.t().node(1, 0, 3), 99);
    }

    private static void numbers() {
        at(8, "5 POWER, 6 how many figures DIGITS have, 7 -1, 0, 1 as DIGITS are below 0, 0, above 0",
            reading("[0,-0,1,-1,10,1e99,-1e-99,-" + times("9", 24) + ",0.05,-120]"))
            .asks("0", r -> r.node(0, 1), "2 0 1 -1 -1 0 1 0 0 0")
            .asks("-0", r -> r.node(0, 2), "2 0 1 -1 -1 0 1 0 0 1")
            .asks("1", r -> r.node(0, 3), "2 0 1 -1 -1 0 1 1 0 2")
            .asks("-1", r -> r.node(0, 4), "2 0 1 -1 -1 0 1 -1 0 3")
            .asks("10", r -> r.node(0, 5), "2 0 1 -1 -1 1 1 1 0 4")
            .asks("1e99", r -> r.node(0, 6), "2 0 1 -1 -1 99 1 1 0 5")
            .asks("-1e-99", r -> r.node(0, 7), "2 0 1 -1 -1 -99 1 -1 0 6")
            .asks("24 figures", r -> r.node(0, 8), "2 0 1 -1 -1 0 24 -1 0 7")
            .asks("0.05", r -> r.node(0, 9), "2 0 1 -1 -1 -2 1 1 0 8")
            .asks("-120", r -> r.node(0, 10), "2 0 1 -1 -1 1 2 -1 0 9");
        at(8, "for 5 and 6 0, for 7 NONE, if it is no NUMBER", reading("[\"12\",true,null,[],{}]")).asks("no NUMBERS", r -> {
            StringBuilder b = new StringBuilder();
            for (int node = 0; node <= 5; node++) {
                b.append(r.t().node(0, node, 5)).append(r.t().node(0, node, 6)).append(r.t().node(0, node, 7)).append(' ');
            }
            return b;
        }, "00-1 00-1 00-1 00-1 00-1 00-1 ");
    }

    private static void owners() {
        at(8, "8 the NODE of which it is a VALUE, NONE; 9 which of its VALUES it is, from 0, NONE",
            reading("[[],{\"a\":[1,2],\"b\":[[3]]},4]")).asks("all", r -> {
                StringBuilder b = new StringBuilder();
                for (int node = 0; node <= 9; node++) {
                    b.append(r.t().node(0, node, 8)).append(':').append(r.t().node(0, node, 9)).append(' ');
                }
                return b;
            }, "-1:-1 0:0 0:1 2:0 3:0 3:1 2:1 6:0 7:0 0:2 ");
        at(8, "NODES of a VALUE are it and those of its VALUES, in order, each ahead of those that are its own; by this they have numbers, it has 0.",
            reading("{\"b\":[true,{}],\"a\":\"x\"}")).asks("KINDS by numbers", r -> {
                StringBuilder b = new StringBuilder();
                for (int node = 0; node <= 4; node++) {
                    b.append(r.t().node(0, node, 0));
                }
                return b;
            }, "54153");
    }

    // ---- tell

    private static void tell() {
        documents(9, "\"a\"", "[1,2]", (r, doc) -> r.t().tell(doc, 0, 3), 0, 0);
        nodes(9, NO_NODE, (r, node) -> r.tell(0, node, 3), "", "/0");
        Lead map = reading("{\"k\":\"t\",\"n\":-12e3}");
        at(9, "`what`: 0 to 3", map)
            .refuses("-1", r -> r.t().tell(0, 1, -1), IAE)
            .takes("0", r -> r.tell(0, 1, 0), "t")
            .takes("1", r -> r.tell(0, 2, 1), "-12")
            .takes("2", r -> r.tell(0, 1, 2), "k")
            .takes("3", r -> r.tell(0, 1, 3), "/k")
            .refuses("4", r -> r.t().tell(0, 1, 4), IAE);
        at(9, "if what is out of range", map).refuses("the greatest int", r -> r.t().tell(0, 1, Integer.MAX_VALUE), IAE)
            .refuses("the least int", r -> r.t().tell(0, 1, Integer.MIN_VALUE), IAE);
        at(9, SEVERAL, map).refuses("neither NODE nor what", r -> r.t().tell(0, 3, 4), IOOBE)
            .refuses("neither DOCUMENT nor what", r -> r.t().tell(1, 0, 4), IOOBE)
            .refuses("no what of what is no TEXT", r -> r.t().tell(0, 0, 4), IAE)
            .refuses("no NODE to tell a TEXT of", r -> r.t().tell(0, 3, 0), IOOBE);
        At none = at(9, "if the NODE is no TEXT, no NUMBER, no VALUE of a MAP", reading("[null,true,5,\"x\",[],{\"k\":1}]"));
        for (int node = 0; node <= 6; node++) {
            int asked = node;
            if (node != 4) {
                none.refuses("no TEXT: NODE " + node, r -> r.t().tell(0, asked, 0), ISE);
            }
            if (node != 3) {
                none.refuses("no NUMBER: NODE " + node, r -> r.t().tell(0, asked, 1), ISE);
            }
            none.refuses("no VALUE of a MAP: NODE " + node, r -> r.t().tell(0, asked, 2), ISE);
        }
        none.takes("a TEXT", r -> r.tell(0, 4, 0), "x").takes("a NUMBER", r -> r.tell(0, 3, 1), "5")
            .takes("a VALUE of a MAP", r -> r.tell(0, 7, 2), "k");
        none.behind(reading("{\"a\":{}}")).refuses("the whole", r -> r.t().tell(0, 0, 2), ISE)
            .takes("a MAP in a MAP", r -> r.tell(0, 1, 2), "a");
    }

    private static void tellTexts() {
        at(9, "0 the signs of a TEXT as they are; 1 DIGITS of a NUMBER; 2 the KEY of a NODE of a MAP, as it is",
            reading("{\"\":\"\",\"~/\\\"\\\\\\n\\u00ff\":\"" + times("\\u0000", 39) + "\\u00ff\",\"abcdefghijkl\":\"~/\\\"\\\\\",\"a\":0,"
                + "\"b\":-" + times("7", 24) + ",\"c\":100e-2}"))
            .takes("an empty TEXT", r -> r.tell(0, 1, 0), "")
            .takes("40 signs", r -> r.tell(0, 2, 0), times("\u0000", 39) + "\u00ff")
            .takes("signs that are written otherwise", r -> r.tell(0, 3, 0), "~/\"\\")
            .takes("DIGITS of 0", r -> r.tell(0, 4, 1), "0")
            .takes("DIGITS of 24 figures", r -> r.tell(0, 5, 1), "-" + times("7", 24))
            .takes("DIGITS of 1.00", r -> r.tell(0, 6, 1), "1")
            .takes("an empty KEY", r -> r.tell(0, 1, 2), "")
            .takes("a KEY of signs that are written otherwise", r -> r.tell(0, 2, 2), "~/\"\\\n\u00ff")
            .takes("a KEY of 12 signs", r -> r.tell(0, 3, 2), "abcdefghijkl");
    }

    private static void paths() {
        at(9, "it is written so, a ~ as ~0, a / as ~1", reading("{\"~/\":{\"\":{\"~1\":[1,{\"0\":2}]}},\"-\":{\"*\":3}}"))
            .takes("the whole", r -> r.tell(0, 0, 3), "")
            .takes("~ and /", r -> r.tell(0, 1, 3), "/~0~1")
            .takes("an empty KEY", r -> r.tell(0, 2, 3), "/~0~1/")
            .takes("~1", r -> r.tell(0, 3, 3), "/~0~1//~01")
            .takes("place 0", r -> r.tell(0, 4, 3), "/~0~1//~01/0")
            .takes("place 1 and the KEY 0", r -> r.tell(0, 6, 3), "/~0~1//~01/1/0")
            .takes("- and *", r -> r.tell(0, 8, 3), "/-/*");
        at(9, "it is written so, a ~ as ~0, a / as ~1", reading("[" + times("1,", 97) + "[2]]"))
            .takes("place 9", r -> r.tell(0, 10, 3), "/9")
            .takes("place 10", r -> r.tell(0, 11, 3), "/10")
            .takes("place 97", r -> r.tell(0, 98, 3), "/97")
            .takes("place 0 of place 97", r -> r.tell(0, 99, 3), "/97/0");
        at(9, "it is written so, a ~ as ~0, a / as ~1", reading(times("{\"~~~~~~~~~~~~\":", 12) + "1" + times("}", 12)))
            .takes("the longest one", r -> r.tell(0, 12, 3), times("/" + times("~0", 12), 12));
    }

    // ---- equal, compare, digest

    private static void same(At test, String a, String b, boolean want) {
        test.takes(a + " and " + b, r -> r.t().equal(r.read(a), r.read(b)), want);
        test.takes(b + " and " + a, r -> r.t().equal(r.read(b), r.read(a)), want);
    }

    private static void equal() {
        documents(10, "1", "[1]", (r, doc) -> r.t().equal(doc, 0), true, false);
        documents(10, "1", "[1]", (r, doc) -> r.t().equal(0, doc), true, false);
        at(10, "To ask changes nothing.", reading("[1]", "[2]")).asks("equal", r -> r.t().equal(0, 1), false)
            .refuses("neither of both", r -> r.t().equal(2, -1), IOOBE);
        At kinds = at(10, "Two are EQUAL, if they are of one KIND, and the same TRUTH, NUMBER or TEXT");
        String[] values = {"null", "true", "false", "0", "1", "\"\"", "\"0\"", "\"null\"", "[]", "{}"};
        for (int i = 0; i < values.length; i++) {
            for (int j = i; j < values.length; j++) {
                same(kinds, values[i], values[j], i == j);
            }
        }
        same(kinds, "1.0", "1", true);
        same(kinds, "10e98", "1e99", true);
        same(kinds, "1e99", "1e98", false);
        same(kinds, "1e1", "1e-1", false);
        same(kinds, "-0", "0", true);
        same(kinds, "1", "-1", false);
        same(kinds, times("1", 24), times("1", 23) + "2", false);
        same(kinds, "\"" + times("x", 40) + "\"", "\"" + times("x", 39) + "\"", false);
        same(kinds, "\"" + times("x", 40) + "\"", "\"" + times("x", 39) + "y\"", false);
        same(kinds, "\"\\u00ff\"", "\"\\u00FF\"", true);
        same(kinds, "\"\\u0000\"", "\"\"", false);
    }

    private static void equalGroups() {
        At rows = at(10, "ROWS with as many VALUES, EQUAL place by place");
        same(rows, "[1,2]", "[1,2]", true);
        same(rows, "[1,2]", "[2,1]", false);
        same(rows, "[1,2]", "[1]", false);
        same(rows, "[]", "[null]", false);
        same(rows, "[[1],2]", "[[1,2]]", false);
        same(rows, "[[],[[]]]", "[[[]],[]]", false);
        same(rows, "[" + list("1", 99) + "]", "[" + list("1", 98) + ",2]", false);
        same(rows, "[" + list("1", 99) + "]", "[" + list("1", 98) + "]", false);
        same(rows, "[" + list("1", 99) + "]", "[" + list("1.0", 99) + "]", true);
        At maps = at(10, "MAPS with the same KEYS, in whatever order, to EQUAL VALUES.");
        same(maps, "{\"a\":1,\"b\":2,\"c\":3}", "{\"c\":3,\"a\":1,\"b\":2}", true);
        same(maps, "{\"a\":1}", "{\"a\":1,\"b\":2}", false);
        same(maps, "{\"a\":1}", "{\"b\":1}", false);
        same(maps, "{\"a\":1}", "{\"a\":2}", false);
        same(maps, "{}", "{\"a\":null}", false);
        same(maps, "{\"\":1}", "{\"a\":1}", false);
        same(maps, "{\"a\":1,\"b\":2}", "{\"a\":2,\"b\":1}", false);
        same(maps, "{\"abcdefghijkl\":1}", "{\"abcdefghijkm\":1}", false);
        same(maps, "{\"a\":1}", "{\"ab\":1}", false);
        String deep = times("{\"x\":0,\"y\":", 12);
        String other = times("{\"y\":", 12);
        same(maps, deep + "1" + times("}", 12), other + "1" + times(",\"x\":0}", 12), true);
        same(maps, deep + "1" + times("}", 12), other + "2" + times(",\"x\":0}", 12), false);
        same(maps, deep + "1" + times("}", 12), other + "1" + times(",\"x\":0}", 11) + ",\"x\":1}", false);
    }

    private static void compare() {
        documents(11, "1", "2", (r, doc) -> r.t().compare(doc, 0), 0, 1);
        documents(11, "1", "2", (r, doc) -> r.t().compare(0, doc), 0, -1);
        At none = at(11, "if one is no NUMBER", reading("1", "\"1\"", "null", "true", "[1]", "{\"a\":1}", "2"));
        for (int doc = 1; doc <= 5; doc++) {
            int other = doc;
            none.refuses("a is DOCUMENT " + doc, r -> r.t().compare(other, 0), ISE)
                .refuses("b is DOCUMENT " + doc, r -> r.t().compare(0, other), ISE)
                .refuses("both are DOCUMENT " + doc, r -> r.t().compare(other, other), ISE);
        }
        none.asks("both are NUMBERS", r -> r.t().compare(0, 6), -1);
        at(11, SEVERAL, reading("1", "\"1\"")).refuses("a is no NUMBER, there is no b", r -> r.t().compare(1, 2), IOOBE)
            .refuses("there is no a, b is no NUMBER", r -> r.t().compare(-1, 1), IOOBE);
        At order = at(11, "Tells -1, 0, 1, as the NUMBER a is less than, the same as, greater than b.");
        String[] rising = {"-1e99", "-999999999999999999999999e75", "-123456789012345678901234",
            "-123456789012345678901233", "-12", "-11", "-1", "-1e-1", "-1e-99", "0", "1e-99", "1e-98", "0.99",
            "1", "1.00000000000000000000001", "1.1", "9", "10", "11", "99", "100",
            "123456789012345678901233", "123456789012345678901234", "1e98", "9e98", "1e99",
            "11e98", "12e99", "999999999999999999999999e99"};
        for (int i = 0; i < rising.length; i++) {
            for (int j = 0; j < rising.length; j++) {
                String a = rising[i];
                String b = rising[j];
                order.takes(a + " to " + b, r -> r.t().compare(r.read(a), r.read(b)), Integer.compare(i, j));
            }
        }
    }

    private static void digest() {
        documents(12, "1", "[]", (r, doc) -> r.t().digest(doc, 0), 1848, 27176);
        nodes(12, NO_NODE, (r, node) -> r.t().digest(0, node), digestOf("[1]"), 1848);
        at(12, SEVERAL, reading("1")).refuses("neither DOCUMENT nor NODE", r -> r.t().digest(1, 1), IOOBE);
        at(12, "h is 7; with each number v, in order, h becomes (257 times h, and v) modulo 65521; D is h then.",
            reading("1", "12", "null", "206995", "206994", "206996", "{\"b\":1,\"a\":[2]}"))
            .asks("one sign, without a wrap-around", r -> r.t().digest(0, 0), 7 * 257 + 49)
            .asks("two signs, and a wrap-around", r -> r.t().digest(1, 0), (1848 * 257 + 50) % 65521)
            .asks("four signs", r -> r.t().digest(2, 0), 63270)
            .asks("a D of 0", r -> r.t().digest(3, 0), 0)
            .asks("a D of 65520", r -> r.t().digest(4, 0), 65520)
            .asks("a D of 1", r -> r.t().digest(5, 0), 1)
            .asks("a MAP in THE ONE WAY", r -> r.t().digest(6, 0), digestOf("{\"a\":[2],\"b\":1}"));
        at(12, "D of a row of numbers is a number from 0 to 65520", reading("206995", "206994"))
            .asks("the least", r -> r.t().digest(0, 0), 0).asks("the greatest", r -> r.t().digest(1, 0), 65520);
    }

    private static int digestOf(String signs) {
        long h = 7;
        for (char c : signs.toCharArray()) {
            h = (257 * h + c) % 65521;
        }
        return (int) h;
    }

    // ---- DOCUMENTS that come

    private static void take() {
        documents(13, "1", "[2]", (r, doc) -> r.t().take(doc, 0) + " " + r.least(2), "2 1", "2 [2]");
        nodes(13, NO_NODE, (r, node) -> r.t().take(0, node) + " " + r.least(1), "1 [1]", "1 1");
        forty(13, FORTY_DOCUMENTS, reading("[1]"), r -> r.t().take(0, 1));
        at(13, SEVERAL, r -> {
            r.read("[1]");
            r.fill(40);
        }).refuses("no DOCUMENT, of 40", r -> r.t().take(40, 0), IOOBE)
            .refuses("no NODE, of 40 DOCUMENTS", r -> r.t().take(0, 2), IOOBE);
        at(13, "A NODE comes as a DOCUMENT.", r -> {
            r.read("{\"a\":" + deep(11) + "}");
            r.readOnes(99);
        }).takes("DEPTH 12", r -> r.t().node(r.t().take(0, 0), 0, 1), 12)
            .takes("DEPTH 11", r -> r.t().node(r.t().take(0, 1), 0, 1), 11)
            .takes("it has no KEY", r -> r.t().take(0, 1) + " " + r.answer(s -> s.t().tell(2, 0, 2)), "2 " + ISE)
            .takes("100 NODES", r -> r.t().node(r.t().take(1, 0), 0, 2), 100)
            .takes("the last NODE", r -> r.least(r.t().take(1, 99)), "1");
    }

    private static void sorted() {
        documents(14, "1", "{\"b\":1,\"a\":2}", (r, doc) -> r.t().sorted(doc) + " " + r.least(2), "2 1", "2 {\"a\":2,\"b\":1}");
        forty(14, FORTY_DOCUMENTS, reading("{\"b\":1,\"a\":2}"), r -> r.t().sorted(0));
        at(14, SEVERAL, r -> {
            r.read("1");
            r.fill(40);
        }).refuses("no DOCUMENT, of 40", r -> r.t().sorted(40), IOOBE);
        String deep = times("{\"b\":0,\"a\":", 12);
        at(14, "but KEYS of all its MAPS come in the order of THE ONE WAY", r -> {
            r.read(deep + "1" + times("}", 12));
            r.readOnes(99);
            r.read("{\"ab\":[{\"d\":1,\"c\":2}],\"a\":3,\"\":4,\"\\u00ff\":5,\"B\":6}");
            r.read("[]");
            r.read("{}");
        }).takes("DEPTH 12", r -> r.least(r.t().sorted(0)), times("{\"a\":", 12) + "1" + times(",\"b\":0}", 12))
            .takes("100 NODES", r -> r.t().node(r.t().sorted(1), 0, 2), 100)
            .takes("KEYS", r -> r.least(r.t().sorted(2)), "{\"\":4,\"B\":6,\"a\":3,\"ab\":[{\"c\":2,\"d\":1}],\"\\u00ff\":5}")
            .takes("an empty ROW", r -> r.least(r.t().sorted(3)), "[]")
            .takes("an empty MAP", r -> r.least(r.t().sorted(4)), "{}")
            .takes("none changes", r -> r.t().sorted(2) + " " + r.t().node(2, 1, 0), "5 4");
    }

    private static void both() {
        documents(15, "1", "[2]", (r, doc) -> r.least(r.t().both(doc, 0)), "[1,1]", "[[2],1]");
        documents(15, "1", "[2]", (r, doc) -> r.least(r.t().both(0, doc)), "[1,1]", "[1,[2]]");
        forty(15, "or there are 40 DOCUMENTS", reading("1"), r -> r.t().both(0, 0));
        at(15, SEVERAL, r -> {
            r.readOnes(60);
            r.fill(40);
        }).refuses("no a, of 40", r -> r.t().both(40, 0), IOOBE).refuses("no b, too many NODES", r -> r.t().both(0, 40), IOOBE);
    }

    private static void bothTooMuch() {
        at(15, "if it cannot be", r -> {
            r.readOnes(49);
            r.readOnes(48);
            r.read("1");
        }).takes("100 NODES", r -> r.t().node(r.t().both(0, 1), 0, 2), 100)
            .refuses("101 NODES", r -> r.t().both(0, 0), ISE)
            .takes("100 NODES, the other way", r -> r.t().node(r.t().both(1, 0), 0, 2), 100)
            .takes("99 NODES", r -> r.t().node(r.t().both(1, 1), 0, 2), 99);
        at(15, "if it cannot be", r -> {
            r.readOnes(97);
            r.readOnes(98);
            r.readOnes(99);
            r.read("1");
        }).takes("100 NODES", r -> r.t().node(r.t().both(0, 3), 0, 2), 100)
            .refuses("101 NODES", r -> r.t().both(1, 3), ISE)
            .refuses("102 NODES", r -> r.t().both(3, 2), ISE)
            .refuses("201 NODES", r -> r.t().both(2, 2), ISE);
        at(15, "if it cannot be", reading("1", deep(11), deep(12)))
            .takes("DEPTH 12", r -> r.least(r.t().both(1, 0)), "[" + deep(11) + ",1]")
            .takes("DEPTH 12, the other way", r -> r.least(r.t().both(0, 1)), "[1," + deep(11) + "]")
            .refuses("DEPTH 13", r -> r.t().both(2, 0), ISE)
            .refuses("DEPTH 13, the other way", r -> r.t().both(0, 2), ISE);
    }

    private static void undo() {
        at(16, "if there is none").refuses("none", r -> r.t().undo(), ISE);
        at(16, "if there is none", reading("1"))
            .takes("one", r -> r.t().undo() + " " + r.t().sum(0) + " " + r.t().sum(6), "0 0 0")
            .takes("one more than there are", r -> r.t().undo() + " " + r.answer(s -> s.t().undo()), "0 " + ISE);
        at(16, "Returns how many are left.", r -> {
            r.read("1");
            r.fill(40);
        }).takes("of 40", r -> r.t().undo(), 39)
            .takes("all of them", r -> {
                int left = 40;
                while (left > 0) {
                    left = r.t().undo();
                }
                return left + " " + r.t().sum(0) + " " + r.answer(s -> s.t().print(0, 0));
            }, "0 0 " + IOOBE);
        at(16, "(FINDS, QUARRELS and COMPLAINTS stay as they are)", r -> {
            reading("{\"a\":0}", "{\"a\":1}", "{\"a\":2}", "{\"items\":false,\"kind\":\"row\"}").on(r);
            r.t().join(0, 1, 2);
            r.t().check(3, 2);
            r.finds(2, "/a");
        }).takes("behind one", r -> r.t().undo() + " " + r.t().sum(4) + " " + r.t().find(0) + " " + r.complaints() + " " + r.t().quarrels(),
            "3 1 1 0:1 1")
            .takes("behind all", r -> {
                for (int i = 0; i < 4; i++) {
                    r.t().undo();
                }
                return r.t().sum(4) + " " + r.t().find(0) + " " + r.complaints() + " " + r.quarrel(0) + " "
                    + r.answer(s -> s.t().find(1)) + " " + r.answer(s -> s.t().complaint(1, 0)) + " " + r.answer(s -> s.t().quarrel(1));
            }, "1 1 0:1 /a " + IOOBE + " " + IOOBE + " " + IOOBE);
        at(16, "there are at most 40; none changes, and the last one can be taken back", reading("[1]", "{\"a\":[2]}", "[[3]]"))
            .takes("the last one", r -> r.t().undo() + " " + r.least(0) + " " + r.least(1), "2 [1] {\"a\":[2]}")
            .takes("another one in its place", r -> r.t().undo() + " " + r.read("7") + " " + r.least(2) + " " + r.t().node(2, 0, 2), "2 2 7 1");
    }
}
