/** Boundaries of promises 30 to 35: tables, growing, sums, and whether a DOCUMENT is sound. */
final class TableBoundaries extends Boundaries {
    private static final String COLUMNS_REFUSED = "if it is no ROW of MAPS, it would be no DOCUMENT, or there are 40";
    private static final String ROWS_REFUSED = "if it is no such MAP, it would be no DOCUMENT, or there are 40";
    private static final String VARY_REFUSED = "if it would be no DOCUMENT, or there are 40";

    static void all() {
        columns();
        columnsTooMuch();
        rows();
        rowsTooMuch();
        grow();
        draws();
        grown();
        vary();
        varyTooMuch();
        sum();
        isSound();
        asks();
    }

    /** At a sentence: a DOCUMENT, and what comes by it; null, if it is refused. */
    private static void comes(At test, String doc, Call call, String want) {
        At here = test.behind(reading(doc));
        if (want == null) {
            here.refuses("of " + doc, call, ISE);
        } else {
            here.takes("of " + doc, r -> call.on(r) + " " + r.least(1) + " " + r.least(0).equals(doc), "1 " + want + " true");
        }
    }

    private static void toColumns(At test, String doc, String want) {
        comes(test, doc, r -> r.t().columns(0), want);
    }

    private static void toRows(At test, String doc, String want) {
        comes(test, doc, r -> r.t().rows(0), want);
    }

    // ---- columns, rows

    private static void columns() {
        documents(30, "[{}]", "[{\"a\":1}]", (r, doc) -> r.least(r.t().columns(doc)), "{}", "{\"a\":[1]}");
        forty(30, COLUMNS_REFUSED, reading("[{\"a\":1}]"), r -> r.t().columns(0));
        at(30, SEVERAL, r -> {
            r.read("1");
            r.fill(40);
        }).refuses("no DOCUMENT, of 40", r -> r.t().columns(40), IOOBE);
        At test = at(30, COLUMNS_REFUSED);
        for (String no : new String[] {"null", "true", "1", "\"\"", "{}", "{\"a\":{}}", "[1]", "[[]]", "[null]", "[{},1]", "[1,{}]", "[{},{},[]]",
            "[{\"a\":1},\"a\"]", "[[{\"a\":1}]]"}) {
            toColumns(test, no, null);
        }
        toColumns(test, "[{}]", "{}");
        toColumns(test, "[{\"a\":1}]", "{\"a\":[1]}");
        At table = at(30, "of all KEYS, in the order in which they are met, row by row, to ROWS of as many VALUES as there are MAPS, "
            + "NOTHING where a MAP has not that KEY");
        toColumns(table, "[]", "{}");
        toColumns(table, "[{},{}]", "{}");
        toColumns(table, "[{},{\"a\":1}]", "{\"a\":[null,1]}");
        toColumns(table, "[{\"a\":1},{}]", "{\"a\":[1,null]}");
        toColumns(table, "[{\"b\":1,\"a\":[2]},{\"c\":{\"d\":3},\"a\":null},{\"b\":4}]",
            "{\"b\":[1,null,4],\"a\":[[2],null,null],\"c\":[null,{\"d\":3},null]}");
        toColumns(table, "[{\"abcdefghijkl\":1},{\"abcdefghijkm\":2,\"\":3}]",
            "{\"abcdefghijkl\":[1,null],\"abcdefghijkm\":[null,2],\"\":[null,3]}");
        toColumns(table, "[{\"a\":" + deep(10) + "}]", "{\"a\":[" + deep(10) + "]}");
    }

    /** So many MAPS, of which the first one alone has so many KEYS. */
    private static String table(int maps, int keys, String value) {
        StringBuilder b = new StringBuilder("[{\"a\":").append(value);
        for (int i = 1; i < keys; i++) {
            b.append(",\"").append((char) ('a' + i)).append("\":1");
        }
        return b.append("},").append(list("{}", maps - 1)).append("]").toString();
    }

    private static void columnsTooMuch() {
        At test = at(30, "it would be no DOCUMENT");
        At nine = test.behind(reading(table(10, 9, "1")));
        nine.takes("9 COLUMNS of 10: 100 NODES", r -> r.t().node(r.t().columns(0), 0, 2), 100);
        toColumns(test, table(9, 10, "1"), null);
        toColumns(test, table(10, 9, "[1]"), null);
        test.behind(reading(table(10, 9, "[]"))).takes("100 NODES with an empty ROW", r -> r.t().node(r.t().columns(0), 0, 2), 100);
        toColumns(test, table(11, 9, "1"), null);
        toColumns(test, table(24, 4, "1"), null);
        test.behind(reading(table(32, 3, "1"))).takes("3 COLUMNS of 32: 100 NODES", r -> r.t().node(r.t().columns(0), 0, 2), 100);
        toColumns(test, table(33, 3, "1"), null);
        test.behind(reading("[{\"a\":[" + list("1", 96) + "]}]")).takes("one COLUMN of one: 99 NODES", r -> r.t().node(r.t().columns(0), 0, 2), 99);
        test.behind(reading("[{\"a\":[" + list("1", 97) + "]}]")).takes("one COLUMN of one: 100 NODES", r -> r.t().node(r.t().columns(0), 0, 2), 100);
    }

    private static void rows() {
        documents(31, "{\"a\":[]}", "{\"a\":[1]}", (r, doc) -> r.least(r.t().rows(doc)), "[]", "[{\"a\":1}]");
        forty(31, ROWS_REFUSED, reading("{\"a\":[1]}"), r -> r.t().rows(0));
        at(31, SEVERAL, r -> {
            r.read("1");
            r.fill(40);
        }).refuses("no DOCUMENT, of 40", r -> r.t().rows(40), IOOBE);
        At test = at(31, "if it is no such MAP");
        for (String no : new String[] {"null", "true", "1", "\"\"", "[]", "[[1]]", "{}", "{\"a\":1}", "{\"a\":{}}", "{\"a\":{\"b\":1}}",
            "{\"a\":null}", "{\"a\":\"b\"}", "{\"a\":[1],\"b\":1}", "{\"a\":1,\"b\":[1]}", "{\"a\":[1],\"b\":{\"c\":1}}", "{\"a\":[1],\"b\":[]}",
            "{\"a\":[],\"b\":[1]}", "{\"a\":[1,2],\"b\":[1]}", "{\"a\":[1],\"b\":[2],\"c\":[3,4]}", "{\"a\":[1],\"b\":[[2,3],4]}"}) {
            toRows(test, no, null);
        }
        At told = at(31, "A MAP of ROWS, one at least, of as many VALUES each, comes as a ROW of MAPS, of all its KEYS in their order.");
        toRows(told, "{\"a\":[]}", "[]");
        toRows(told, "{\"a\":[],\"b\":[]}", "[]");
        toRows(told, "{\"a\":[1]}", "[{\"a\":1}]");
        toRows(told, "{\"b\":[1,[2]],\"a\":[{\"c\":3},null]}", "[{\"b\":1,\"a\":{\"c\":3}},{\"b\":[2],\"a\":null}]");
        toRows(told, "{\"a\":[1],\"b\":[[2,3]]}", "[{\"a\":1,\"b\":[2,3]}]");
        toRows(told, "{\"\":[1],\"abcdefghijkl\":[2]}", "[{\"\":1,\"abcdefghijkl\":2}]");
        toRows(told, "{\"a\":[" + deep(10) + "]}", "[{\"a\":" + deep(10) + "}]");
    }

    private static String columnsOf(int columns, int rows) {
        StringBuilder b = new StringBuilder("{");
        for (int i = 0; i < columns; i++) {
            b.append(i > 0 ? "," : "").append('"').append((char) ('a' + i)).append("\":[").append(list("1", rows)).append(']');
        }
        return b.append('}').toString();
    }

    private static void rowsTooMuch() {
        At test = at(31, "it would be no DOCUMENT");
        test.behind(reading(columnsOf(8, 11))).takes("11 MAPS of 8: 100 NODES", r -> r.t().node(r.t().rows(0), 0, 2), 100);
        toRows(test, columnsOf(9, 10), null);
        toRows(test, columnsOf(4, 20), null);
        toRows(test, columnsOf(1, 50), null);
        test.behind(reading(columnsOf(1, 49))).takes("49 MAPS of one: 99 NODES", r -> r.t().node(r.t().rows(0), 0, 2), 99);
        toRows(test, columnsOf(1, 98), null);
        toRows(test, columnsOf(8, 11).replace("{\"a\":[1", "{\"a\":[[1]"), null);
        test.behind(reading("{\"a\":[1,2],\"b\":[[" + list("1", 91) + "],3]}")).takes("99 NODES of 98", r ->
            r.t().node(0, 0, 2) + " " + r.t().node(r.t().rows(0), 0, 2), "98 98");
    }

    // ---- grow, vary

    private static void grow() {
        at(32, "`seed`: 0 to 65535").refuses("-1", r -> r.t().grow(-1, 1), IAE)
            .takes("0", r -> r.least(r.t().grow(0, 1)), "[]")
            .takes("65535", r -> r.least(r.t().grow(65535, 3)), "[null,{\"d\":\"\"}]")
            .refuses("65536", r -> r.t().grow(65536, 1), IAE)
            .refuses("the greatest int", r -> r.t().grow(Integer.MAX_VALUE, 1), IAE)
            .refuses("the least int", r -> r.t().grow(Integer.MIN_VALUE, 1), IAE);
        at(32, "`size`: 1 to 3").refuses("0", r -> r.t().grow(0, 0), IAE)
            .takes("1", r -> r.least(r.t().grow(0, 1)), "[]")
            .takes("3", r -> r.least(r.t().grow(0, 3)), "[{\"a\":246e1},{\"d\":true}]")
            .refuses("4", r -> r.t().grow(0, 4), IAE)
            .refuses("-1", r -> r.t().grow(0, -1), IAE);
        at(32, "if an argument is out of range").refuses("both", r -> r.t().grow(-1, 0), IAE)
            .refuses("size, the greatest int", r -> r.t().grow(1, Integer.MAX_VALUE), IAE);
        forty(32, "if there are 40 DOCUMENTS", reading("1"), r -> r.t().grow(6, 1));
        at(32, SEVERAL, r -> {
            r.read("1");
            r.fill(40);
        }).refuses("no seed, of 40", r -> r.t().grow(65536, 1), IAE).refuses("no size, of 40", r -> r.t().grow(0, 4), IAE);
    }

    /** At a sentence: a seed, a size and what grows by them, reckoned from the document's words by another program. */
    private static void grows(At test, int seed, int size, String want) {
        test.takes("seed " + seed + ", size " + size, r -> r.least(r.t().grow(seed, size)), want);
    }

    private static void draws() {
        At test = at(32, "a seed x becomes (25173 times x, and 13849, together) modulo 65536 with each DRAW; "
            + "a DRAW of n is x divided by 16 then, rounded down, modulo n");
        grows(test, 0, 2, "[{\"a\":246e1,\"c\":false}]");
        grows(test, 0, 3, "[{\"a\":246e1},{\"d\":true}]");
        grows(test, 65535, 3, "[null,{\"d\":\"\"}]");
        grows(test, 60881, 2, "{\"b\":true,\"c\":[\"\",{\"b\":\"\",\"a\":1e-2}]}");
        grows(test, 65133, 3, "[{\"c\":[null,null,null],\"e\":[399e-2,\"a\",275e-1],\"d\":{\"a\":null,\"d\":73e-2,\"b\":192e1}},"
            + "[\"c\",{\"c\":\"c\",\"a\":\"c\"}]]");
        At levels = at(32, "t is a DRAW of 8, at level 0 4 and a DRAW of 4, at level 3 a DRAW of 4");
        grows(levels, 5, 1, "[]");
        grows(levels, 0, 1, "[]");
        grows(levels, 4, 1, "{}");
        grows(levels, 14, 1, "{}");
        grows(levels, 15, 1, "[[{}]]");
        grows(levels, 17161, 2, "[[[54]]]");
        grows(levels, 42691, 3, "[{\"a\":true,\"e\":[\"\",999]}]");
        at(32, "at level 3 a DRAW of 4").takes("the greatest DEPTH", r -> r.t().node(r.t().grow(17161, 2), 0, 1), 3);
        At many = at(32, "n being a DRAW of one more than size (0 to size)");
        grows(many, 65535, 1, "[]");
        grows(many, 597, 1, "[6]");
        grows(many, 10214, 1, "{\"e\":6}");
        grows(many, 65535, 2, "[]");
        grows(many, 1383, 2, "[[],3]");
        grows(many, 17812, 2, "{\"a\":{},\"b\":0}");
        grows(many, 60833, 3, "[null,{},3]");
        grows(many, 35655, 3, "{\"a\":\"\",\"e\":5,\"d\":{}}");
    }

    private static void grown() {
        At truths = at(32, "1: true, if a DRAW of 2 is 1, else false");
        grows(truths, 39, 1, "[true]");
        grows(truths, 12, 1, "[false]");
        grows(truths, 6, 1, "[null]");
        At numbers = at(32, "2: a NUMBER, a DRAW of 1000 times 10 to a DRAW of 5 less 2");
        grows(numbers, 34578, 2, "[0]");
        grows(numbers, 45132, 2, "[[{},{}],0]");
        grows(numbers, 38128, 1, "[0]");
        grows(numbers, 15193, 1, "{\"b\":998e-2}");
        grows(numbers, 55765, 1, "[998]");
        grows(numbers, 51302, 1, "{\"b\":998e2}");
        grows(numbers, 36554, 3, "{\"c\":[[999e2,\"a\",683e2]]}");
        grows(numbers, 34742, 2, "[{\"a\":[1e2,null]},256e1]");
        grows(numbers, 21795, 2, "{\"b\":[{\"e\":\"\",\"b\":1},[]]}");
        grows(numbers, 60085, 2, "{\"a\":[[null,1e2],false],\"d\":false}");
        grows(numbers, 56158, 2, "[{\"b\":{\"b\":true,\"d\":1e4}},[]]");
        At texts = at(32, "3: a TEXT of a DRAW of 4 signs, each 97 and a DRAW of 3");
        grows(texts, 57, 1, "[\"\"]");
        grows(texts, 158, 1, "[\"a\"]");
        grows(texts, 1654, 2, "[\"ccc\"]");
        grows(texts, 5622, 2, "[\"aaa\"]");
        At twice = at(32, "a KEY of one sign, 97 and a DRAW of 5, and a VALUE at the next level, which takes the place of one that is there");
        grows(twice, 41644, 2, "{\"e\":5}");
        grows(twice, 11893, 3, "{\"a\":4}");
        grows(twice, 2796, 3, "{\"d\":[],\"a\":4}");
        grows(twice, 32419, 3, "{\"b\":[3],\"a\":{}}");
        grows(twice, 17698, 3, "{\"e\":[2],\"b\":\"a\"}");
        grows(twice, 13100, 3, "{\"e\":{},\"c\":5}");
    }

    private static void vary() {
        documents(33, "1", "[{}]", (r, doc) -> r.least(r.t().vary(doc, 0)), "{\"d\":834e-1}", "[{\"d\":834e-1}]");
        forty(33, VARY_REFUSED, reading("1"), r -> r.t().vary(0, 0));
        String doc = "{\"a\":[1,{\"b\":2}],\"c\":[[],3]}";
        at(33, "`seed`: 0 to 65535", reading(doc)).refuses("-1", r -> r.t().vary(0, -1), IAE)
            .takes("0", r -> r.least(r.t().vary(0, 0)), "{\"a\":{\"d\":834e-1},\"c\":[[],3]}")
            .takes("65535", r -> r.least(r.t().vary(0, 65535)), "{\"a\":[1,{\"b\":64e-1}],\"c\":[[],3]}")
            .refuses("65536", r -> r.t().vary(0, 65536), IAE);
        at(33, "if seed is out of range", reading(doc)).refuses("the greatest int", r -> r.t().vary(0, Integer.MAX_VALUE), IAE)
            .refuses("the least int", r -> r.t().vary(0, Integer.MIN_VALUE), IAE);
        at(33, SEVERAL, r -> {
            r.read("1");
            r.fill(40);
        }).refuses("neither DOCUMENT nor seed, of 40", r -> r.t().vary(40, 65536), IOOBE)
            .refuses("no DOCUMENT, of 40", r -> r.t().vary(-1, 0), IOOBE)
            .refuses("no seed, of 40", r -> r.t().vary(0, 65536), IAE);
        at(33, "by DRAWS behind a first one of how many NODES it has", reading("[1]", "[1,2]", "5"))
            .takes("the first of 3 NODES", r -> r.least(r.t().vary(1, 5)), "null")
            .takes("the second of 3 NODES", r -> r.least(r.t().vary(1, 0)), "[{\"d\":834e-1},2]")
            .takes("the last of 3 NODES", r -> r.least(r.t().vary(1, 1)), "[1,false]")
            .takes("the only one", r -> r.least(r.t().vary(2, 65535)), "64e-1")
            .takes("none changes", r -> r.t().vary(1, 5) + " " + r.least(1), "3 [1,2]");
    }

    private static void varyTooMuch() {
        at(33, VARY_REFUSED, r -> {
            r.readOnes(98);
            r.readOnes(99);
        }).takes("99 NODES, one for one", r -> r.t().node(r.t().vary(0, 214), 0, 2), 99)
            .takes("100 NODES, two for the first VALUE", r -> r.t().node(r.t().vary(0, 465), 0, 2), 100)
            .takes("100 NODES, two for the last VALUE", r -> r.t().node(r.t().vary(0, 171), 0, 2), 100)
            .refuses("101 NODES, three for the first VALUE", r -> r.t().vary(0, 1399), ISE)
            .refuses("101 NODES, three for the last VALUE", r -> r.t().vary(0, 1904), ISE)
            .refuses("101 NODES, two for the last of 100", r -> r.t().vary(1, 599), ISE)
            .refuses("102 NODES, three for the last of 100", r -> r.t().vary(1, 90), ISE)
            .takes("one for the whole of 100", r -> r.least(r.t().vary(1, 94)), "[]");
        at(33, VARY_REFUSED, reading(times("[", 12) + "1" + times("]", 12)))
            .takes("DEPTH 11", r -> r.least(r.t().vary(0, 122)), times("[", 11) + "false" + times("]", 11))
            .takes("DEPTH 12, a MAP for the last ROW", r -> r.least(r.t().vary(0, 126)), times("[", 11) + "{\"c\":true}" + times("]", 11))
            .takes("DEPTH 12, a NUMBER for the NUMBER", r -> r.least(r.t().vary(0, 109)), times("[", 12) + "558e-2" + times("]", 12))
            .refuses("DEPTH 13, a MAP for the NUMBER", r -> r.t().vary(0, 110), ISE);
    }

    // ---- sum, isSound

    private static void sum() {
        Lead some = r -> {
            r.readOnes(99);
            reading("{\"items\":false}", "\"abc\"").on(r);
            r.finds(0, "/**");
            r.t().check(1, 0);
            r.t().rule(2);
            r.t().print(2, 0);
            r.type("/x");
        };
        At test = at(34, "`what`: 0 to 6", some);
        int[] sums = {3, 2, 5, 2, 100, 99, 103};
        for (int what = 0; what <= 6; what++) {
            int asked = what;
            test.asks("what " + what, r -> r.t().sum(asked), sums[what]);
        }
        test.refuses("what -1", r -> r.t().sum(-1), IAE).refuses("what 7", r -> r.t().sum(7), IAE);
        at(34, "if what is out of range", some).refuses("the greatest int", r -> r.t().sum(Integer.MAX_VALUE), IAE)
            .refuses("the least int", r -> r.t().sum(Integer.MIN_VALUE), IAE);
        at(34, "6 NODES of all DOCUMENTS", r -> {
            r.readOnes(99);
            r.fill(40);
        }).takes("40 times 100", r -> r.t().sum(0) + " " + r.t().sum(6), "40 4000")
            .takes("39 times 100", r -> r.t().undo() + " " + r.t().sum(6), "39 3900");
        at(34, "1 signs of THE PAGE", r -> r.type(times(" ", 400))).asks("400", r -> r.t().sum(1), 400);
    }

    private static void isSound() {
        documents(35, "1", "[2]", (r, doc) -> r.t().isSound(doc), true, true);
        StringBuilder codes = new StringBuilder("[");
        for (int i = 0; i < 60; i += 20) {
            codes.append(i > 0 ? "," : "").append('"');
            for (int c = 0; c < 20; c++) {
                codes.append(String.format("\\u00%02x", i < 40 ? i + c : 236 + c));
            }
            codes.append('"');
        }
        At test = at(35, "to read each of the three writings of a DOCUMENT, by THE RULE 0, gives what is EQUAL to it");
        String[] sound = {"null", "true", "\"\"", "[]", "{}", deep(12), times("{\"\":", 12) + "1" + times("}", 12), "[" + list("1", 99) + "]",
            "[" + list("{\"a\":1}", 49) + "]", "[1e99,-1e-99,0,10,0.1,-" + times("9", 24) + "e-99," + times("9", 24) + "e99]",
            "\"" + times("\\u00ff", 40) + "\"", "{\"" + times("\\u0000", 12) + "\":\"" + times("\\\\", 40) + "\"}", codes + "]",
            "{\"b\":1,\"a\":[{\"d\":2,\"c\":{}}],\"\":null}"};
        for (String s : sound) {
            test.behind(reading(s)).asks("isSound of " + s, r -> r.t().isSound(0), true);
            for (int how = 1; how <= 2; how++) {
                int told = how;
                test.behind(r -> {
                    r.t().rule(told);
                    r.read(s);
                }).asks("by THE RULE " + how + ", isSound of " + s, r -> r.t().isSound(0), true);
            }
        }
        at(35, "always so", r -> {
            r.t().rule(2);
            r.read("{\"a\":1,\"b\":[2],\"a\":{\"c\":[3]},\"b\":4}");
            r.put(0, 0, "/a/c/-");
            r.page("/b").t().cut(1);
            r.t().both(1, 2);
            r.t().patch(0, 2);
            r.t().lay(0, 4);
            r.t().turn(0, 4);
            r.t().join(0, 0, 1);
            r.t().standard();
            r.t().grow(65133, 3);
            r.t().vary(9, 0);
            r.t().sorted(9);
            r.t().take(9, 1);
            r.t().columns(r.read("[{\"a\":1},{\"b\":2}]"));
            r.t().rows(14);
        }).takes("all that came", r -> {
            StringBuilder b = new StringBuilder();
            int documents = r.t().sum(0);
            for (int doc = 0; doc < documents; doc++) {
                b.append(r.t().isSound(doc) ? "" : " " + doc + " is not");
            }
            return documents + b.toString();
        }, "16");
    }

    // ---- what holds for all

    private static void asks() {
        at(34, "To ask changes nothing.", r -> {
            reading("{\"a\":0,\"b\":[1]}", "{\"a\":1,\"b\":[1]}", "{\"a\":2,\"b\":[1]}", "7", "{\"items\":false,\"keys\":{\"a\":false}}").on(r);
            r.t().join(0, 1, 2);
            r.t().check(4, 0);
            r.finds(0, "/**");
            r.t().print(1, 0);
            r.type("/b");
        }).asks("equal", r -> r.t().equal(0, 1), false)
            .asks("compare", r -> r.t().compare(3, 3), 0)
            .asks("node", r -> r.t().node(0, 2, 0), 4)
            .asks("digest", r -> r.t().digest(0, 0) == r.t().digest(0, 0), true)
            .asks("find", r -> r.t().find(3), 3)
            .asks("quarrels", r -> r.t().quarrels(), 1)
            .asks("complaint", r -> r.complaints(), "1:0")
            .asks("paper", r -> r.paper(), "{\"a\":1,\"b\":[1]}")
            .asks("sum", r -> r.t().sum(1) + r.t().sum(4), 6)
            .asks("isSound", r -> r.t().isSound(0), true)
            .asks("rule, told as it was", r -> r.t().rule(0), 0);
    }
}
