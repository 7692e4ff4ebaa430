/** Boundaries of promises 17 to 20: PATHS, and changes by them. */
final class PathBoundaries extends Boundaries {
    private static final String STAYS = "if THE PAGE is no PATH (it stays)";
    private static final String PUT_REFUSED =
        "if THE PAGE is no PATH, that cannot be, or it would be no DOCUMENT, or there are 40 (THE PAGE stays)";
    private static final String CUT_REFUSED = "if THE PAGE is no PATH, that cannot be, or there are 40 DOCUMENTS (THE PAGE stays)";
    private static final String[] NO_PATHS = {"a", " ", "~", "~0", "\n", " /a", "/~", "/~2", "/~a", "/~~0", "/a~", "/a~/b", "/~/", "/a/~",
        "/~0~", "/a~\n", "?a=1", "*", "0", "-"};

    static void all() {
        select();
        paths();
        stars();
        places();
        fromTheEnd();
        matches();
        find();
        put();
        putIntoMap();
        putIntoRow();
        putNowhere();
        putTooMuch();
        cut();
        cutRefused();
        plainPaths();
    }

    private static void finding(At test, String path, String finds) {
        test.takes("select by " + path, r -> r.finds(0, path), finds);
    }

    // ---- select, find

    private static void select() {
        documentsAt(17, "/**", reading("1", "[2]"), (r, doc) -> r.t().select(doc), 1, 2);
        at(17, STAYS, reading("{\"a\":1}", "[1]")).takes("an empty one", r -> r.t().select(0) + " " + r.t().find(0), "1 0")
            .takes("THE PAGE is empty then", r -> r.page("/a").t().select(0) + " " + r.t().sum(1), "1 0")
            .takes("THE PAGE is empty then, also without FINDS", r -> r.page("/x").t().select(0) + " " + r.t().sum(1), "0 0");
        for (String no : NO_PATHS) {
            at(17, STAYS, r -> {
                r.read("{\"a\":1}");
                r.finds(0, "/**");
                r.page(no);
            }).refuses("no PATH: " + no, r -> r.t().select(0), ISE);
            at(17, SEVERAL, r -> {
                r.read("{\"a\":1}");
                r.page(no);
            }).refuses("no DOCUMENT, no PATH: " + no, r -> r.t().select(1), IOOBE);
        }
        at(17, STAYS, r -> {
            r.read("{\"a\":1}");
            r.page("/~2").t();
        }).takes("what stays", r -> r.answer(s -> s.t().select(0)) + " " + r.t().sum(1) + " " + r.came("x"), ISE + " 3 fault 0");
        at(17, "if there is no such DOCUMENT", r -> {
            r.read("1");
            r.page("/a");
        }).refuses("1", r -> r.t().select(1), IOOBE).refuses("-1", r -> r.t().select(-1), IOOBE);
        at(17, "FINDS are the NODES that select() found latest", reading("[1,[2,3]]"))
            .takes("4, then 1", r -> r.finds(0, "/**/*") + "; " + r.finds(0, "/1") + "; " + r.answer(s -> s.t().find(1)),
                "1 2 3 4; 2; " + IOOBE)
            .takes("4, then none", r -> r.finds(0, "/**/*") + "; " + r.finds(0, "/2") + "; " + r.answer(s -> s.t().find(0)),
                "1 2 3 4; ; " + IOOBE);
        at(17, "FINDS are the NODES that select() found latest", r -> r.readOnes(99))
            .takes("100", r -> r.page("/**").t().select(0) + " " + r.t().find(0) + " " + r.t().find(99) + " "
                + r.answer(s -> s.t().find(100)), "100 0 99 " + IOOBE)
            .takes("100, each but once", r -> r.page("/**/**/**").t().select(0), 100)
            .takes("the longest PATH", r -> r.page(times("/**", 133) + "/").t().select(0), 0)
            .takes("400 STEPS", r -> r.page(times("/", 400)).t().select(0), 0);
    }

    private static void paths() {
        // 1 the empty KEY, 2 its empty KEY, 3 a, 4 ~, 5 /, 6 ~1, 7 "end of line", 8 a ROW, 9 its VALUE
        At test = at(17, "A PATH is a text of STEPS, each / and a WORD, all signs up to the next / or the end; it may be empty.",
            reading("{\"\":{\"\":2},\"a\":3,\"~\":4,\"/\":5,\"~1\":6,\"\\n\":7,\" \":[9]}"));
        finding(test, "", "0");
        finding(test, "/", "1");
        finding(test, "//", "2");
        finding(test, "///", "");
        finding(test, "/a", "3");
        finding(test, "/a/", "");
        finding(test, "/aa", "");
        finding(test, "/\n", "7");
        finding(test, "/ ", "8");
        finding(test, "/ /0", "9");
        At tildes = at(17, "In WORDS ~0 stands for ~, and ~1 for /; with another sign, or none, behind a ~ it is no PATH.",
            reading("{\"\":{\"\":2},\"a\":3,\"~\":4,\"/\":5,\"~1\":6,\"\\n\":7,\" \":[9]}"));
        finding(tildes, "/~0", "4");
        finding(tildes, "/~1", "5");
        finding(tildes, "/~01", "6");
        finding(tildes, "/~00", "");
        finding(tildes, "/~10", "");
        for (String no : new String[] {"/~", "/~2", "/~/", "/~~", "/~:", "/~0~", "/a/b~"}) {
            tildes.behind(r -> {
                r.read("{\"~\":1}");
                r.page(no);
            }).refuses("no PATH: " + no, r -> r.t().select(0), ISE);
        }
    }

    private static void stars() {
        // 0 the whole, 1 a ROW of 2, 3 its VALUES, 4 an empty ROW, 5 a MAP of 6, 7 an empty MAP, 8 a TEXT
        Lead lead = reading("[[1,2],[],{\"*\":3},{},\"**\"]");
        At star = at(17, "* : all VALUES of a ROW or MAP, in order", lead);
        finding(star, "/*", "1 4 5 7 8");
        finding(star, "/0/*", "2 3");
        finding(star, "/1/*", "");
        finding(star, "/2/*", "6");
        finding(star, "/3/*", "");
        finding(star, "/4/*", "");
        finding(star, "/*/*", "2 3 6");
        finding(star, "/*/*/*", "");
        finding(star, "/2/***", "");
        At all = at(17, "** : the VALUE itself, and all its NODES, by numbers", lead);
        finding(all, "/**", "0 1 2 3 4 5 6 7 8");
        finding(all, "/0/**", "1 2 3");
        finding(all, "/1/**", "4");
        finding(all, "/4/**", "8");
        finding(all, "/0/0/**", "2");
        finding(all, "/5/**", "");
        At once = at(17, "of what one STEP finds each NODE comes but once, the first time that it is met", lead);
        finding(once, "/**/**", "0 1 2 3 4 5 6 7 8");
        finding(once, "/**/*", "1 4 5 7 8 2 3 6");
        finding(once, "/**/*/**", "1 2 3 4 5 6 7 8");
        finding(once, "/**/0", "1 2");
        finding(once, "/**/-1", "8 3");
    }

    private static String elevenAndHundred() {
        return "{\"r\":[10,11,12,13,14,15,16,17,18,19,[20,21]],\"m\":{\"0\":1,\"00\":2,\"-1\":3,\"-\":4,\"10\":5},\"n\":6}";
    }

    private static void places() {
        // 1 r, 2 to 11 its NUMBERS, 12 the last of it with 13 and 14, 15 m with 16 to 20, 21 n
        At test = at(17, "if it is a figure, or figures the first of which is not 0, the VALUE at that place, if it is", reading(elevenAndHundred()));
        finding(test, "/r/0", "2");
        finding(test, "/r/9", "11");
        finding(test, "/r/10", "12");
        finding(test, "/r/11", "");
        finding(test, "/r/10/1", "14");
        finding(test, "/r/10/2", "");
        finding(test, "/r/00", "");
        finding(test, "/r/01", "");
        finding(test, "/r/010", "");
        finding(test, "/r/", "");
        finding(test, "/r/+1", "");
        finding(test, "/r/1 ", "");
        finding(test, "/r/ 1", "");
        finding(test, "/r/1.0", "");
        finding(test, "/r/1e0", "");
        finding(test, "/r//", "");
        finding(test, "/r/:", "");
        finding(test, "/r/1a", "");
        finding(test, "/r/100", "");
        finding(test, "/r/1000", "");
        finding(test, "/r/256", "");
        finding(test, "/r/65536", "");
        finding(test, "/r/4294967296", "");
        finding(test, "/r/4294967297", "");
        finding(test, "/r/18446744073709551616", "");
        finding(test, "/r/1" + times("0", 390), "");
        finding(test, "/n/0", "");
        At map = at(17, "Any other WORD: of a MAP the VALUE of that KEY", reading(elevenAndHundred()));
        finding(map, "/m/0", "16");
        finding(map, "/m/00", "17");
        finding(map, "/m/-1", "18");
        finding(map, "/m/-", "19");
        finding(map, "/m/10", "20");
        finding(map, "/m/1", "");
        finding(map, "/m/", "");
        finding(map, "/m/" + times("1", 390), "");
    }

    private static void fromTheEnd() {
        At test = at(17, "- and such figures, but not 0, the one so far from the end (-1 the last one)", reading(elevenAndHundred()));
        finding(test, "/r/-1", "12");
        finding(test, "/r/-2", "11");
        finding(test, "/r/-10", "3");
        finding(test, "/r/-11", "2");
        finding(test, "/r/-12", "");
        finding(test, "/r/-0", "");
        finding(test, "/r/-00", "");
        finding(test, "/r/-01", "");
        finding(test, "/r/-", "");
        finding(test, "/r/--1", "");
        finding(test, "/r/-1-", "");
        finding(test, "/r/-999", "");
        finding(test, "/r/-4294967295", "");
        finding(test, "/r/-4294967297", "");
        finding(test, "/r/-1/-1", "14");
        finding(test, "/r/-1/-2", "13");
        finding(test, "/r/-1/-3", "");
        At empty = at(17, "- and such figures, but not 0, the one so far from the end (-1 the last one)", reading("[]"));
        finding(empty, "/-1", "");
        finding(empty, "/0", "");
    }

    private static void matches() {
        // 1 {k:1}, 3 {k:"1"}, 5 {k:[1,2]}, 9 a ROW of 10 {k:1}, 12 {=:"="}, 14 {~:"/"}, 16 {}, 17 a TEXT, 18 {k:10}, 20 {empty:{}}
        At test = at(17, "?k=v, k being all signs up to the first =",
            reading("[{\"k\":1.0},{\"k\":\"1\"},{\"k\":[1,2]},[{\"k\":1}],{\"=\":\"=\"},{\"~\":\"/\"},{},\"k\",{\"k\":10},{\"\":{}}]"));
        finding(test, "/?k=1", "1");
        finding(test, "/?k=2", "");
        finding(test, "/?k=\"1\"", "3");
        finding(test, "/?k=[1,2]", "5");
        finding(test, "/?k=[1, 2]", "");
        finding(test, "/?k=1.0", "");
        finding(test, "/?k=10", "");
        finding(test, "/?k=1e1", "18");
        finding(test, "/?k=", "");
        finding(test, "/?k=1 ", "");
        finding(test, "/?=={}", "");
        finding(test, "/?={}", "20");
        finding(test, "/?==\"=\"", "");
        finding(test, "/?~0=\"~1\"", "14");
        finding(test, "/?~0=\"/\"", "");
        finding(test, "/**/?k=1", "1 10");
        finding(test, "/?k=[1,2]/k/1", "8");
        finding(test, "/7/?k=1", "");
        finding(test, "/6/?k=1", "");
        At none = at(17, "without an = none", reading("{\"?k\":1,\"k\":{\"k\":2},\"?\":3}"));
        finding(none, "/?k", "");
        finding(none, "/?", "");
        finding(none, "/?k=2", "2");
        finding(none, "/?k=2/k", "3");
        At least = at(17, "to a VALUE whose LEAST writing is v (in both with ~0 and ~1 as told)",
            reading("{\"x\":{\"k\":{\"b\":[],\"a\":\"~/\"}},\"y\":{\"k\":{\"a\":\"~/\",\"b\":[]}},\"z\":[{\"k\":null}]}"));
        finding(least, "/?k={\"b\":[],\"a\":\"~0~1\"}", "1");
        finding(least, "/?k={\"a\":\"~0~1\",\"b\":[]}", "5");
        finding(least, "/?k=null", "");
        finding(least, "/z/?k=null", "10");
        finding(least, "/*/?k=null", "10");
    }

    private static void find() {
        at(18, "if there are not so many", reading("[1,2]")).refuses("ahead of the first select()", r -> r.t().find(0), IOOBE)
            .refuses("-1", r -> r.t().find(-1), IOOBE);
        at(18, "if there are not so many", r -> {
            r.read("[1,2]");
            r.finds(0, "/*");
        }).refuses("-1", r -> r.t().find(-1), IOOBE)
            .asks("0", r -> r.t().find(0), 1)
            .asks("1", r -> r.t().find(1), 2)
            .refuses("2", r -> r.t().find(2), IOOBE)
            .refuses("the greatest int", r -> r.t().find(Integer.MAX_VALUE), IOOBE)
            .refuses("the least int", r -> r.t().find(Integer.MIN_VALUE), IOOBE);
        at(18, "if there are not so many", r -> {
            r.read("[1,2]");
            r.finds(0, "/5");
        }).refuses("0 of none", r -> r.t().find(0), IOOBE);
        at(18, "a FIND is told as its number", r -> {
            r.readOnes(99);
            r.finds(0, "/**");
        }).asks("the last of 100", r -> r.t().find(99), 99).refuses("one more", r -> r.t().find(100), IOOBE);
    }

    // ---- put

    /** At a sentence of promise 19: a DOCUMENT, a VALUE and THE PAGE, and what comes; null, if it is refused. */
    private static void puts(At test, String doc, String path, String value, String want) {
        At here = test.behind(r -> {
            reading(doc, value).on(r);
            r.page(path);
        });
        if (want == null) {
            here.refuses("put of " + value + " at " + path + " in " + doc, r -> r.t().put(0, 1), ISE);
            here.refuses("no VALUE to put", r -> r.t().put(0, 2), IOOBE);
        } else {
            here.takes("put of " + value + " at " + path + " in " + doc, r -> r.t().put(0, 1) + " " + r.t().sum(1) + " " + r.least(2),
                "2 0 " + want);
            here.takes("none changes", r -> r.t().put(0, 1) + " " + r.least(0) + " " + r.least(1), "2 " + doc + " " + value);
        }
    }

    private static void put() {
        documentsAt(19, "/0", reading("[1]", "[[2]]"), (r, doc) -> r.least(r.t().put(doc, 0)), "[[1],1]", "[[1],[2]]");
        documentsAt(19, "/0", reading("[1]", "[[2]]"), (r, doc) -> r.least(r.t().put(0, doc)), "[[1],1]", "[[[2]],1]");
        at(19, "if there is no such DOCUMENT, of both", r -> {
            r.read("[1]");
            r.page("/0");
        }).takes("both", r -> r.t().put(0, 0), 1).refuses("no first one", r -> r.t().put(1, 0), IOOBE)
            .refuses("no second one", r -> r.t().put(0, 1), IOOBE).refuses("neither", r -> r.t().put(-1, 1), IOOBE);
        forty(19, PUT_REFUSED, r -> {
            r.read("[1]");
            r.page("/0");
        }, r -> r.t().put(0, 0));
        for (String no : NO_PATHS) {
            puts(at(19, "if THE PAGE is no PATH, that cannot be"), "{\"a\":1}", no, "2", null);
        }
        at(19, SEVERAL, r -> {
            r.read("[1]");
            r.fill(40);
            r.page("~");
        }).refuses("no VALUE, no PATH, of 40", r -> r.t().put(0, 40), IOOBE).refuses("no DOCUMENT", r -> r.t().put(40, 0), IOOBE);
        puts(at(19, "if it is empty, it is the whole"), "[1]", "", "{\"a\":[2]}", "{\"a\":[2]}");
        puts(at(19, "if it is empty, it is the whole"), "\"a\"", "", "null", "null");
        at(19, "(THE PAGE stays)", r -> {
            reading("[1]", "2").on(r);
            r.page("/2");
        }).takes("what stays, with another DOCUMENT", r -> r.answer(s -> s.t().put(0, 1)) + " " + r.t().sum(1) + " "
            + r.answer(s -> s.t().put(1, 0)) + " " + r.t().wipe(), ISE + " 2 " + ISE + " 2");
    }

    private static void putIntoMap() {
        At test = at(19, "into a MAP, as the VALUE of that KEY (of at most 12 signs), in its place if it is there, else behind all others");
        String key = "abcdefghijkl";
        puts(test, "{}", "/a", "1", "{\"a\":1}");
        puts(test, "{\"b\":1,\"c\":2}", "/a", "3", "{\"b\":1,\"c\":2,\"a\":3}");
        puts(test, "{\"b\":1,\"c\":2}", "/b", "3", "{\"b\":3,\"c\":2}");
        puts(test, "{\"b\":[1,[2]],\"c\":2}", "/b", "3", "{\"b\":3,\"c\":2}");
        puts(test, "{\"b\":1,\"c\":2}", "/b", "[3,{\"d\":4}]", "{\"b\":[3,{\"d\":4}],\"c\":2}");
        puts(test, "{\"x\":{\"b\":1},\"y\":2}", "/x/c", "{\"d\":4}", "{\"x\":{\"b\":1,\"c\":{\"d\":4}},\"y\":2}");
        puts(test, "{}", "/", "1", "{\"\":1}");
        puts(test, "{\"\":1}", "/", "2", "{\"\":2}");
        puts(test, "{}", "/" + key, "1", "{\"" + key + "\":1}");
        puts(test, "{}", "/" + key + "m", "1", null);
        puts(test, "{\"" + key + "\":0}", "/" + key, "1", "{\"" + key + "\":1}");
        puts(test, "{\"" + key + "\":0}", "/" + key + "m", "1", null);
        puts(test, "{\"x\":{}}", "/x/" + key + "m", "1", null);
        puts(test, "{}", "/" + times("~0", 12), "1", "{\"" + times("~", 12) + "\":1}");
        puts(test, "{}", "/" + times("~1", 13), "1", null);
        puts(test, "{}", "/" + times("x", 390), "1", null);
        puts(test, "{}", "/\n", "1", "{\"\\u000a\":1}");
    }

    private static void putIntoRow() {
        At test = at(19, "into a ROW, at a place from 0 to how many there are, or, by the WORD - (which leads to no place but so), behind all others");
        puts(test, "[]", "/0", "1", "[1]");
        puts(test, "[]", "/1", "1", null);
        puts(test, "[]", "/-", "1", "[1]");
        puts(test, "[1,[2]]", "/0", "[3]", "[[3],1,[2]]");
        puts(test, "[1,[2]]", "/1", "[3]", "[1,[3],[2]]");
        puts(test, "[1,[2]]", "/2", "[3]", "[1,[2],[3]]");
        puts(test, "[1,[2]]", "/3", "[3]", null);
        puts(test, "[1,[2]]", "/-", "[3]", "[1,[2],[3]]");
        puts(test, "[[1],2]", "/0/-", "3", "[[1,3],2]");
        puts(test, "[[1],2]", "/0/1", "3", "[[1,3],2]");
        puts(test, "[[1],2]", "/0/2", "3", null);
        puts(test, "[" + list("1", 9) + "]", "/9", "2", "[" + list("1", 9) + ",2]");
        puts(test, "[" + list("1", 9) + "]", "/10", "2", null);
        puts(test, "[" + list("1", 10) + "]", "/10", "2", "[" + list("1", 10) + ",2]");
        for (String word : new String[] {"", "00", "01", "-1", "-0", "--", "a", "*", "**", "?a=1", "+1", " 0", "1 ", "256", "1000", "65536",
            "4294967296", "4294967297", "18446744073709551616", times("9", 390)}) {
            puts(test, "[1,2]", "/" + word, "3", null);
        }
        At moves = at(19, "those from there on move up");
        puts(moves, "[\"a\",\"b\",\"c\"]", "/1", "\"x\"", "[\"a\",\"x\",\"b\",\"c\"]");
        puts(moves, "[\"a\",{\"k\":\"b\"},[\"c\"]]", "/1", "[\"x\"]", "[\"a\",[\"x\"],{\"k\":\"b\"},[\"c\"]]");
    }

    private static void putNowhere() {
        At test = at(19, "else by its last STEP into the VALUE to which it leads without that, which has to be");
        puts(test, "{\"a\":{}}", "/a/b", "1", "{\"a\":{\"b\":1}}");
        puts(test, "{\"a\":{}}", "/b/a", "1", null);
        puts(test, "{\"a\":{}}", "/a/b/c", "1", null);
        puts(test, "[[]]", "/0/0", "1", "[[1]]");
        puts(test, "[[]]", "/1/0", "1", null);
        puts(test, "[[]]", "/-/0", "1", null);
        puts(test, "[[]]", "/00/0", "1", null);
        puts(test, "[[]]", "/-1/0", "1", null);
        puts(test, "[[]]", "/*/0", "1", null);
        puts(test, "{\"a\":{}}", "/**/b", "1", null);
        for (String value : new String[] {"null", "true", "5", "\"text\""}) {
            puts(test, value, "/0", "1", null);
            puts(test, value, "/-", "1", null);
            puts(test, value, "/", "1", null);
            puts(test, "{\"a\":" + value + "}", "/a/b", "1", null);
            puts(test, "[" + value + "]", "/0/0", "1", null);
        }
    }

    private static void putTooMuch() {
        At test = at(19, "or it would be no DOCUMENT");
        String row = "[" + list("1", 98) + "]";
        puts(test, row, "/0", "2", "[2," + list("1", 98) + "]");
        puts(test, row, "/98", "2", "[" + list("1", 98) + ",2]");
        puts(test, row, "/-", "[]", "[" + list("1", 98) + ",[]]");
        puts(test, row, "/0", "[2]", null);
        puts(test, row, "/-", "[2]", null);
        puts(test, row, "/-", row, null);
        puts(test, "[" + list("1", 99) + "]", "/0", "2", null);
        puts(test, "[" + list("1", 99) + "]", "", row, row);
        puts(test, "{\"a\":" + row + "}", "/a", "[" + list("2", 98) + "]", "{\"a\":[" + list("2", 98) + "]}");
        puts(test, "{\"a\":" + row + "}", "/a", "[" + list("2", 99) + "]", null);
        puts(test, "{\"a\":" + row + "}", "/b", "2", null);
        puts(test, "[]", "/0", deep(11), "[" + deep(11) + "]");
        puts(test, "[]", "/0", deep(12), null);
        puts(test, "{\"a\":{}}", "/a/b", deep(10), "{\"a\":{\"b\":" + deep(10) + "}}");
        puts(test, "{\"a\":{}}", "/a/b", deep(11), null);
        puts(test, deep(12), times("/0", 12), "1", times("[", 12) + "1" + times("]", 12));
        puts(test, deep(12), times("/0", 12), "[]", null);
        puts(test, deep(12), "", deep(12), deep(12));
        puts(test, times("{\"a\":", 12) + "1" + times("}", 12), times("/a", 12), "[]", null);
    }

    // ---- cut

    private static void cuts(At test, String doc, String path, String want) {
        At here = test.behind(r -> {
            r.read(doc);
            r.page(path);
        });
        if (want == null) {
            here.refuses("cut at " + path + " of " + doc, r -> r.t().cut(0), ISE);
        } else {
            here.takes("cut at " + path + " of " + doc, r -> r.t().cut(0) + " " + r.t().sum(1) + " " + r.least(1) + " " + r.least(0),
                "1 0 " + want + " " + doc);
        }
    }

    private static void cut() {
        documentsAt(20, "/0", reading("[1]", "[[2],3]"), (r, doc) -> r.least(r.t().cut(doc)), "[]", "[3]");
        forty(20, CUT_REFUSED, r -> {
            r.read("[1]");
            r.page("/0");
        }, r -> r.t().cut(0));
        at(20, SEVERAL, r -> {
            r.read("[1]");
            r.fill(40);
            r.page("~");
        }).refuses("no DOCUMENT, no PATH, of 40", r -> r.t().cut(40), IOOBE);
        At test = at(20, "To CUT is to take out what is at a PLAIN PATH that is not empty; those behind it move down.");
        cuts(test, "[1]", "/0", "[]");
        cuts(test, "[1,[2,3],4]", "/0", "[[2,3],4]");
        cuts(test, "[1,[2,3],4]", "/1", "[1,4]");
        cuts(test, "[1,[2,3],4]", "/2", "[1,[2,3]]");
        cuts(test, "[1,[2,3],4]", "/1/1", "[1,[2],4]");
        cuts(test, "{\"a\":1}", "/a", "{}");
        cuts(test, "{\"a\":{\"b\":1,\"c\":2},\"d\":3}", "/a", "{\"d\":3}");
        cuts(test, "{\"a\":{\"b\":1,\"c\":2},\"d\":3}", "/a/c", "{\"a\":{\"b\":1},\"d\":3}");
        cuts(test, "{\"\":1,\"a\":2}", "/", "{\"a\":2}");
        cuts(test, "{\"~/\":1}", "/~0~1", "{}");
        cuts(test, "{\"abcdefghijkl\":1}", "/abcdefghijkl", "{}");
        cuts(test, "[" + list("1", 98) + ",2]", "/98", "[" + list("1", 98) + "]");
        cuts(test, times("[", 12) + "1" + times("]", 12), times("/0", 12), deep(12));
        cuts(test, deep(12), times("/0", 11), deep(11));
    }

    private static void cutRefused() {
        for (String no : NO_PATHS) {
            cuts(at(20, "if THE PAGE is no PATH, that cannot be"), "{\"a\":1}", no, null);
        }
        At test = at(20, "It is refused, if that cannot be.");
        cuts(test, "[1]", "", null);
        cuts(test, "{}", "", null);
        cuts(test, "5", "", null);
        for (String word : new String[] {"/2", "/-", "/-1", "/00", "/01", "/a", "/", "/*", "/**", "/?a=1", "/0/0", "/1/0", "/256", "/65536",
            "/4294967296", "/4294967297", "/18446744073709551616"}) {
            cuts(test, "[1,[]]", word, null);
        }
        cuts(test, "[]", "/0", null);
        cuts(test, "[]", "/-", null);
        for (String word : new String[] {"/b", "/", "/aa", "/a/b", "/*", "/0", "/-1", "/abcdefghijklm"}) {
            cuts(test, "{\"a\":1}", word, null);
        }
        cuts(test, "{\"abcdefghijkl\":1}", "/abcdefghijklm", null);
        cuts(test, "\"text\"", "/0", null);
    }

    private static void plainPaths() {
        At cut = at(20, "(* and the like are KEYS then, - and figures no places)");
        cuts(cut, "{\"a\":1,\"*\":2}", "/*", "{\"a\":1}");
        cuts(cut, "{\"a\":1,\"**\":{\"?a=1\":2}}", "/**/?a=1", "{\"a\":1,\"**\":{}}");
        cuts(cut, "{\"-1\":1}", "/-1", "{}");
        cuts(cut, "{\"-\":1}", "/-", "{}");
        cuts(cut, "[1,2]", "/-1", null);
        cuts(cut, "[1,2]", "/1", "[1]");
        At put = at(19, "(* and the like are KEYS then, - and figures no places)");
        puts(put, "{\"a\":1}", "/*", "2", "{\"a\":1,\"*\":2}");
        puts(put, "{\"**\":{}}", "/**/?a=1", "2", "{\"**\":{\"?a=1\":2}}");
        puts(put, "{\"-1\":1}", "/-1", "2", "{\"-1\":2}");
        puts(put, "{}", "/-", "2", "{\"-\":2}");
        puts(put, "{\"-\":{}}", "/-/-", "2", "{\"-\":{\"-\":2}}");
        puts(put, "[1,2]", "/-1", "3", null);
    }
}
