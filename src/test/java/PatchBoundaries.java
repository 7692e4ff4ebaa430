/** Boundaries of promises 21 to 23: PATCHES laid, made, and turned round. */
final class PatchBoundaries extends Boundaries {
    private static final String KEY = "abcdefghijkl";
    private static final String NOT_SO_TOLD = "The first ORDER that is not so told (another \"op\", a KEY that is not there, or not to a TEXT)";
    private static final String ON_THE_WAY = "or behind which (whatever later ones do) it would be no DOCUMENT, lets nothing be done";
    private static final String TOO_LONG = "if a TEXT in it would have more than 40 signs, it would be no DOCUMENT, or there are 40";
    private static final String TURN_REFUSED =
        "if it cannot be laid on it, a TEXT in what would come would have more than 40 signs, it would be no DOCUMENT, or there are 40";
    private static final String NONE_OF_IT = "COMMON are pairs of EQUAL VALUES of a and b, in order in both; as many as can be";

    static void all() {
        lay();
        layAll();
        adds();
        removesAndReplaces();
        moves();
        copiesAndTests();
        notSoTold();
        onTheWay();
        tooManyOnTheWay();
        lastOrder();
        patch();
        patchTexts();
        patchTooMuch();
        common();
        turn();
        turnPuts();
        turnOthers();
        turnTooMuch();
    }

    // ---- lay

    /** At a sentence: a DOCUMENT and ORDERS, and what comes, or the number that is answered. */
    private static void lays(At test, String doc, String orders, String want) {
        At here = test.behind(reading(doc, "[" + orders + "]"));
        if (want.startsWith("!")) {
            here.asks("lay of " + orders + " on " + doc, r -> r.t().lay(0, 1), want.substring(1));
        } else {
            here.takes("lay of " + orders + " on " + doc, r -> r.t().lay(0, 1) + " " + r.least(2) + " " + r.least(0), "2 " + want + " " + doc);
        }
    }

    private static void lay() {
        documents(21, "[1]", "[]", (r, doc) -> r.t().lay(doc, doc), -2, 2);
        documents(21, "[]", "{}", (r, doc) -> r.t().lay(doc, 0), 2, 2);
        documents(21, "[]", "{}", (r, doc) -> r.t().lay(0, doc), 2, -1);
        at(21, "if there is no such DOCUMENT, of both", reading("[]")).refuses("no first one", r -> r.t().lay(1, 0), IOOBE)
            .refuses("no second one", r -> r.t().lay(0, 1), IOOBE).refuses("neither", r -> r.t().lay(-1, 1), IOOBE);
        forty(21, "if it could be laid, and there are 40 DOCUMENTS", reading("[]"), r -> r.t().lay(0, 0));
        forty(21, "if it could be laid, and there are 40 DOCUMENTS", reading("[1]", "[" + remove("/0") + "]"), r -> r.t().lay(0, 1));
        at(21, "if it could be laid, and there are 40 DOCUMENTS", r -> {
            reading("[1]", "{}", "[" + remove("/0") + "," + remove("/0") + "]").on(r);
            r.fill(40);
        }).asks("it cannot be laid, of 40", r -> r.t().lay(0, 2), -3).asks("no ROW, of 40", r -> r.t().lay(0, 1), -1)
            .refuses("no DOCUMENT, of 40", r -> r.t().lay(0, 40), IOOBE);
        for (String no : new String[] {"null", "true", "0", "\"\"", "{}", "{\"op\":\"remove\",\"path\":\"/0\"}"}) {
            at(21, "NONE, if the other one is no ROW", reading("[1]", no)).asks("lay of " + no, r -> r.t().lay(0, 1), -1);
        }
        lays(at(21, "NONE, if the other one is no ROW"), "[1]", "", "[1]");
    }

    private static void layAll() {
        At test = at(21, "-2 less the number of the first ORDER that cannot be done");
        lays(test, "[1,2]", remove("/0"), "[2]");
        lays(test, "[1,2]", remove("/2"), "!-2");
        lays(test, "[1,2]", remove("/0") + "," + remove("/0"), "[]");
        lays(test, "[1,2]", remove("/0") + "," + remove("/1"), "!-3");
        lays(test, "[1,2]", remove("/0") + "," + remove("/0") + "," + remove("/0"), "!-4");
        lays(test, "[1,2]", remove("/2") + "," + remove("/3"), "!-2");
        lays(test, "[1,2]", remove("/2") + ",1", "!-2");
        lays(test, "[1,2]", remove("/0") + ",1", "!-3");
        At whole = at(21, "a PATCH is laid whole, or not at all");
        lays(whole, "{\"a\":1}", valued("add", "/b", "2") + "," + valued("replace", "/a", "3") + "," + remove("/c"), "!-4");
        lays(whole, "{\"a\":1}", valued("add", "/b", "2") + "," + valued("replace", "/a", "3") + "," + remove("/b"), "{\"a\":3}");
    }

    private static void adds() {
        At test = at(21, "\"add\": \"value\" is PUT");
        lays(test, "[1]", valued("add", "/0", "[2]"), "[[2],1]");
        lays(test, "[1]", valued("add", "/1", "2"), "[1,2]");
        lays(test, "[1]", valued("add", "/2", "2"), "!-2");
        lays(test, "[1]", valued("add", "/-", "2"), "[1,2]");
        lays(test, "[1]", valued("add", "/-1", "2"), "!-2");
        lays(test, "[1]", valued("add", "/00", "2"), "!-2");
        lays(test, "[1]", valued("add", "/x", "2"), "!-2");
        lays(test, "[1]", valued("add", "", "{}"), "{}");
        lays(test, "{\"a\":1}", valued("add", "/a", "2"), "{\"a\":2}");
        lays(test, "{\"a\":1}", valued("add", "/b", "null"), "{\"a\":1,\"b\":null}");
        lays(test, "{\"a\":1}", valued("add", "/" + KEY, "2"), "{\"a\":1,\"" + KEY + "\":2}");
        lays(test, "{\"a\":1}", valued("add", "/" + KEY + "m", "2"), "!-2");
        lays(test, "{\"a\":1}", valued("add", "/" + times("~0", 12), "2"), "{\"a\":1,\"" + times("~", 12) + "\":2}");
        lays(test, "{\"a\":1}", valued("add", "/" + times("~0", 13), "2"), "!-2");
        lays(test, "{\"a\":1}", valued("add", "/a/b", "2"), "!-2");
        lays(test, "{\"a\":1}", valued("add", "/b/c", "2"), "!-2");
        lays(test, "{\"a\":1}", valued("add", "/*", "2"), "{\"a\":1,\"*\":2}");
        lays(test, "{\"a\":1}", valued("add", "/" + times("x", 39), "2"), "!-2");
    }

    private static void removesAndReplaces() {
        At remove = at(21, "\"remove\": it is CUT");
        lays(remove, "[1,2]", remove("/1"), "[1]");
        lays(remove, "[1,2]", remove("/2"), "!-2");
        lays(remove, "[1,2]", remove("/-"), "!-2");
        lays(remove, "[1,2]", remove("/-1"), "!-2");
        lays(remove, "[1,2]", remove(""), "!-2");
        lays(remove, "{\"a\":1}", remove("/a"), "{}");
        lays(remove, "{\"a\":1}", remove("/b"), "!-2");
        lays(remove, "{\"a\":1}", remove("/a/b"), "!-2");
        lays(remove, "{\"a\":1}", order("remove", "/a", ",\"value\":5,\"from\":5"), "{}");
        At replace = at(21, "\"replace\": there is a VALUE, and \"value\" comes into its place");
        lays(replace, "[1,2]", valued("replace", "/1", "[3]"), "[1,[3]]");
        lays(replace, "[1,2]", valued("replace", "/2", "3"), "!-2");
        lays(replace, "[1,2]", valued("replace", "/-", "3"), "!-2");
        lays(replace, "[1,2]", valued("replace", "/-1", "3"), "!-2");
        lays(replace, "[]", valued("replace", "/0", "3"), "!-2");
        lays(replace, "[1,2]", valued("replace", "", "3"), "3");
        lays(replace, "{\"a\":1,\"b\":2}", valued("replace", "/a", "[3]"), "{\"a\":[3],\"b\":2}");
        lays(replace, "{\"a\":1}", valued("replace", "/b", "3"), "!-2");
        lays(replace, "{\"a\":[1,[2]],\"b\":2}", valued("replace", "/a", "null"), "{\"a\":null,\"b\":2}");
        lays(replace, "{\"" + KEY + "\":1}", valued("replace", "/" + KEY, "3"), "{\"" + KEY + "\":3}");
        lays(replace, "{\"" + KEY + "\":1}", valued("replace", "/" + KEY + "m", "3"), "!-2");
    }

    private static void moves() {
        At test = at(21, "\"move\": what is at the PLAIN PATH \"from\" is CUT, and PUT at \"path\" then");
        lays(test, "[1,2]", from("move", "/1", "/0"), "[2,1]");
        lays(test, "[1,2]", from("move", "/-", "/0"), "[2,1]");
        lays(test, "[1,2]", from("move", "/2", "/0"), "!-2");
        lays(test, "[1,2]", from("move", "/0", "/1"), "[2,1]");
        lays(test, "[1,2]", from("move", "/0", "/2"), "!-2");
        lays(test, "[1,2]", from("move", "/0", "/-"), "!-2");
        lays(test, "[1,2]", from("move", "/0", "/-1"), "!-2");
        lays(test, "[1,2]", from("move", "/0", ""), "!-2");
        lays(test, "[1,[2]]", from("move", "", "/1"), "[2]");
        lays(test, "[[1],2]", from("move", "/0/0", "/0"), "!-2");
        lays(test, "[[1],[2]]", from("move", "/0/0", "/0"), "[[[1],2]]");
        lays(test, "{\"a\":1,\"b\":2}", from("move", "/a", "/a"), "{\"b\":2,\"a\":1}");
        lays(test, "{\"a\":1,\"b\":2}", from("move", "/b", "/a"), "{\"b\":1}");
        lays(test, "{\"a\":{\"x\":1}}", from("move", "/a/y", "/a"), "!-2");
        lays(test, "{\"a\":{\"x\":1}}", from("move", "/y", "/a/x"), "{\"a\":{},\"y\":1}");
        lays(test, "{\"a\":1}", from("move", "/b", "/c"), "!-2");
        lays(test, "{\"a\":1}", from("move", "/" + KEY + "m", "/a"), "!-2");
        lays(test, "{\"a\":1}", from("move", "/b", "a"), "!-2");
        lays(test, "{\"a\":1}", from("move", "/b", "/a~"), "!-2");
    }

    private static void copiesAndTests() {
        At copy = at(21, "\"copy\": what is there is PUT");
        lays(copy, "[1,2]", from("copy", "/2", "/0"), "[1,2,1]");
        lays(copy, "[1,2]", from("copy", "/3", "/0"), "!-2");
        lays(copy, "[1,2]", from("copy", "/-", ""), "[1,2,[1,2]]");
        lays(copy, "[1,2]", from("copy", "/0", "/2"), "!-2");
        lays(copy, "[1,2]", from("copy", "", "/1"), "2");
        lays(copy, "[1,2]", from("copy", "/0", "/-"), "!-2");
        lays(copy, "{\"a\":{\"b\":1}}", from("copy", "/a/c", "/a"), "{\"a\":{\"b\":1,\"c\":{\"b\":1}}}");
        lays(copy, "{\"a\":{\"b\":1}}", from("copy", "/a", "/a/b"), "{\"a\":1}");
        lays(copy, "{\"a\":1}", from("copy", "/b", "/c"), "!-2");
        lays(copy, "{\"a\":1}", from("copy", "/b", "~"), "!-2");
        At test = at(21, "\"test\": what is at \"path\" is EQUAL to \"value\"");
        lays(test, "{\"a\":1,\"b\":[]}", valued("test", "", "{\"b\":[],\"a\":1.0}"), "{\"a\":1,\"b\":[]}");
        lays(test, "{\"a\":1,\"b\":[]}", valued("test", "/a", "1e0"), "{\"a\":1,\"b\":[]}");
        lays(test, "{\"a\":1,\"b\":[]}", valued("test", "/a", "10"), "!-2");
        lays(test, "{\"a\":1,\"b\":[]}", valued("test", "/b", "{}"), "!-2");
        lays(test, "{\"a\":1,\"b\":[]}", valued("test", "/b/0", "1"), "!-2");
        lays(test, "{\"a\":1,\"b\":[]}", valued("test", "/b/-", "1"), "!-2");
        lays(test, "{\"a\":1,\"b\":[]}", valued("test", "/c", "null"), "!-2");
        lays(test, "[1,2]", valued("test", "/1", "2"), "[1,2]");
        lays(test, "[1,2]", valued("test", "/-1", "2"), "!-2");
        lays(test, "[1,2]", valued("test", "/2", "null"), "!-2");
    }

    private static void notSoTold() {
        At test = at(21, NOT_SO_TOLD);
        String good = "{\"op\":\"add\",\"path\":\"/0\",\"value\":2}";
        lays(test, "[1]", good, "[2,1]");
        lays(test, "[1]", "{\"value\":2,\"path\":\"/0\",\"x\":[],\"op\":\"add\"}", "[2,1]");
        String[] bad = {"null", "true", "1", "\"add\"", "[]", "{}", "[" + good + "]", good.replace("add", "ad"), good.replace("add", "adds"),
            good.replace("add", "Add"), good.replace("add", ""), good.replace("\"add\"", "1"), good.replace("\"add\"", "null"),
            good.replace("\"add\"", "[\"add\"]"), good.replace("op", "oq"), good.replace("op", "o"), good.replace("path", "pat"),
            good.replace("path", "paths"), good.replace("value", "valu"), good.replace("value", "values"), good.replace("\"/0\"", "0"),
            good.replace("\"/0\"", "null"), good.replace("\"/0\"", "[]"), good.replace("/0", "0"), good.replace("/0", "/~"),
            good.replace("/0", "/~2"), good.replace("/0", " /0"), "{\"op\":\"add\",\"path\":\"/0\"}", "{\"op\":\"replace\",\"path\":\"/0\"}",
            "{\"op\":\"test\",\"path\":\"/0\"}", "{\"op\":\"move\",\"path\":\"/0\"}", "{\"op\":\"copy\",\"path\":\"/0\"}",
            "{\"op\":\"remove\"}", "{\"path\":\"/0\"}", "{\"op\":\"move\",\"path\":\"/0\",\"from\":0}",
            "{\"op\":\"copy\",\"path\":\"/0\",\"from\":[\"/0\"]}", "{\"op\":\"copy\",\"path\":\"/0\",\"value\":\"/0\"}",
            "{\"op\":\"move\",\"path\":0,\"from\":\"/0\"}", "{\"op\":\"copy\",\"path\":\"0\",\"from\":\"/0\"}"};
        for (String order : bad) {
            lays(test, "[1]", order, "!-2");
            lays(test, "[1]", order + "," + good, "!-2");
            lays(test, "[1]", good + "," + order, "!-3");
        }
    }

    private static void onTheWay() {
        At test = at(21, ON_THE_WAY);
        String row = "[" + list("1", 98) + "]";
        lays(test, row, valued("add", "/0", "2"), "[2," + list("1", 98) + "]");
        lays(test, row, valued("add", "/0", "[2]"), "!-2");
        lays(test, row, valued("add", "/0", "[2]") + "," + remove("/0"), "!-2");
        lays(test, row, valued("add", "/0", "2") + "," + valued("add", "/0", "2") + "," + remove("/0"), "!-3");
        lays(test, row, valued("add", "/0", "2") + "," + remove("/1") + "," + valued("add", "/0", "2"), "[2,2," + list("1", 97) + "]");
        lays(test, row, valued("replace", "/0", "[2]"), "[[2]," + list("1", 97) + "]");
        lays(test, row, valued("replace", "/0", "[2,3]"), "!-2");
        lays(test, row, valued("replace", "", "[2,3]"), "[2,3]");
        lays(test, "[[" + list("1", 46) + "]," + list("2", 5) + "]", from("copy", "/-", "/0"),
            "[[" + list("1", 46) + "]," + list("2", 5) + ",[" + list("1", 46) + "]]");
        lays(test, "[[" + list("1", 46) + "]," + list("2", 6) + "]", from("copy", "/-", "/0"), "!-2");
        lays(test, "[[" + list("1", 46) + "]," + list("2", 6) + "]", from("copy", "/-", "/0") + "," + remove("/0"), "!-2");
        lays(test, "[[" + list("1", 46) + "]," + list("2", 6) + "]", remove("/1") + "," + from("copy", "/0", "/0"),
            "[[" + list("1", 46) + "],[" + list("1", 46) + "]," + list("2", 5) + "]");
        lays(test, "[[" + list("1", 97) + "],2]", from("move", "/0/-", "/1"), "[[" + list("1", 97) + ",2]]");
        lays(test, deep(11), valued("add", times("/0", 11), "[]"), deep(12));
        lays(test, deep(11), valued("add", times("/0", 11), "[[]]"), "!-2");
        lays(test, deep(11), valued("add", times("/0", 11), "[[]]") + "," + remove("/0"), "!-2");
        lays(test, deep(12), valued("replace", times("/0", 11), "{}"), times("[", 11) + "{}" + times("]", 11));
        lays(test, deep(12), valued("replace", times("/0", 11), "[{}]"), "!-2");
        lays(test, deep(6), from("copy", times("/0", 5) + "/-", ""), deep(12));
        lays(test, deep(7), from("copy", times("/0", 4) + "/-", ""), times("[", 5) + "[[]]," + deep(7) + times("]", 5));
        lays(test, deep(7), from("copy", times("/0", 5) + "/-", ""), "!-2");
        lays(test, "[" + deep(10) + ",[]]", from("move", "/0/0", "/0"), "[[" + deep(10) + "]]");
        lays(test, "[" + deep(11) + ",[]]", from("move", "/0/0", "/0"), "!-2");
    }

    /** The VALUE of x grows by 20 NODES ahead of that of y, which goes. */
    private static void tooManyOnTheWay() {
        String both = "if none of what is on the way has too many NODES";
        for (int ones = 77; ones <= 78; ones++) {
            boolean fits = ones == 77;
            At test = at(21, both, reading("{\"x\":0,\"y\":[" + list("1", ones) + "]}", "{\"x\":[" + list("2", 20) + "],\"y\":0}"));
            test.takes("the PATCH, with " + ones + " that go", r -> {
                r.t().patch(0, 1);
                int laid = r.t().lay(0, 2);
                return fits ? laid + " " + r.t().equal(3, 1) : laid + " " + r.t().sum(0);
            }, fits ? "3 true" : "-2 3");
            test.takes("the other way, with " + ones, r -> {
                r.t().patch(1, 0);
                int laid = r.t().lay(1, 2);
                return laid + " " + r.t().equal(3, 0);
            }, "3 true");
        }
    }

    /** 33 ORDERS, as many as there can be, of which the last one cannot be done. */
    private static void lastOrder() {
        Lead lead = r -> {
            r.readOnes(32);
            r.read("[]");
            r.t().patch(0, 1);
            r.read(remove("/0"));
            r.put(2, 3, "/-");
            r.readOnes(33);
        };
        at(21, "-2 less the number of the first ORDER that cannot be done", lead)
            .asks("the PATCH has 100 NODES", r -> r.t().node(4, 0, 2), 100)
            .asks("the 33rd ORDER cannot be done", r -> r.t().lay(0, 4), -34)
            .takes("33 ORDERS can be done", r -> r.least(r.t().lay(5, 4)), "[]")
            .asks("the first ORDER cannot be done", r -> r.t().lay(1, 4), -2);
    }

    // ---- patch

    /** At a sentence: the PATCH from one DOCUMENT to another; what is laid by it, and by it turned round. */
    private static void patches(At test, String a, String b, String want) {
        At here = test.behind(reading(a, b));
        if (want == null) {
            here.refuses("patch from " + a + " to " + b, r -> r.t().patch(0, 1), ISE);
            return;
        }
        here.takes("patch from " + a + " to " + b, r -> r.t().patch(0, 1) + " " + r.least(2), "2 [" + want + "]");
        here.takes("laid, and turned, from " + a + " to " + b, r -> {
            r.t().patch(0, 1);
            r.t().lay(0, 2);
            r.t().turn(0, 2);
            return r.t().lay(3, 4) + " " + r.t().equal(3, 1) + " " + r.t().equal(5, 0);
        }, "5 true true");
    }

    private static void patch() {
        documents(22, "1", "[]", (r, doc) -> r.least(r.t().patch(doc, 0)), "[]", "[" + valued("replace", "", "1") + "]");
        documents(22, "1", "[]", (r, doc) -> r.least(r.t().patch(0, doc)), "[]", "[" + valued("replace", "", "[]") + "]");
        forty(22, TOO_LONG, reading("1", "2"), r -> r.t().patch(0, 1));
        at(22, SEVERAL, r -> {
            r.readOnes(34);
            r.fill(40);
        }).refuses("no a, of 40", r -> r.t().patch(40, 0), IOOBE).refuses("no b, of 40", r -> r.t().patch(0, 40), IOOBE);
        At nothing = at(22, "The PATCH from a to b is: nothing, if they are EQUAL");
        patches(nothing, "1", "1.0", "");
        patches(nothing, "{\"a\":[1],\"b\":2}", "{\"b\":2,\"a\":[1]}", "");
        patches(nothing, "[]", "[]", "");
        patches(nothing, "[" + list("1", 99) + "]", "[" + list("1", 99) + "]", "");
        patches(nothing, deep(12), deep(12), "");
        At maps = at(22, "ORDERS to remove those KEYS of a, in its order, that b has not");
        patches(maps, "{}", "{\"a\":1}", valued("add", "/a", "1"));
        patches(maps, "{\"a\":1}", "{}", remove("/a"));
        patches(maps, "{\"b\":1,\"a\":2,\"c\":3,\"d\":4}", "{\"e\":5,\"c\":4,\"d\":4,\"f\":6}",
            remove("/b") + "," + remove("/a") + "," + valued("replace", "/c", "4") + "," + valued("add", "/e", "5") + "," + valued("add", "/f", "6"));
        patches(maps, "{\"a\":{\"b\":{}},\"\":1}", "{\"a\":{\"b\":{\"~/\":1}},\"\":2}",
            valued("add", "/a/b/~0~1", "1") + "," + valued("replace", "/", "2"));
        At other = at(22, "else to replace");
        patches(other, "null", "false", valued("replace", "", "false"));
        patches(other, "[]", "{}", valued("replace", "", "{}"));
        patches(other, "{\"a\":[]}", "{\"a\":{}}", valued("replace", "/a", "{}"));
        patches(other, "{\"a\":\"\"}", "{\"a\":null}", valued("replace", "/a", "null"));
    }

    private static void patchTexts() {
        At test = at(22, TOO_LONG);
        String open = "{\"" + KEY + "\":{\"" + KEY + "\":{\"";
        String path = "/" + KEY + "/" + KEY + "/";
        patches(test, open + KEY + "\":1}}}", open + KEY + "\":2}}}", valued("replace", path + KEY, "2"));
        patches(test, open + KEY.substring(1) + "~\":1}}}", open + KEY.substring(1) + "~\":2}}}",
            valued("replace", path + KEY.substring(1) + "~0", "2"));
        patches(test, open + KEY.substring(2) + "~~\":1}}}", open + KEY.substring(2) + "~~\":2}}}", null);
        patches(test, open + KEY.substring(2) + "//\":1}}}", open + "\":{}}}}", null);
        patches(test, open + "\":{}}}}", open + KEY.substring(2) + "//\":1}}}", null);
        patches(test, open + KEY + "\":{\"\":1}}}}", open + KEY + "\":{\"\":2}}}}", valued("replace", path + KEY + "/", "2"));
        patches(test, open + KEY + "\":{\"a\":1}}}}", open + KEY + "\":{\"a\":2}}}}", null);
        patches(test, open + KEY + "\":{\"a\":1}}}}", open + KEY + "\":{\"a\":1}}}}", "");
        patches(test, open + KEY + "\":[1]}}}", open + KEY + "\":[]}}}", null);
        patches(test, open + KEY.substring(1) + "\":[1]}}}", open + KEY.substring(1) + "\":[]}}}", remove(path + KEY.substring(1) + "/0"));
        String ten = open + KEY.substring(1) + "\":[" + list("1", 10);
        patches(test, ten + "]}}}", ten + ",2]}}}", null);
        patches(test, ten.substring(0, ten.length() - 2) + "]}}}", ten + "]}}}", valued("add", path + KEY.substring(1) + "/9", "1"));
    }

    private static void patchTooMuch() {
        At test = at(22, "it would be no DOCUMENT");
        Lead lead = r -> {
            r.readOnes(33);
            r.read("[]");
            r.readOnes(34);
            r.readOnes(32);
            r.read("[2]");
            r.readOnes(24);
            r.readOnes(25);
            r.read("[" + list("1", 23) + ",[1,2,3]]");
            r.read("[" + list("1", 23) + ",[1,2,3,4]]");
        };
        test.behind(lead).takes("33 removed: 100 NODES", r -> r.t().node(r.t().patch(0, 1), 0, 2), 100)
            .refuses("34 removed: 103 NODES", r -> r.t().patch(2, 1), ISE)
            .takes("32 removed: 97 NODES", r -> r.t().node(r.t().patch(3, 1), 0, 2), 97)
            .refuses("32 removed, one added: 101 NODES", r -> r.t().patch(3, 4), ISE)
            .takes("24 added: 97 NODES", r -> r.t().node(r.t().patch(1, 5), 0, 2), 97)
            .refuses("25 added: 101 NODES", r -> r.t().patch(1, 6), ISE)
            .takes("24 added: 100 NODES", r -> r.t().node(r.t().patch(1, 7), 0, 2), 100)
            .refuses("24 added: 101 NODES", r -> r.t().patch(1, 8), ISE);
        At whole = at(22, "it would be no DOCUMENT");
        patches(whole, "0", "[" + list("1", 95) + "]", valued("replace", "", "[" + list("1", 95) + "]"));
        patches(whole, "0", "[" + list("1", 96) + "]", null);
        patches(whole, "0", deep(10), valued("replace", "", deep(10)));
        patches(whole, "0", deep(11), null);
        patches(whole, "[" + deep(10) + "]", "[]", remove("/0"));
        patches(whole, "[]", "[" + deep(10) + "]", valued("add", "/0", deep(10)));
        patches(whole, "[]", "[" + deep(11) + "]", null);
        patches(whole, times("{\"a\":", 12) + "1" + times("}", 12), times("{\"a\":", 12) + "2" + times("}", 12),
            valued("replace", times("/a", 12), "2"));
    }

    private static void common() {
        At rows = at(22, "by the longest COMMON ones: to remove VALUES of a, the last one first, and then to add VALUES of b, the first one first");
        patches(rows, "[]", "[1]", valued("add", "/0", "1"));
        patches(rows, "[1]", "[]", remove("/0"));
        patches(rows, "[1]", "[2]", remove("/0") + "," + valued("add", "/0", "2"));
        patches(rows, "[1,2]", "[3,4]", remove("/1") + "," + remove("/0") + "," + valued("add", "/0", "3") + "," + valued("add", "/1", "4"));
        patches(rows, "[1,2,3]", "[1,3]", remove("/1"));
        patches(rows, "[1,3]", "[1,2,3]", valued("add", "/1", "2"));
        patches(rows, "[[1],2]", "[[1,1],2]", remove("/0") + "," + valued("add", "/0", "[1,1]"));
        patches(rows, "[{\"a\":1,\"b\":2},3]", "[{\"b\":2,\"a\":1}]", remove("/1"));
        patches(rows, "{\"r\":[1]}", "{\"r\":[1,2]}", valued("add", "/r/1", "2"));
        patches(rows, "[" + list("1", 98) + "]", "[" + list("1", 99) + "]", valued("add", "/98", "1"));
        patches(rows, "[" + list("1", 98) + ",2]", "[" + list("1", 98) + "]", remove("/98"));
        At most = at(22, NONE_OF_IT);
        patches(most, "[1,2,3]", "[3,1,2]", remove("/2") + "," + valued("add", "/0", "3"));
        patches(most, "[1,2,3]", "[2,3,1,2]", remove("/0") + "," + valued("add", "/2", "1") + "," + valued("add", "/3", "2"));
        patches(most, "[1,2,1,3]", "[2,1,3,1]", remove("/0") + "," + valued("add", "/3", "1"));
        StringBuilder orders = new StringBuilder();
        for (int i = 13; i >= 0; i--) {
            orders.append(remove("/" + i)).append(',');
        }
        for (int i = 0; i < 14; i++) {
            orders.append(valued("add", "/" + i, "3")).append(i < 13 ? "," : "");
        }
        patches(most, "[" + list("2", 14) + "," + list("1", 85) + "]", "[" + list("3", 14) + "," + list("1", 85) + "]", orders.toString());
        most.behind(r -> {
            r.readOnes(10);
            r.readOnes(9);
            reading("[1,2]", "[2,1]", "[1]").on(r);
        }).takes("more of a, behind a greater one", r -> r.t().patch(0, 1) + r.least(r.t().patch(2, 4)), "5[" + remove("/1") + "]")
            .takes("more of b, behind a greater one", r -> r.t().patch(1, 0) + r.least(r.t().patch(4, 2)), "5[" + valued("add", "/1", "2") + "]")
            .takes("behind a greater one", r -> r.t().patch(0, 1) + r.least(r.t().patch(2, 3)),
            "5[" + remove("/0") + "," + valued("add", "/1", "1") + "]")
            .takes("behind another greater one", r -> r.t().patch(1, 0) + r.least(r.t().patch(2, 3)),
                "5[" + remove("/0") + "," + valued("add", "/1", "1") + "]");
        At told = at(22, "from the first ones of both on, if both are EQUAL, they are a pair");
        patches(told, "[1,1,1]", "[1]", remove("/2") + "," + remove("/1"));
        patches(told, "[1]", "[1,1,1]", valued("add", "/1", "1") + "," + valued("add", "/2", "1"));
        patches(told, "[2,1,1]", "[1]", remove("/2") + "," + remove("/0"));
        At left = at(22, "else, if without that of a as many pairs can be as with both, that of a is left out, else that of b");
        patches(left, "[1,2]", "[2,1]", remove("/0") + "," + valued("add", "/1", "1"));
        patches(left, "[1,2,3]", "[3,2,1]", remove("/1") + "," + remove("/0") + "," + valued("add", "/1", "2") + "," + valued("add", "/2", "1"));
        patches(left, "[1,2]", "[3,1,2]", valued("add", "/0", "3"));
        patches(left, "[1,1]", "[2,1,1]", valued("add", "/0", "2"));
        patches(left, "[1,1]", "[2,1]", remove("/0") + "," + valued("add", "/0", "2"));
        patches(left, "[1,2]", "[2,1,1]", remove("/0") + "," + valued("add", "/1", "1") + "," + valued("add", "/2", "1"));
        patches(left, "[1,2,4]", "[2,1,4]", remove("/0") + "," + valued("add", "/1", "1"));
    }

    // ---- turn

    private static void turns(At test, String doc, String orders, String want) {
        At here = test.behind(reading(doc, "[" + orders + "]"));
        if (want == null) {
            here.refuses("turn of " + orders + " for " + doc, r -> r.t().turn(0, 1), ISE);
            return;
        }
        here.takes("turn of " + orders + " for " + doc, r -> r.t().turn(0, 1) + " " + r.least(2), "2 [" + want + "]");
        here.takes("there and back by " + orders + " from " + doc, r -> {
            r.t().turn(0, 1);
            r.t().lay(0, 1);
            return r.t().lay(3, 2) + " " + r.t().equal(0, 4) + " " + r.least(0);
        }, "4 true " + doc);
    }

    private static void turn() {
        documents(23, "[]", "{}", (r, doc) -> r.least(r.t().turn(doc, 0)), "[]", "[]");
        documents(23, "[]", "[]", (r, doc) -> r.least(r.t().turn(0, doc)), "[]", "[]");
        at(23, "if there is no such DOCUMENT, of both", reading("[]")).refuses("no first one", r -> r.t().turn(1, 0), IOOBE)
            .refuses("no second one", r -> r.t().turn(0, 1), IOOBE).refuses("neither", r -> r.t().turn(-1, 1), IOOBE);
        forty(23, TURN_REFUSED, reading("[]"), r -> r.t().turn(0, 0));
        at(23, SEVERAL, r -> {
            r.read("{}");
            r.fill(40);
        }).refuses("no ROW, no DOCUMENT, of 40", r -> r.t().turn(40, 0), IOOBE).refuses("no PATCH, of 40", r -> r.t().turn(0, 40), IOOBE);
        for (String no : new String[] {"null", "true", "0", "\"\"", "{}"}) {
            at(23, "if it cannot be laid on it", reading("[1]", no)).refuses("turn of " + no, r -> r.t().turn(0, 1), ISE);
        }
        At test = at(23, "if it cannot be laid on it");
        turns(test, "[1]", "", "");
        turns(test, "[1]", remove("/0"), valued("add", "/0", "1"));
        turns(test, "[1]", remove("/1"), null);
        turns(test, "[1]", "1", null);
        turns(test, "[1]", remove("/0") + "," + remove("/0"), null);
        turns(test, "[1]", valued("test", "/0", "1") + "," + valued("test", "/0", "2"), null);
        turns(test, "[" + list("1", 98) + "]", valued("add", "/0", "[2]") + "," + remove("/0"), null);
        turns(test, "[" + list("1", 98) + "]", valued("add", "/0", "2") + "," + remove("/0"), valued("add", "/0", "2") + "," + remove("/0"));
        turns(test, deep(12), valued("add", times("/0", 12), "[]"), null);
    }

    private static void turnPuts() {
        At test = at(23, "if there was a VALUE at that KEY, or it was the whole, to replace it by that; "
            + "else to remove it (from the place where it came, by a figure)");
        turns(test, "{\"a\":1}", valued("add", "/a", "2"), valued("replace", "/a", "1"));
        turns(test, "{\"a\":1}", valued("add", "/b", "2"), remove("/b"));
        turns(test, "{\"a\":1}", valued("add", "", "2"), valued("replace", "", "{\"a\":1}"));
        turns(test, "[1]", valued("add", "/0", "2"), remove("/0"));
        turns(test, "[1]", valued("add", "/1", "2"), remove("/1"));
        turns(test, "[1]", valued("add", "/-", "2"), remove("/1"));
        turns(test, "[]", valued("add", "/-", "2"), remove("/0"));
        turns(test, "[" + list("1", 9) + "]", valued("add", "/-", "2"), remove("/9"));
        turns(test, "[" + list("1", 10) + "]", valued("add", "/-", "2"), remove("/10"));
        turns(test, "[1]", valued("add", "", "2"), valued("replace", "", "[1]"));
        turns(test, "{}", valued("add", "/-", "2"), remove("/-"));
        turns(test, "{\"-\":1}", valued("add", "/-", "2"), valued("replace", "/-", "1"));
        turns(test, "{\"~/\":[]}", valued("add", "/~0~1/-", "2"), remove("/~0~1/0"));
        turns(test, "[1,[2]]", from("copy", "/0", "/1"), remove("/0"));
        turns(test, "[1,[2]]", from("copy", "/-", "/1"), remove("/2"));
        turns(test, "[1,[2]]", from("copy", "", "/1"), valued("replace", "", "[1,[2]]"));
        turns(test, "{\"a\":1,\"b\":2}", from("copy", "/b", "/a"), valued("replace", "/b", "2"));
        turns(test, "{\"a\":1,\"b\":2}", from("copy", "/c", "/a"), remove("/c"));
        At move = at(23, "\"move\": as of \"add\", then as of \"remove\" of \"from\"");
        turns(move, "[1,2,3]", from("move", "/-", "/0"), remove("/2") + "," + valued("add", "/0", "1"));
        turns(move, "[1,2,3]", from("move", "/0", "/2"), remove("/0") + "," + valued("add", "/2", "3"));
        turns(move, "[1,2,3]", from("move", "/1", "/1"), remove("/1") + "," + valued("add", "/1", "2"));
        turns(move, "{\"a\":1,\"b\":2}", from("move", "/b", "/a"), valued("replace", "/b", "2") + "," + valued("add", "/a", "1"));
        turns(move, "{\"a\":1,\"b\":2}", from("move", "/a", "/a"), remove("/a") + "," + valued("add", "/a", "1"));
        turns(move, "{\"a\":1,\"b\":2}", from("move", "", "/a"), valued("replace", "", "{\"b\":2}") + "," + valued("add", "/a", "1"));
    }

    private static void turnOthers() {
        At remove = at(23, "\"remove\": to add it there; \"replace\": to replace it by what was there");
        turns(remove, "[1,2]", remove("/1"), valued("add", "/1", "2"));
        turns(remove, "{\"a\":[1],\"b\":2}", remove("/a"), valued("add", "/a", "[1]"));
        turns(remove, "[1,2]", valued("replace", "/1", "[3]"), valued("replace", "/1", "2"));
        turns(remove, "[1,2]", valued("replace", "", "3"), valued("replace", "", "[1,2]"));
        turns(remove, "{\"a\":{\"b\":1}}", valued("replace", "/a/b", "3"), valued("replace", "/a/b", "1"));
        At test = at(23, "\"test\": the same \"op\", \"path\" and \"value\"");
        turns(test, "[1,2]", "{\"value\":2.0,\"x\":1,\"path\":\"/1\",\"op\":\"test\"}", valued("test", "/1", "2"));
        turns(test, "{\"a\":1,\"b\":2}", valued("test", "", "{\"b\":2,\"a\":1}"), valued("test", "", "{\"b\":2,\"a\":1}"));
        At all = at(23, "for each ORDER, the last one first, in order");
        turns(all, "[1]", valued("add", "/-", "2") + "," + remove("/0") + "," + valued("replace", "/0", "3"),
            valued("replace", "/0", "2") + "," + valued("add", "/0", "1") + "," + remove("/1"));
    }

    private static void turnTooMuch() {
        At test = at(23, TURN_REFUSED);
        String open = "{\"" + KEY + "\":{\"" + KEY + "\":{\"" + KEY.substring(1) + "\":[";
        String path = "/" + KEY + "/" + KEY + "/" + KEY.substring(1) + "/";
        turns(test, open + list("1", 9) + "]}}}", valued("add", path + "-", "2"), remove(path + "9"));
        turns(test, open + list("1", 10) + "]}}}", valued("add", path + "-", "2"), null);
        turns(test, open + list("1", 10) + "]}}}", valued("add", path + "9", "2"), remove(path + "9"));
        turns(test, open + list("1", 9) + "]}}}", from("copy", path + "-", "/" + KEY + "/" + KEY + "/" + KEY.substring(1) + "/0"), remove(path + "9"));
        turns(test, open + list("1", 10) + "]}}}", from("copy", path + "-", path + "0"), null);
        turns(test, open + list("1", 10) + "]}}}", from("move", path + "-", path + "0"), remove(path + "9") + "," + valued("add", path + "0", "1"));
        turns(test, "[" + list("1", 95) + "]", valued("replace", "", "0"), valued("replace", "", "[" + list("1", 95) + "]"));
        turns(test, "[" + list("1", 96) + "]", valued("replace", "", "0"), null);
        turns(test, "[" + list("1", 92) + "]", valued("replace", "", "0") + "," + valued("test", "", "0"), null);
        turns(test, "[" + list("1", 91) + "]", valued("replace", "", "0") + "," + valued("test", "", "0"),
            valued("test", "", "0") + "," + valued("replace", "", "[" + list("1", 91) + "]"));
        turns(test, deep(10), valued("add", "", "0"), valued("replace", "", deep(10)));
        turns(test, deep(11), valued("add", "", "0"), null);
        turns(test, "[" + deep(10) + "]", remove("/0"), valued("add", "/0", deep(10)));
        turns(test, "[" + deep(11) + "]", remove("/0"), null);
    }
}
