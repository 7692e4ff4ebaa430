/** Boundaries of promises 27 to 29: THE STANDARD, SCHEMAS and COMPLAINTS. */
final class SchemaBoundaries extends Boundaries {
    private static final String REFUSED = "if THE STANDARD says no to the first one";
    private static final String ASKED = "or more than 2000 times a SCHEMA would be asked about a NODE";
    private static final String EACH =
        "once for each in \"keys\", \"others\", \"items\", \"all\", \"some\", \"one\", \"not\", or by a \"ref\" that asks one";
    private static final String NOT_SO_MANY = "if there are not so many";

    static void all() {
        standard();
        check();
        noSchemas();
        truths();
        kinds();
        leastAndMost();
        lengths();
        needs();
        keysAndOthers();
        itemsAndOnly();
        allAndSome();
        oneAndNot();
        refs();
        thirteen();
        openRefs();
        deepest();
        asked();
        askedByEach();
        tooManyComplaints();
        order();
        complaint();
    }

    /** At a sentence: a SCHEMA and a VALUE, and the COMPLAINTS, each as NODE:WORD. */
    private static void says(At test, String schema, String value, String complaints) {
        test.takes(schema + " about " + value, r -> r.check(schema, value), complaints);
        if (!schema.contains("\"ref\"")) {
            test.takes("not " + schema + " about " + value, r -> r.check("{\"not\":" + schema + "}", value), complaints.isEmpty() ? "0:14" : "");
        }
    }

    // ---- standard, and what it says no to

    private static void standard() {
        forty(27, "if there are 40 DOCUMENTS", reading("1"), r -> r.t().standard());
        at(27, "THE STANDARD is the DOCUMENT (67 NODES)").takes("its number", r -> r.t().standard(), 0)
            .takes("again", r -> r.t().standard() + r.t().standard(), 1)
            .takes("NODES", r -> r.t().node(r.t().standard(), 0, 2), 67)
            .takes("both are EQUAL", r -> r.t().equal(r.t().standard(), r.t().standard()), true);
        at(27, "THE STANDARD says yes to each SCHEMA, to itself, and to nothing else", r -> r.t().standard())
            .takes("itself", r -> r.t().check(0, 0), 0)
            .takes("true", r -> r.t().check(0, r.read("true")), 0)
            .takes("false", r -> r.t().check(0, r.read("false")), 0)
            .takes("an empty MAP", r -> r.t().check(0, r.read("{}")), 0)
            .takes("an empty ROW", r -> r.t().check(0, r.read("[]")) > 0, true)
            .takes("NOTHING", r -> r.t().check(0, r.read("null")) > 0, true)
            .takes("a NUMBER", r -> r.t().check(0, r.read("1")) > 0, true)
            .takes("a TEXT", r -> r.t().check(0, r.read("\"true\"")) > 0, true);
    }

    private static void check() {
        documents(28, "true", "false", (r, doc) -> r.t().check(doc, 0), 0, 1);
        documents(28, "true", "[1]", (r, doc) -> r.t().check(0, doc), 0, 0);
        at(28, "if there is no such DOCUMENT, of both", reading("true")).refuses("no first one", r -> r.t().check(1, 0), IOOBE)
            .refuses("no second one", r -> r.t().check(0, 1), IOOBE).refuses("neither", r -> r.t().check(-1, 1), IOOBE);
        at(28, SEVERAL, reading("1")).refuses("no SCHEMA, no DOCUMENT", r -> r.t().check(0, 1), IOOBE)
            .refuses("no SCHEMA", r -> r.t().check(0, 0), ISE);
        at(28, "Returns how many COMPLAINTS there are.", r -> {
            r.read("false");
            r.fill(40);
        }).takes("of 40 DOCUMENTS", r -> r.t().check(0, 39) + " " + r.t().sum(5), "1 1");
        at(28, "A SCHEMA says yes just if it has no COMPLAINT", reading("true", "false", "{}"))
            .takes("yes", r -> r.t().check(0, 2) + " " + r.t().sum(5), "0 0")
            .takes("no", r -> r.t().check(1, 2) + " " + r.t().sum(5), "1 1")
            .takes("no, then yes", r -> r.t().check(1, 2) + " " + r.t().check(2, 2) + " " + r.t().sum(5), "1 0 0");
    }

    private static void noSchemas() {
        String[] no = {"null", "0", "\"\"", "\"true\"", "[]", "[true]", "{\"kind\":null}", "{\"kind\":1}", "{\"kind\":true}", "{\"kind\":{}}",
            "{\"kind\":\"\"}", "{\"kind\":\"numbers\"}", "{\"kind\":\"Text\"}", "{\"kind\":[\"text\",\"\"]}", "{\"kind\":[\"text\",1]}",
            "{\"kind\":[[\"text\"]]}", "{\"least\":null}", "{\"least\":\"1\"}", "{\"most\":[1]}", "{\"most\":true}", "{\"shortest\":\"\"}",
            "{\"longest\":{}}", "{\"needs\":\"a\"}", "{\"needs\":{}}", "{\"needs\":[\"a\",1]}", "{\"keys\":[]}", "{\"keys\":true}",
            "{\"keys\":{\"a\":1}}", "{\"keys\":{\"a\":true,\"b\":null}}", "{\"others\":1}", "{\"others\":[]}", "{\"items\":null}",
            "{\"items\":[true]}", "{\"only\":1}", "{\"only\":{}}", "{\"all\":true}", "{\"all\":{}}", "{\"all\":[true,1]}", "{\"some\":true}",
            "{\"some\":[[]]}", "{\"one\":\"\"}", "{\"one\":[null]}", "{\"not\":0}", "{\"not\":[]}", "{\"ref\":true}", "{\"ref\":[\"a\"]}",
            "{\"names\":[]}", "{\"names\":true}", "{\"names\":{\"a\":5}}", "{\"items\":{\"names\":{\"a\":5}}}", "{\"not\":{\"not\":{\"not\":1}}}"};
        for (String s : no) {
            at(28, REFUSED, r -> {
                r.read(s);
                r.read("false");
                r.t().check(1, 0);
            }).refuses("no SCHEMA: " + s, r -> r.t().check(0, 1), ISE)
                .takes("THE STANDARD says no to " + s, r -> r.t().check(r.t().standard(), 0) > 0, true);
        }
        String[] yes = {"true", "false", "{}", "{\"kind\":\"text\"}", "{\"kind\":[]}", "{\"kind\":[\"nothing\",\"truth\",\"number\",\"text\",\"row\"]}",
            "{\"kind\":[\"map\",\"whole\",\"map\"]}", "{\"least\":1.5,\"most\":-1,\"shortest\":-1,\"longest\":1e99}", "{\"needs\":[]}",
            "{\"needs\":[\"\",\"" + times("x", 40) + "\"]}", "{\"keys\":{}}", "{\"keys\":{\"a\":{}},\"others\":false}", "{\"items\":{}}",
            "{\"only\":[]}", "{\"only\":[null,[],{\"kind\":1}]}", "{\"all\":[],\"some\":[],\"one\":[]}", "{\"not\":true}", "{\"ref\":\"\"}",
            "{\"names\":{}}", "{\"names\":{\"a\":true,\"b\":{\"names\":{}}}}", "{\"x\":1,\"Kind\":2,\"\":[]}", "{\"only\":[{\"not\":1}]}"};
        At test = at(28, REFUSED);
        for (String s : yes) {
            test.behind(reading(s, "5")).takes("a SCHEMA: " + s, r -> r.t().check(0, 1) >= 0, true)
                .takes("THE STANDARD says yes to " + s, r -> r.t().check(r.t().standard(), 0), 0);
        }
    }

    // ---- WORDS

    private static void truths() {
        At test = at(28, "A SCHEMA is a TRUTH (true says yes to all; false says no, with a COMPLAINT 0)");
        for (String value : new String[] {"null", "true", "false", "0", "\"\"", "[]", "{}", "[1,[2]]"}) {
            says(test, "true", value, "");
            says(test, "false", value, "0:0");
            says(test, "{}", value, "");
        }
        At other = at(28, "other KEYS say nothing");
        says(other, "{\"x\":false,\"Least\":9,\"kinds\":\"map\",\"\":0}", "1", "");
        says(other, "{\"names\":{\"a\":false}}", "1", "");
        At kind = at(28, "A WORD that is for another KIND than the VALUE has says nothing.");
        String numbers = "{\"least\":9,\"most\":-9}";
        String lengths = "{\"shortest\":9,\"longest\":-9}";
        String maps = "{\"needs\":[\"a\"],\"keys\":{\"b\":false},\"others\":false}";
        String rows = "{\"items\":false}";
        String[] values = {"null", "true", "0", "\"b\"", "[1]", "{\"b\":1}"};
        String[] saidOfNumbers = {"", "", "0:2 0:3", "", "", ""};
        String[] saidOfLengths = {"", "", "", "0:4 0:5", "0:4 0:5", "0:4 0:5"};
        String[] saidOfMaps = {"", "", "", "", "", "0:6 1:0"};
        String[] saidOfRows = {"", "", "", "", "1:0", ""};
        for (int i = 0; i < values.length; i++) {
            says(kind, numbers, values[i], saidOfNumbers[i]);
            says(kind, lengths, values[i], saidOfLengths[i]);
            says(kind, maps, values[i], saidOfMaps[i]);
            says(kind, rows, values[i], saidOfRows[i]);
        }
    }

    private static void kinds() {
        At test = at(28, "1 \"kind\": one KIND, or a ROW of some: nothing, truth, number, text, row, map, whole (a NUMBER with a POWER of 0 or more)");
        String[] names = {"nothing", "truth", "number", "text", "row", "map"};
        String[] values = {"null", "false", "0.5", "\"number\"", "[]", "{}"};
        for (int i = 0; i < names.length; i++) {
            for (int j = 0; j < values.length; j++) {
                says(test, "{\"kind\":\"" + names[i] + "\"}", values[j], i == j ? "" : "0:1");
                says(test, "{\"kind\":[\"" + names[i] + "\"]}", values[j], i == j ? "" : "0:1");
            }
            says(test, "{\"kind\":\"whole\"}", values[i], "0:1");
        }
        String[][] wholes = {{"0", ""}, {"1", ""}, {"-1", ""}, {"10", ""}, {"1e99", ""}, {"0.0", ""}, {"1.0", ""}, {"0.1", "0:1"}, {"1e-1", "0:1"},
            {"-1e-99", "0:1"}, {"10e-1", ""}, {"12345.5", "0:1"}};
        for (String[] pair : wholes) {
            says(test, "{\"kind\":\"whole\"}", pair[0], pair[1]);
            says(test, "{\"kind\":\"number\"}", pair[0], "");
        }
        says(test, "{\"kind\":[]}", "1", "0:1");
        says(test, "{\"kind\":[\"map\",\"whole\"]}", "1", "");
        says(test, "{\"kind\":[\"map\",\"whole\"]}", "1.5", "0:1");
        says(test, "{\"kind\":[\"whole\",\"number\"]}", "1.5", "");
        says(test, "{\"kind\":[\"text\",\"row\"]}", "[]", "");
    }

    private static void leastAndMost() {
        At test = at(28, "a NUMBER is not less, not greater");
        String[][] leasts = {{"0", "0", ""}, {"0", "-1e-99", "0:2"}, {"0", "1e-99", ""}, {"1.5", "1.5", ""}, {"1.5", "1.49999999999999999999999", "0:2"},
            {"-2", "-2.1", "0:2"}, {"-2", "-2.0", ""}, {"1e99", "9e98", "0:2"}, {"1e99", "1e99", ""}, {"10", "9", "0:2"}, {"10", "1e1", ""}};
        for (String[] three : leasts) {
            says(test, "{\"least\":" + three[0] + "}", three[1], three[2]);
        }
        String[][] mosts = {{"0", "0", ""}, {"0", "1e-99", "0:3"}, {"0", "-1e-99", ""}, {"1.5", "1.5", ""}, {"1.5", "1.50000000000000000000001", "0:3"},
            {"-2", "-1.9", "0:3"}, {"-2", "-2.0", ""}, {"9e98", "1e99", "0:3"}, {"9", "10", "0:3"}, {"10", "1e1", ""}};
        for (String[] three : mosts) {
            says(test, "{\"most\":" + three[0] + "}", three[1], three[2]);
        }
        says(test, "{\"most\":1,\"least\":2}", "1.5", "0:2 0:3");
        says(test, "{\"most\":2,\"least\":2}", "2", "");
    }

    private static void lengths() {
        At test = at(28, "signs of a TEXT, VALUES of a ROW or MAP are not fewer, not more");
        String forty = "\"" + times("\\n", 40) + "\"";
        says(test, "{\"shortest\":0}", "\"\"", "");
        says(test, "{\"shortest\":1}", "\"\"", "0:4");
        says(test, "{\"shortest\":1}", "\"\\n\"", "");
        says(test, "{\"shortest\":40}", forty, "");
        says(test, "{\"shortest\":40.1}", forty, "0:4");
        says(test, "{\"longest\":39}", forty, "0:5");
        says(test, "{\"longest\":39.9}", forty, "0:5");
        says(test, "{\"longest\":40}", forty, "");
        says(test, "{\"longest\":0}", "\"\"", "");
        says(test, "{\"longest\":-1}", "\"\"", "0:5");
        says(test, "{\"longest\":0}", "\"a\"", "0:5");
        says(test, "{\"shortest\":1}", "[]", "0:4");
        says(test, "{\"shortest\":1}", "[[]]", "");
        says(test, "{\"shortest\":2}", "[[1,2]]", "0:4");
        says(test, "{\"shortest\":1}", "{}", "0:4");
        says(test, "{\"shortest\":1}", "{\"abc\":[]}", "");
        says(test, "{\"longest\":1}", "{\"abc\":[1,2]}", "");
        says(test, "{\"longest\":1}", "{\"a\":1,\"b\":2}", "0:5");
        says(test, "{\"longest\":1e-99}", "[1]", "0:5");
        says(test, "{\"shortest\":1e-99}", "[1]", "");
        says(test, "{\"items\":{\"shortest\":2,\"longest\":2}}", "[[1],[1,2],\"a\",\"ab\",\"abc\",{}]", "1:4 6:4 8:5 9:4");
        says(test, "{\"shortest\":99,\"longest\":99}", "[" + list("1", 99) + "]", "");
        says(test, "{\"shortest\":98,\"longest\":98}", "[" + list("1", 99) + "]", "0:5");
        says(test, "{\"shortest\":1e2,\"longest\":1e2}", "[" + list("1", 99) + "]", "0:4");
        says(test, "{\"shortest\":10,\"longest\":10}", "[" + list("1", 10) + "]", "");
        says(test, "{\"shortest\":9,\"longest\":20}", "[" + list("1", 10) + "]", "");
        says(test, "{\"shortest\":2,\"longest\":9}", "[" + list("1", 10) + "]", "0:5");
    }

    private static void needs() {
        At test = at(28, "(\"needs\" one for each TEXT of it whose KEY is not there, in its order)");
        says(test, "{\"needs\":[]}", "{}", "");
        says(test, "{\"needs\":[\"a\"]}", "{}", "0:6");
        says(test, "{\"needs\":[\"a\"]}", "{\"a\":null}", "");
        says(test, "{\"needs\":[\"\"]}", "{\"\":null}", "");
        says(test, "{\"needs\":[\"\"]}", "{\"a\":1}", "0:6");
        says(test, "{\"needs\":[\"a\",\"b\",\"a\"]}", "{\"b\":1}", "0:6 0:6");
        says(test, "{\"needs\":[\"abcdefghijkl\"]}", "{\"abcdefghijkl\":1}", "");
        says(test, "{\"needs\":[\"abcdefghijklm\"]}", "{\"abcdefghijkl\":1}", "0:6");
        says(test, "{\"needs\":[\"abcdefghijk\"]}", "{\"abcdefghijkl\":1}", "0:6");
        says(test, "{\"needs\":[\"" + times("x", 40) + "\"]}", "{\"x\":1}", "0:6");
        says(test, "{\"needs\":[\"a\"]}", "{\"b\":{\"a\":1}}", "0:6");
        says(test, "{\"items\":{\"needs\":[\"a\"]}}", "[{},{\"a\":1},{}]", "1:6 4:6");
    }

    private static void keysAndOthers() {
        At keys = at(28, "7 \"keys\": a MAP of SCHEMAS: each VALUE of a MAP whose KEY is in it is as that says");
        says(keys, "{\"keys\":{}}", "{\"a\":1}", "");
        says(keys, "{\"keys\":{\"a\":false}}", "{}", "");
        says(keys, "{\"keys\":{\"a\":false}}", "{\"b\":1}", "");
        says(keys, "{\"keys\":{\"a\":false}}", "{\"b\":1,\"a\":2}", "2:0");
        says(keys, "{\"keys\":{\"a\":false}}", "{\"b\":{\"a\":1}}", "");
        says(keys, "{\"keys\":{\"b\":false,\"a\":{\"kind\":\"text\"}}}", "{\"a\":1,\"c\":[2],\"b\":3}", "1:1 4:0");
        says(keys, "{\"keys\":{\"abcdefghijkl\":false,\"\":false}}", "{\"abcdefghijk\":1,\"\":2,\"abcdefghijkl\":3}", "2:0 3:0");
        At others = at(28, "each VALUE of a MAP whose KEY is not in \"keys\" (all, without that)");
        says(others, "{\"others\":false}", "{}", "");
        says(others, "{\"others\":false}", "{\"a\":1,\"b\":[2]}", "1:0 2:0");
        says(others, "{\"keys\":{},\"others\":false}", "{\"a\":1,\"b\":[2]}", "1:0 2:0");
        says(others, "{\"keys\":{\"a\":true},\"others\":false}", "{\"a\":1,\"b\":[2]}", "2:0");
        says(others, "{\"others\":false,\"keys\":{\"a\":true,\"b\":true}}", "{\"b\":1,\"a\":[2]}", "");
        says(others, "{\"others\":false,\"keys\":{\"b\":false}}", "{\"a\":1,\"b\":[2],\"c\":3}", "2:0 1:0 4:0");
    }

    private static void itemsAndOnly() {
        At items = at(28, "9 \"items\": a SCHEMA: each VALUE of a ROW");
        says(items, "{\"items\":false}", "[]", "");
        says(items, "{\"items\":false}", "[1]", "1:0");
        says(items, "{\"items\":{\"most\":1}}", "[1,2,[3],0,4]", "2:3 6:3");
        says(items, "{\"items\":{\"items\":false}}", "[1,[],[2,[3]]]", "4:0 5:0");
        At only = at(28, "10 \"only\": a ROW: it is EQUAL to one of these");
        says(only, "{\"only\":[]}", "null", "0:10");
        says(only, "{\"only\":[null]}", "null", "");
        says(only, "{\"only\":[false,0,\"\",[],{}]}", "null", "0:10");
        says(only, "{\"only\":[1,2,3]}", "3.0", "");
        says(only, "{\"only\":[1,2,3]}", "\"3\"", "0:10");
        says(only, "{\"only\":[{\"a\":1,\"b\":[2]}]}", "{\"b\":[2],\"a\":1}", "");
        says(only, "{\"only\":[[1,2]]}", "[2,1]", "0:10");
        says(only, "{\"only\":[[1,2]]}", "[1]", "0:10");
        says(only, "{\"only\":[1,1]}", "1", "");
    }

    private static void allAndSome() {
        At all = at(28, "11 \"all\": a ROW of SCHEMAS: all say yes");
        says(all, "{\"all\":[]}", "1", "");
        says(all, "{\"all\":[true]}", "1", "");
        says(all, "{\"all\":[false]}", "1", "0:0");
        says(all, "{\"all\":[true,false,true,false]}", "1", "0:0 0:0");
        says(all, "{\"all\":[{\"kind\":\"text\"},{\"most\":0},true]}", "1", "0:1 0:3");
        At some = at(28, "12 \"some\": at least one does");
        says(some, "{\"some\":[]}", "1", "0:12");
        says(some, "{\"some\":[false]}", "1", "0:12");
        says(some, "{\"some\":[true]}", "1", "");
        says(some, "{\"some\":[false,false]}", "1", "0:12");
        says(some, "{\"some\":[false,true]}", "1", "");
        says(some, "{\"some\":[true,false]}", "1", "");
        says(some, "{\"some\":[true,true]}", "1", "");
        says(some, "{\"some\":[{\"items\":false}]}", "[1,2]", "0:12");
    }

    private static void oneAndNot() {
        At one = at(28, "13 \"one\": just one does");
        says(one, "{\"one\":[]}", "1", "0:13");
        says(one, "{\"one\":[false]}", "1", "0:13");
        says(one, "{\"one\":[true]}", "1", "");
        says(one, "{\"one\":[true,true]}", "1", "0:13");
        says(one, "{\"one\":[false,true,false]}", "1", "");
        says(one, "{\"one\":[true,false,true]}", "1", "0:13");
        says(one, "{\"one\":[{\"items\":false},{\"kind\":\"row\"}]}", "[1,2]", "");
        At not = at(28, "14 \"not\": a SCHEMA: that says no");
        says(not, "{\"not\":true}", "1", "0:14");
        says(not, "{\"not\":false}", "1", "");
        says(not, "{\"not\":{}}", "1", "0:14");
        says(not, "{\"not\":{\"not\":true}}", "1", "");
        says(not, "{\"not\":{\"items\":false}}", "[1]", "");
        says(not, "{\"not\":{\"items\":false}}", "[]", "0:14");
        At told = at(28, "All that is told is asked, also where the answer is known by then.");
        says(told, "{\"all\":[false,{\"all\":[false,false]}],\"kind\":\"map\",\"only\":[]}", "1", "0:1 0:10 0:0 0:0 0:0");
    }

    private static void refs() {
        At test = at(28, "15 \"ref\": a TEXT: the SCHEMA of that KEY of \"names\" of the whole DOCUMENT says yes; it says no, if there is none");
        says(test, "{\"ref\":\"a\"}", "1", "0:15");
        says(test, "{\"ref\":\"a\",\"names\":{}}", "1", "0:15");
        says(test, "{\"ref\":\"a\",\"names\":{\"aa\":true,\"\":true}}", "1", "0:15");
        says(test, "{\"ref\":\"a\",\"names\":{\"a\":true}}", "1", "");
        says(test, "{\"ref\":\"a\",\"names\":{\"a\":false}}", "1", "0:0");
        says(test, "{\"ref\":\"a\",\"names\":{\"a\":{\"kind\":\"text\",\"most\":0}}}", "1", "0:1 0:3");
        says(test, "{\"ref\":\"\",\"names\":{\"\":{\"kind\":\"text\"}}}", "1", "0:1");
        says(test, "{\"ref\":\"abcdefghijkl\",\"names\":{\"abcdefghijkl\":true}}", "1", "");
        says(test, "{\"ref\":\"abcdefghijklm\",\"names\":{\"abcdefghijkl\":true}}", "1", "0:15");
        says(test, "{\"ref\":\"" + times("x", 40) + "\",\"names\":{\"x\":true}}", "1", "0:15");
        says(test, "{\"items\":{\"ref\":\"a\",\"names\":{\"a\":true}}}", "[1]", "1:15");
        says(test, "{\"items\":{\"ref\":\"a\",\"names\":{\"a\":true}},\"names\":{\"a\":{\"kind\":\"text\"}}}", "[1,\"\"]", "1:1");
        says(test, "{\"items\":{\"ref\":\"b\"}}", "[1,[]]", "1:15 2:15");
        says(test, "{\"not\":{\"ref\":\"a\"}}", "1", "");
        says(test, "{\"not\":{\"ref\":\"a\"},\"names\":{\"a\":true}}", "1", "0:14");
        says(test, "{\"some\":[{\"ref\":\"a\"},{\"ref\":\"b\"}],\"names\":{\"b\":true}}", "1", "");
    }

    /** Names a to the one by that number, each of which asks the next one; the last one says what is told. */
    private static String chain(int names, String last) {
        StringBuilder b = new StringBuilder("{\"ref\":\"a\",\"names\":{");
        for (int i = 0; i < names - 1; i++) {
            b.append('"').append((char) ('a' + i)).append("\":{\"ref\":\"").append((char) ('b' + i)).append("\"},");
        }
        return b.append('"').append((char) ('a' + names - 1)).append("\":").append(last).append("}}").toString();
    }

    private static void thirteen() {
        At test = at(28, "or 13 \"ref\" are open, each within the one ahead");
        says(test, chain(12, "true"), "1", "");
        says(test, chain(13, "true"), "1", "");
        says(test, chain(14, "true"), "1", "0:15");
        says(test, chain(15, "true"), "1", "0:15");
        says(test, chain(13, "false"), "1", "0:0");
        says(test, chain(14, "false"), "1", "0:15");
        says(test, chain(12, "{\"ref\":\"y\"}"), "1", "0:15");
        says(test, chain(13, "{\"not\":{\"ref\":\"y\"}}"), "1", "");
        says(test, chain(13, "{\"items\":{\"ref\":\"a\"}}"), "[]", "");
        says(test, chain(13, "{\"items\":{\"ref\":\"a\"}}"), "[7,8]", "1:15 2:15");
        says(test, chain(12, "{\"items\":{\"ref\":\"l\"}}"), "[7,8]", "");
        says(test, chain(12, "{\"items\":{\"ref\":\"l\"}}"), "[[7],8]", "2:15");
        says(test, "{\"names\":{\"a\":true},\"all\":[" + list("{\"ref\":\"a\"}", 20) + "]}", "1", "");
        says(test, "{\"names\":{\"a\":false},\"items\":{\"ref\":\"a\"}}", "[" + list("1", 10) + "]",
            "1:0 2:0 3:0 4:0 5:0 6:0 7:0 8:0 9:0 10:0");
    }

    private static void openRefs() {
        At test = at(28, "but a \"ref\" that is open for the same KEY and the same NODE says yes, ahead of that");
        says(test, "{\"ref\":\"a\",\"names\":{\"a\":{\"ref\":\"a\"}}}", "1", "");
        says(test, "{\"ref\":\"a\",\"names\":{\"a\":{\"not\":{\"ref\":\"a\"}}}}", "1", "0:14");
        says(test, "{\"ref\":\"a\",\"names\":{\"a\":{\"ref\":\"b\"},\"b\":{\"ref\":\"a\"}}}", "1", "");
        says(test, "{\"ref\":\"a\",\"names\":{\"a\":{\"ref\":\"b\"},\"b\":{\"ref\":\"a\",\"kind\":\"text\"}}}", "1", "0:1");
        says(test, "{\"ref\":\"a\",\"names\":{\"a\":{\"items\":{\"ref\":\"a\"},\"kind\":\"row\"}}}", "[[],1,[[2]]]", "2:1 5:1");
        says(test, chain(13, "{\"ref\":\"a\"}"), "1", "");
        says(test, chain(13, "{\"ref\":\"m\"}"), "1", "");
        says(test, chain(13, "{\"ref\":\"n\"}"), "1", "0:15");
        says(test, chain(13, "{\"not\":{\"ref\":\"f\"}}"), "1", "0:14");
        says(test, chain(13, "{\"items\":{\"ref\":\"a\"}}"), "[1]", "1:15");
        says(test, "{\"all\":[{\"ref\":\"a\"},{\"ref\":\"a\"}],\"names\":{\"a\":false}}", "1", "0:0 0:0");
        says(test, "{\"all\":[{\"ref\":\"a\"},{\"ref\":\"a\"}],\"names\":{\"a\":{\"ref\":\"b\"},\"b\":false}}", "1", "0:0 0:0");
        says(test, "{\"ref\":\"a\",\"names\":{\"a\":{\"all\":[{\"ref\":\"b\"},{\"ref\":\"b\"},{\"ref\":\"a\"}]},\"b\":{\"ref\":\"c\"},\"c\":false}}", "1",
            "0:0 0:0");
    }

    /** SCHEMAS of DEPTH 12, asked by THE STANDARD and themselves. */
    private static void deepest() {
        At test = at(28, "A SCHEMA is a TRUTH (true says yes to all; false says no, with a COMPLAINT 0), or a MAP");
        test.takes("12 times not, with true", r -> r.check(times("{\"not\":", 12) + "true" + times("}", 12), "1"), "");
        test.takes("12 times not, with false", r -> r.check(times("{\"not\":", 12) + "false" + times("}", 12), "1"), "0:14");
        test.takes("12 times items", r -> r.check(times("{\"items\":", 12) + "false" + times("}", 12), deep(11)), "");
        test.takes("12 times items, about DEPTH 12", r -> r.check(times("{\"items\":", 12) + "false" + times("}", 12),
            times("[", 12) + "1" + times("]", 12)), "12:0");
        test.takes("11 times items, and a kind", r -> r.check(times("{\"items\":", 11) + "{\"kind\":\"text\"}" + times("}", 11), deep(12)), "11:1");
        test.takes("6 times all", r -> r.check(times("{\"all\":[", 6) + "false" + times("]}", 6), "1"), "0:0");
        test.takes("6 times keys", r -> r.check(times("{\"keys\":{\"a\":", 6) + "false" + times("}}", 6), times("{\"a\":", 6) + "1" + times("}", 6)), "6:0");
        test.behind(r -> r.read(times("{\"not\":", 11) + "[]" + times("}", 11)))
            .refuses("11 times not, with a ROW", r -> r.t().check(0, 0), ISE);
        test.behind(r -> r.read(times("{\"not\":", 12) + "1" + times("}", 12)))
            .refuses("12 times not, with a NUMBER", r -> r.t().check(0, 0), ISE);
        // Ten SCHEMAS within each other from one "ref" to the next one, at the next NODE.
        String a = "\"a\":" + times("{\"not\":", 8) + "{\"items\":{\"ref\":\"a\"}}" + times("}", 8);
        At open = at(28, "or 13 \"ref\" are open, each within the one ahead");
        String direct = "{\"names\":{" + a + "},\"ref\":\"a\"}";
        String around = "{\"names\":{" + a + ",\"z\":{\"ref\":\"a\"}},\"ref\":\"z\"}";
        says(open, direct, times("[", 12) + "1" + times("]", 12), "");
        says(open, around, times("[", 11) + "1" + times("]", 11), "");
        says(open, around, times("[", 12) + "1" + times("]", 12), "0:14");
    }

    // ---- bounds of check()

    private static void asked() {
        // The first time, then 19 times 1 for the "ref" and 1 and 98 for what it asks, then 1 and 98.
        String refs = "{\"names\":{\"a\":{\"items\":true}},\"all\":[" + list("{\"ref\":\"a\"}", 19) + ",{\"items\":true}";
        At test = at(28, ASKED);
        test.behind(r -> {
            r.readOnes(98);
            r.read(refs + "]}");
            r.read(refs + ",true]}");
            r.readOnes(97);
            r.readOnes(99);
        }).takes("2000 times", r -> r.t().check(1, 0), 0)
            .refuses("2001 times", r -> r.t().check(2, 0), ISE)
            .takes("1980 times", r -> r.t().check(1, 3), 0)
            .takes("1981 times", r -> r.t().check(2, 3), 0)
            .refuses("2020 times", r -> r.t().check(1, 4), ISE)
            .takes("2001 times, then 2000 times", r -> r.answer(s -> s.t().check(2, 0)) + " " + r.t().check(1, 0), ISE + " 0");
        At standard = at(28, "those by THE STANDARD do not count");
        standard.behind(r -> {
            r.readOnes(98);
            r.read(refs + "]}");
            r.t().standard();
        }).takes("2000 times, of a SCHEMA of which THE STANDARD asks itself", r -> r.t().check(1, 0), 0)
            .takes("THE STANDARD as the SCHEMA", r -> r.t().check(2, 1), 0);
        // Each asks the next one twice: 2 and 4 and so on by "all", as many by "ref".
        At twice = at(28, ASKED);
        twice.behind(reading(twice(8), twice(9), "1")).takes("1022 times", r -> r.t().check(0, 2), 0)
            .refuses("2046 times", r -> r.t().check(1, 2), ISE);
    }

    private static String twice(int names) {
        StringBuilder b = new StringBuilder("{\"ref\":\"a\",\"names\":{");
        for (int i = 0; i < names; i++) {
            String next = "{\"ref\":\"" + (char) ('b' + i) + "\"}";
            b.append('"').append((char) ('a' + i)).append("\":{\"all\":[").append(next).append(',').append(next).append("]},");
        }
        return b.append('"').append((char) ('a' + names)).append("\":true}}").toString();
    }

    /** Asks 1998 times, with the KEY y in "keys"; what is behind may ask some more times. */
    private static String nearly(String y, String more) {
        return "{\"names\":{\"a\":{\"items\":true,\"all\":[" + list("true", 7) + "]},\"b\":true},\"keys\":{\"x\":{\"all\":["
            + list("{\"ref\":\"a\"}", 19) + "]}" + (y.isEmpty() ? "" : ",\"y\":" + y) + "}" + more + "}";
    }

    private static void fits(At test, String schema, String complaints) {
        test.takes("2000 times: " + schema, r -> {
            r.read(schema);
            r.read("{\"x\":[" + list("1", 96) + "],\"y\":[1]}");
            return r.t().check(0, 1) + " " + r.complaints();
        }, complaints);
    }

    private static void tooOften(At test, String schema) {
        test.behind(r -> {
            r.read(schema);
            r.read("{\"x\":[" + list("1", 96) + "],\"y\":[1]}");
        }).refuses("2001 times: " + schema, r -> r.t().check(0, 1), ISE);
    }

    private static void askedByEach() {
        At test = at(28, EACH);
        // The first time, x, and 19 times 1 for "a", 7 for its "all", 96 for its "items", 1 for the "all" of x: 1997; y: 1998.
        fits(test, nearly("{}", ",\"some\":[true,true]"), "0 ");
        tooOften(test, nearly("{}", ",\"some\":[true,true,true]"));
        for (String word : new String[] {"\"items\":true", "\"all\":[true]", "\"some\":[true]", "\"one\":[true]", "\"not\":false", "\"ref\":\"b\""}) {
            fits(test, nearly("{" + word + "}", ",\"some\":[true]"), "0 ");
            tooOften(test, nearly("{" + word + "}", ",\"some\":[true,true]"));
            tooOften(test, nearly("{" + word + "}", ",\"all\":[true,true]"));
            tooOften(test, nearly("{" + word + "}", ",\"one\":[true,false]"));
            tooOften(test, nearly("{" + word + "}", ",\"not\":{\"not\":true}"));
        }
        fits(test, nearly("", ",\"some\":[true,true,true]"), "0 ");
        tooOften(test, nearly("", ",\"some\":[true,true,true,true]"));
        tooOften(test, nearly("true", ",\"some\":[true,true,true]"));
        fits(test, nearly("true", ",\"some\":[true,true]"), "0 ");
        fits(test, nearly("", ",\"others\":true,\"some\":[true,true]"), "0 ");
        tooOften(test, nearly("", ",\"others\":true,\"some\":[true,true,true]"));
        fits(test, nearly("{\"ref\":\"c\"}", ",\"some\":[true,true]"), "1 98:15");
        tooOften(test, nearly("{\"ref\":\"c\"}", ",\"some\":[true,true,true]"));
        fits(test, nearly("{\"ref\":\"b\"}", ",\"one\":[true]").replace("\"b\":true", "\"b\":{\"ref\":\"b\"}"), "0 ");
        tooOften(test, nearly("{\"ref\":\"b\"}", ",\"one\":[true,false]").replace("\"b\":true", "\"b\":{\"ref\":\"b\"}"));
    }

    private static void tooManyComplaints() {
        Lead lead = r -> {
            r.readOnes(99);
            String ten = "{\"all\":[" + list("{\"items\":false}", 10) + ",";
            r.read(ten + list("false", 10) + "]}");
            r.read(ten + list("false", 11) + "]}");
            r.read(ten + list("false", 10) + "],\"not\":{\"items\":false}}");
            r.read(ten + list("false", 10) + "],\"some\":[true,{\"items\":false},false]}");
            r.read(ten + list("false", 10) + "],\"one\":[true,{\"items\":false},false]}");
            r.read(ten + list("false", 10) + "],\"not\":true}");
            r.read("{\"items\":false}");
            r.t().check(7, 0);
        };
        at(28, "or more than 1000 COMPLAINTS would be told", lead)
            .takes("1000", r -> r.t().check(1, 0) + " " + r.t().sum(5) + " " + r.t().complaint(989, 0) + " " + r.t().complaint(999, 0), "1000 1000 99 0")
            .refuses("1001, and those of the latest check() stay", r -> r.t().check(2, 0), ISE)
            .refuses("1001, one of \"not\" itself", r -> r.t().check(6, 0), ISE)
            .takes("1000, then 99", r -> r.t().check(1, 0) + " " + r.t().check(7, 0) + " " + r.t().sum(5) + " " + r.answer(s -> s.t().complaint(99, 0)),
                "1000 99 99 " + IOOBE)
            .takes("1000, then too many", r -> r.t().check(1, 0) + " " + r.answer(s -> s.t().check(2, 0)) + " " + r.t().sum(5), "1000 " + ISE + " 1000");
        at(28, "(those of what 12 to 14 ask are none)", lead)
            .takes("1000, and those of what \"not\" asks", r -> r.t().check(3, 0), 1000)
            .takes("1000, and those of what \"some\" asks", r -> r.t().check(4, 0), 1000)
            .takes("1000, and those of what \"one\" asks", r -> r.t().check(5, 0), 1000);
    }

    private static void order() {
        At test = at(28, "of which each WORD that it has says something to a VALUE, in this order");
        says(test, "{\"not\":true,\"one\":[],\"some\":[],\"all\":[false],\"only\":[],\"items\":false,\"longest\":0,\"shortest\":9,\"kind\":\"map\"}",
            "[7]", "0:1 0:4 0:5 1:0 0:10 0:0 0:12 0:13 0:14");
        says(test, "{\"others\":{\"most\":0,\"least\":9},\"keys\":{\"b\":false},\"needs\":[\"x\"],\"only\":[]}", "{\"a\":5,\"b\":6,\"c\":7}",
            "0:6 2:0 1:2 1:3 3:2 3:3 0:10");
        says(test, "{\"ref\":\"x\",\"not\":{}}", "1", "0:14 0:15");
    }

    // ---- complaint

    private static void complaint() {
        at(29, NOT_SO_MANY).refuses("0, ahead of the first check()", r -> r.t().complaint(0, 0), IOOBE)
            .refuses("-1", r -> r.t().complaint(-1, 0), IOOBE);
        Lead two = r -> {
            reading("{\"items\":{\"kind\":\"text\"}}", "[1,\"\",2]", "[1]", "5", "[\"\"]").on(r);
            r.t().check(0, 1);
        };
        at(29, NOT_SO_MANY, two).refuses("-1", r -> r.t().complaint(-1, 0), IOOBE)
            .asks("0", r -> r.t().complaint(0, 0) + " " + r.t().complaint(0, 1), "1 1")
            .asks("1", r -> r.t().complaint(1, 0) + " " + r.t().complaint(1, 1), "3 1")
            .refuses("2", r -> r.t().complaint(2, 0), IOOBE)
            .refuses("the greatest int", r -> r.t().complaint(Integer.MAX_VALUE, 0), IOOBE)
            .refuses("the least int", r -> r.t().complaint(Integer.MIN_VALUE, 0), IOOBE)
            .takes("1 of the latest check()", r -> r.t().check(0, 2) + " " + r.t().complaint(0, 0) + " " + r.answer(s -> s.t().complaint(1, 0)),
                "1 1 " + IOOBE)
            .takes("0 of none", r -> r.t().check(0, 4) + " " + r.answer(s -> s.t().complaint(0, 0)), "0 " + IOOBE)
            .takes("a check() that throws", r -> r.answer(s -> s.t().check(3, 1)) + " " + r.complaints(), ISE + " 1:1 3:1")
            .takes("another one that throws", r -> r.answer(s -> s.t().check(5, 1)) + " " + r.complaints(), IOOBE + " 1:1 3:1");
        at(29, "`what`: 0, 1", two).refuses("-1", r -> r.t().complaint(1, -1), IAE)
            .asks("0", r -> r.t().complaint(1, 0), 3)
            .asks("1", r -> r.t().complaint(1, 1), 1)
            .refuses("2", r -> r.t().complaint(1, 2), IAE);
        at(29, "if what is out of range", two).refuses("the greatest int", r -> r.t().complaint(0, Integer.MAX_VALUE), IAE)
            .refuses("the least int", r -> r.t().complaint(0, Integer.MIN_VALUE), IAE);
        at(29, SEVERAL, two).refuses("neither k nor what", r -> r.t().complaint(2, 2), IOOBE)
            .refuses("neither k nor what, below 0", r -> r.t().complaint(-1, -1), IOOBE);
    }
}
