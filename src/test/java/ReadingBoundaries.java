/** Boundaries of promise 6: reading, with the part that tells how a text is read. */
final class ReadingBoundaries extends Boundaries {
    private static final String FORTY = times("x", 40);

    static void all() {
        read();
        blanks();
        words();
        figures();
        exponents();
        common();
        powers();
        texts();
        escapes();
        hexFigures();
        keys();
        groups();
        tooSoon();
        depth();
        values();
        valuesLeftOut();
        ruleZero();
        ruleOneAndTwo();
    }

    private static void read() {
        at(6, "if there are 40 DOCUMENTS (THE PAGE stays)", r -> {
            r.read("1");
            r.fill(39);
            r.page("[7]");
        }).takes("the 40th", r -> r.t().read() + " " + r.t().sum(1) + " " + r.least(39), "39 0 [7]");
        at(6, "if there are 40 DOCUMENTS (THE PAGE stays)", r -> {
            r.read("1");
            r.fill(40);
            r.page("[7]");
        }).refuses("the 41st", r -> r.t().read(), ISE)
            .takes("what stays on THE PAGE", r -> r.answer(s -> s.t().read()) + " " + r.t().undo() + " " + r.t().read() + " " + r.least(39),
                ISE + " 39 39 [7]");
        at(6, "if there are 40 DOCUMENTS (THE PAGE stays)", r -> {
            r.read("1");
            r.fill(40);
            r.page("[7");
        }).refuses("the 41st, with a FAULT", r -> r.t().read(), ISE);
        at(6, "if there are 40 DOCUMENTS (THE PAGE stays)", r -> {
            r.read("1");
            r.fill(40);
        }).refuses("the 41st, of no signs", r -> r.t().read(), ISE);
        at(6, "Returns its number; -2 less the place of its FAULT, if it has one.")
            .takes("the first DOCUMENT", r -> r.type("1").t().read(), 0)
            .takes("a FAULT at 0", r -> r.type("x").t().read(), -2)
            .takes("a FAULT at 399", r -> r.type(times(" ", 399) + "x").t().read(), -401)
            .takes("a FAULT at 400", r -> r.type(times(" ", 400)).t().read(), -402);
        at(6, "THE PAGE is empty then, also with a FAULT", reading("[1]"))
            .takes("a DOCUMENT", r -> r.type("[2]").t().read() + " " + r.t().sum(1) + " " + r.t().sum(0), "1 0 2")
            .takes("a FAULT", r -> r.type("[2").t().read() + " " + r.t().sum(1) + " " + r.t().sum(0) + " " + r.least(0), "-4 0 1 [1]")
            .takes("what is typed behind it", r -> r.type("[2").t().read() + " " + r.came("[3]"), "-4 [3]");
    }

    private static void blanks() {
        at(6, "blanks (32), ends of lines (10), as many as wanted, ahead of, between and behind its WORDS, not within")
            .reads(times(" ", 198) + "null" + times("\n", 198), "null")
            .reads(times("\n ", 198) + "[ ]", "[]")
            .reads(" \n{ \n\"a\" \n: \n[ \n1 \n, \n2 \n] \n, \n\"b\" \n: \n{ \n} \n} \n", "{\"a\":[1,2],\"b\":{}}")
            .reads("[\n]", "[]")
            .reads("{\n}", "{}")
            .faults("", 0)
            .faults(" ", 1)
            .faults("nu ll", 2)
            .faults("tr\nue", 2)
            .faults("- 1", 1)
            .faults("1 2", 2)
            .faults("1 .5", 2)
            .faults("1. 5", 2)
            .faults("1e 5", 2)
            .faults("1e+ 5", 3)
            .faults("\"a\\ n\"", 3)
            .faults("\"\\u00 41\"", 5)
            .faults("\"a\nb\"", 2)
            .faults("1 ,", 2);
    }

    private static void words() {
        at(6, "null, true, false").reads("null", "null").reads("true", "true").reads("false", "false")
            .faults("n", 1).faults("nu", 2).faults("nul", 3).faults("nulL", 3).faults("nulll", 4).faults("nil", 1)
            .faults("t", 1).faults("tr", 2).faults("tru", 3).faults("truE", 3).faults("truee", 4).faults("tfue", 1)
            .faults("f", 1).faults("fa", 2).faults("fal", 3).faults("fals", 4).faults("falsee", 5).faults("ftlse", 1)
            .faults("Null", 0).faults("True", 0).faults("False", 0).faults("x", 0).faults("nulltrue", 4);
        at(6, "perhaps -, then 0, or a figure 1 to 9 and any figures")
            .reads("0", "0").reads("-0", "0").reads("1", "1").reads("9", "9").reads("-9", "-9").reads("10", "1e1").reads("19", "19")
            .reads("1234567890", "123456789e1")
            .faults("-", 1).faults("--1", 1).faults("+1", 0).faults("00", 1).faults("01", 1).faults("-01", 2).faults("09", 1)
            .faults("-a", 1).faults("1-", 1).faults("/", 0).faults(":", 0).faults("1/", 1).faults("1:", 1).faults("0x1", 1);
        at(6, "perhaps . and one figure or more")
            .reads("0.5", "5e-1").reads("1.5", "15e-1").reads("1.0", "1").reads("1.09", "109e-2").reads("-0.0", "0")
            .faults("1.", 2).faults("0.", 2).faults(".5", 0).faults("-.5", 1).faults("1..5", 2).faults("1.5.", 3).faults("1.5.5", 3)
            .faults("1.e1", 2).faults("1.-5", 2).faults("1./", 2).faults("1.:", 2);
    }

    private static void figures() {
        String twelve = "123456789012";
        at(6, "at most 24 figures ahead of and behind the point, together (all that are written, 0s too)")
            .reads(times("9", 24), times("9", 24))
            .faults(times("9", 25), 24)
            .reads("-" + times("9", 24), "-" + times("9", 24))
            .faults("-" + times("9", 25), 25)
            .reads(twelve + "." + twelve, twelve + twelve + "e-12")
            .faults(twelve + "." + twelve + "3", 25)
            .faults(twelve + "3." + twelve, 25)
            .reads("0." + times("0", 22) + "1", "1e-23")
            .faults("0." + times("0", 23) + "1", 25)
            .reads("0." + times("0", 23), "0")
            .faults("0." + times("0", 24), 25)
            .reads("1" + times("0", 23), "1e23")
            .faults("1" + times("0", 24), 24)
            .reads("1." + times("0", 23), "1")
            .faults("1." + times("0", 24), 25)
            .reads(times("9", 24) + "e12", times("9", 24) + "e12");
        at(6, "the 25th figure").reads("[" + times("1", 24) + "]", "[" + times("1", 24) + "]")
            .faults("[" + times("1", 25) + "]", 25)
            .faults("[" + times("1", 25) + "e99", 25)
            .faults("[" + times("1", 24) + ".1]", 26)
            .faults("[" + times("1", 24) + ".", 26);
        at(6, "where DIGITS have at most 24 figures, and do not end with 0, but for 0, whose POWER is 0",
            reading("[" + times("7", 24) + ",1" + times("0", 23) + ",0e9,0.000e-99,-0e5]"))
            .asks("24 figures", r -> r.t().node(0, 1, 6) + " " + r.t().node(0, 1, 5), "24 0")
            .asks("1 and 23 times 0", r -> r.t().node(0, 2, 6) + " " + r.t().node(0, 2, 5), "1 23")
            .asks("0e9", r -> r.t().node(0, 3, 6) + " " + r.t().node(0, 3, 5), "1 0")
            .asks("0.000e-99", r -> r.t().node(0, 4, 6) + " " + r.t().node(0, 4, 5), "1 0")
            .asks("-0e5", r -> r.t().node(0, 5, 7) + " " + r.t().node(0, 5, 5), "0 0");
    }

    private static void exponents() {
        at(6, "perhaps e or E, perhaps + or -, and one figure or two")
            .reads("1e1", "1e1").reads("1E1", "1e1").reads("1e+1", "1e1").reads("1E-1", "1e-1").reads("1e01", "1e1")
            .reads("1e12", "1e12").reads("1e0", "1").reads("1e00", "1").reads("1e-00", "1").reads("15e-01", "15e-1")
            .reads("1.5e1", "15").reads("0e0", "0")
            .faults("1e", 2).faults("1E", 2).faults("1e+", 3).faults("1e-", 3).faults("1e-x", 3).faults("1e+-1", 3)
            .faults("1ee1", 2).faults("e1", 0).faults("1e123", 4).faults("1e+123", 5).faults("1e001", 4).faults("1e1.5", 3)
            .faults("1e1e1", 3).faults("1e/", 2).faults("1e:", 2).faults("1e1/", 3).faults("1e1:", 3);
    }

    private static void common() {
        at(6, "it is what that is by the common reading")
            .reads("100", "1e2").reads("1.50", "15e-1").reads("0.001e3", "1").reads("0.001e2", "1e-1").reads("100e-2", "1")
            .reads("-12.50e1", "-125").reads("1" + times("0", 23) + "e-23", "1")
            .reads("100200", "1002e2").reads("0.0100", "1e-2").reads("12e-1", "12e-1").reads("120e-1", "12");
    }

    private static void powers() {
        at(6, "the first sign of a NUMBER whose POWER would be below -99 or above 99 (told as soon as it ends, ahead of the sign behind it)")
            .reads("1e99", "1e99").faults("10e99", 0)
            .reads("10e98", "1e99").faults("100e98", 0)
            .reads("1e-99", "1e-99").faults("0.1e-99", 0)
            .reads("0.1e-98", "1e-99").faults("0.01e-98", 0)
            .reads("10e-99", "1e-98").reads("12e99", "12e99").faults("120e99", 0)
            .reads("1.0e-99", "1e-99").reads("0.10e-98", "1e-99").reads("1.1e-98", "11e-99").faults("1.1e-99", 0)
            .reads("0e99", "0").reads("0e-99", "0").reads("0.0e-99", "0").reads("-0.00e99", "0")
            .reads("1" + times("0", 23) + "e76", "1e99").faults("1" + times("0", 23) + "e77", 0)
            .reads("0." + times("0", 22) + "1e-76", "1e-99").faults("0." + times("0", 22) + "1e-77", 0)
            .faults("-10e99", 0).faults("  10e99", 2).faults("[10e99]", 1).faults("[1,-10e99,", 3).faults("{\"a\":10e99}", 5)
            .faults("10e99x", 0).faults("[0.1e-99}", 1).faults("10e999", 0).faults("1e999", 4).faults("10e99 1", 0)
            .faults("{\"a\":1,\"b\":0.1e-99", 11);
        at(6, "the POWER is -99 to 99", reading("[1e99,1e-99]"))
            .asks("99", r -> r.t().node(0, 1, 5), 99)
            .asks("-99", r -> r.t().node(0, 2, 5), -99);
    }

    private static void texts() {
        at(6, "the sign, or the \\ ahead of it, by which a TEXT would have 41 signs, a KEY 13")
            .reads("\"\"", "\"\"")
            .reads("\"" + FORTY + "\"", "\"" + FORTY + "\"")
            .faults("\"" + FORTY + "y\"", 41)
            .faults("\"" + FORTY + "y", 41)
            .faults("\"" + FORTY, 41)
            .faults("\"" + FORTY + "\\n\"", 41)
            .faults("\"" + FORTY + "\\", 41)
            .faults("\"" + FORTY + "\\x", 41)
            .faults("\"" + FORTY + "\n", 41)
            .reads("\"" + times("\\n", 40) + "\"", "\"" + times("\\u000a", 40) + "\"")
            .faults("\"" + times("\\n", 40) + "x\"", 81)
            .faults("\"" + times("\\n", 41) + "\"", 81)
            .reads("\"" + times("\\u00e9", 40) + "\"", "\"" + times("\\u00e9", 40) + "\"")
            .faults("\"" + times("\\u00e9", 40) + "\\u00e9\"", 241)
            .faults("[\"" + FORTY + "\",\"" + FORTY + "y\"]", 85);
        at(6, "3 a TEXT, at most 40 signs of the codes 0 to 255", reading("[\"\",\"" + FORTY + "\",\"\\u0000\",\"\\u00ff\"]"))
            .asks("none", r -> r.t().node(0, 1, 3), 0)
            .asks("40", r -> r.t().node(0, 2, 3), 40)
            .takes("the code 0", r -> r.t().tell(0, 3, 0) + " " + r.t().paper(0, 1), "1 0")
            .takes("the code 255", r -> r.t().tell(0, 4, 0) + " " + r.t().paper(0, 1), "1 255");
        at(6, "The signs of a TEXT or KEY are written as themselves, but for \", \\ and those below 32")
            .reads("\" ~\"", "\" ~\"").reads("\"/'[]{}:,\"", "\"/'[]{}:,\"").reads("{\" ~\":1}", "{\" ~\":1}")
            .faults("\"\n\"", 1).faults("\"a\n", 2).faults("{\"\n\":1}", 2).faults("\"\"\"", 2).faults("\"a\"b\"", 3);
    }

    private static void escapes() {
        At test = at(6, "or as \\\" \\\\ \\/ (the sign behind \\), \\b \\f \\n \\r \\t (8, 12, 10, 13, 9)");
        String signs = "\"\\/bfnrt";
        String[] written = {"\\\"", "\\\\", "/", "\\u0008", "\\u000c", "\\u000a", "\\u000d", "\\u0009"};
        for (int code = 32; code <= 126; code++) {
            char sign = (char) code;
            int at = signs.indexOf(sign);
            if (at >= 0) {
                test.reads("\"\\" + sign + "\"", "\"" + written[at] + "\"").reads("{\"\\" + sign + "\":1}", "{\"" + written[at] + "\":1}");
            } else if (sign != 'u') {
                test.faults("\"\\" + sign + "\"", 2);
            }
        }
        test.faults("\"\\\n\"", 2).faults("\"\\", 2).faults("{\"\\x\":1}", 3).faults("{\"\\", 3);
    }

    private static void hexFigures() {
        At test = at(6, "or a \\ and u00 and two figures to the base 16 (0 to 9, a to f, A to F)");
        for (char sign : "09afAF".toCharArray()) {
            char low = Character.toLowerCase(sign);
            test.reads("\"\\u008" + sign + "\\u00f" + sign + "\"", "\"\\u008" + low + "\\u00f" + low + "\"");
        }
        for (char sign : "019afAF".toCharArray()) {
            test.reads("\"\\u00" + sign + "f\"", "\"\\u00" + Character.toLowerCase(sign) + "f\"");
        }
        for (char sign : "/:@G`gx\n \"".toCharArray()) {
            test.faults("\"\\u00" + sign + "1\"", 5).faults("\"\\u004" + sign + "\"", 6);
        }
        test.faults("\"\\u0100\"", 4).faults("\"\\u1000\"", 3).faults("\"\\U0041\"", 2).faults("\"\\u", 3).faults("\"\\u0", 4)
            .faults("\"\\u00", 5).faults("\"\\u004", 6).faults("\"\\u0041", 7).faults("\"\\u41\"", 3)
            .reads("\"\\u00410\"", "\"A0\"");
    }

    private static void keys() {
        String key = "abcdefghijkl";
        at(6, "5 a MAP, of KEYS, texts of at most 12 signs, no two the same")
            .reads("{\"\":1}", "{\"\":1}")
            .reads("{\"" + key + "\":1}", "{\"" + key + "\":1}")
            .faults("{\"" + key + "m\":1}", 14)
            .faults("{\"" + key + "m", 14)
            .faults("{\"" + key, 14)
            .faults("{\"" + key + "\\n\":1}", 14)
            .faults("{\"" + key + "\\", 14)
            .reads("{\"" + times("\\\"", 12) + "\":1}", "{\"" + times("\\\"", 12) + "\":1}")
            .faults("{\"" + times("\\\"", 13) + "\":1}", 26)
            .reads("{\"" + times("\\u00fF", 12) + "\":1}", "{\"" + times("\\u00ff", 12) + "\":1}")
            .faults("{\"" + times("\\u00fF", 12) + "a\":1}", 74)
            .faults("{\"a\":1,\"" + key + "m\":1}", 20)
            .reads("{\"" + key + "\":1,\"" + key.replace('l', 'm') + "\":2,\"abcdefghijk\":3}",
                "{\"" + key + "\":1,\"" + key.replace('l', 'm') + "\":2,\"abcdefghijk\":3}");
        at(6, "with , between a KEY, as a TEXT, : and a VALUE")
            .faults("{a:1}", 1).faults("{1:1}", 1).faults("{null:1}", 1).faults("{[]:1}", 1).faults("{'a':1}", 1)
            .faults("{\"a\"}", 4).faults("{\"a\" 1}", 5).faults("{\"a\",1}", 4).faults("{\"a\"::1}", 5).faults("{\"a\":}", 5)
            .faults("{\"a\":,}", 5).faults("{\"a\"=1}", 4);
    }

    private static void groups() {
        at(6, "ROWS: [ and ], VALUES with , between")
            .reads("[]", "[]").reads("[1]", "[1]").reads("[1,2]", "[1,2]").reads("[[],[[]]]", "[[],[[]]]")
            .faults("]", 0).faults("[,]", 1).faults("[,1]", 1).faults("[1,]", 3).faults("[1,,2]", 3).faults("[1 1]", 3)
            .faults("[1}", 2).faults("[}", 1).faults("[]]", 2).faults("[],", 2).faults("[[]", 3).faults("[1:2]", 2)
            .faults("[\"a\":1]", 4).faults("[][]", 2);
        at(6, "MAPS: { and }, with , between")
            .reads("{}", "{}").reads("{\"a\":1}", "{\"a\":1}").reads("{\"a\":1,\"b\":{}}", "{\"a\":1,\"b\":{}}")
            .faults("}", 0).faults("{,}", 1).faults("{\"a\":1,}", 7).faults("{\"a\":1,,\"b\":2}", 7).faults("{\"a\":1 \"b\":2}", 7)
            .faults("{\"a\":1]", 6).faults("{]", 1).faults("{}}", 2).faults("{\"a\":{}", 7).faults("{\"a\":1:2}", 6);
    }

    private static void tooSoon() {
        At test = at(6, "The FAULT of a text is the place of the first sign that cannot stand there; how many signs it has, if it ends too soon.");
        String whole = "{\"a\\n\":[-1.5e-12,\"x\\u00e9\",true,null,false],\"b\":{} }";
        test.reads(whole, "{\"a\\u000a\":[-15e-13,\"x\\u00e9\",true,null,false],\"b\":{}}");
        for (int n = 0; n < whole.length(); n++) {
            test.faults(whole.substring(0, n), n);
        }
        test.faults(whole + "x", whole.length()).faults(times(" ", 400), 400).faults("[" + times(" ", 399), 400)
            .faults(times(" ", 399) + "]", 399);
    }

    private static void depth() {
        At test = at(6, "the sign by which a ROW or MAP would begin that is the 13th one open");
        test.reads(deep(12), deep(12)).faults(deep(13), 12).faults(times("[", 13), 12).faults(times("[", 12) + "{}" + times("]", 12), 12)
            .reads(times("{\"a\":", 12) + "1" + times("}", 12), times("{\"a\":", 12) + "1" + times("}", 12))
            .faults(times("{\"a\":", 12) + "{}", 60).faults(times("{\"a\":", 12) + " []", 61)
            .reads(times("[{\"a\":", 6) + "1" + times("}]", 6), times("[{\"a\":", 6) + "1" + times("}]", 6))
            .faults(times("[{\"a\":", 6) + "[", 36)
            .reads(times("[", 11) + list("[]", 20) + times("]", 11), times("[", 11) + list("[]", 20) + times("]", 11))
            .faults(times("[", 11) + "[],[[]]" + times("]", 11), 15)
            .reads("[" + list("[[]]", 20) + "]", "[" + list("[[]]", 20) + "]");
        at(6, "A DOCUMENT is a VALUE with a DEPTH of at most 12 and at most 100 NODES", reading(deep(12)))
            .asks("DEPTH 12", r -> r.t().node(0, 0, 1), 12);
        at(6, "the sign by which a ROW or MAP would begin that is the 13th one open", r -> r.t().rule(1))
            .faults("{\"a\":1,\"a\":" + deep(12) + "}", 22)
            .reads("{\"a\":1,\"a\":" + deep(11) + "}", "{\"a\":1}");
    }

    private static void values() {
        at(6, "the one by which the 101st VALUE would begin (those that are left out count, too)")
            .reads("[" + list("1", 99) + "]", "[" + list("1", 99) + "]")
            .faults("[" + list("1", 100) + "]", 199)
            .faults("[" + list("1", 99) + ", \n1]", 201)
            .faults("[" + list("1", 99) + ",[]]", 199)
            .faults("[" + list("1", 99) + ",\"\"]", 199)
            .faults("[" + list("1", 99) + ",-1]", 199)
            .faults("[" + list("1", 99) + ",null]", 199)
            .faults("[" + list("1", 99) + ",{}]", 199)
            .faults("[" + list("1", 99) + ",]", 199)
            .faults("[" + list("1", 99) + ",", 199)
            .faults("[" + list("1", 99) + "}", 198)
            .reads("[" + list("[[1]]", 33) + "]", "[" + list("[[1]]", 33) + "]")
            .faults("[" + list("[[1]]", 33) + ",0]", 199)
            .reads("[[" + list("0", 49) + "],[" + list("0", 48) + "]]", "[[" + list("0", 49) + "],[" + list("0", 48) + "]]")
            .faults("[[" + list("0", 49) + "],[" + list("0", 49) + "]]", 198);
        at(6, "A DOCUMENT is a VALUE with a DEPTH of at most 12 and at most 100 NODES", r -> r.readOnes(99))
            .asks("100 NODES", r -> r.t().node(0, 0, 2), 100);
    }

    private static void valuesLeftOut() {
        String fifty = "{\"\":[" + list("1", 50) + "],\"\":[";
        for (int how = 1; how <= 2; how++) {
            int told = how;
            at(6, "the one by which the 101st VALUE would begin (those that are left out count, too)", r -> r.t().rule(told))
                .reads(fifty + list("2", 47) + "]}", how == 1 ? "{\"\":[" + list("1", 50) + "]}" : "{\"\":[" + list("2", 47) + "]}")
                .faults(fifty + list("2", 48) + "]}", fifty.length() + 94)
                .reads("{" + list("\"\":1", 79) + "}", "{\"\":1}")
                .faults(fifty + list("2", 47) + "],\"\":3}", fifty.length() + 98);
        }
    }

    private static void ruleZero() {
        At test = at(6, "by THE RULE 0 the \" behind a KEY that is there already");
        test.faults("{\"a\":1,\"a\":2}", 9)
            .faults("{\"a\":1,\"a\"", 9)
            .faults("{\"a\":1,\"a", 9)
            .faults("{\"a\":1,\"a\"x", 9)
            .faults("{\"\":1,\"\":2}", 7)
            .faults("{\"a\":1,\"\\u0061\":2}", 14)
            .faults("{\"/\":1,\"\\/\":2}", 10)
            .faults("{\"a\":[{\"b\":1}],\"b\":2,\"a\":3}", 23)
            .faults("{\"abcdefghijkl\":1,\"abcdefghijkl\":2}", 31)
            .reads("{\"abcdefghijkl\":1,\"abcdefghijkk\":2}", "{\"abcdefghijkl\":1,\"abcdefghijkk\":2}")
            .reads("{\"a\":1,\"A\":2,\"aa\":3,\"\":4}", "{\"a\":1,\"A\":2,\"aa\":3,\"\":4}")
            .reads("{\"a\":{\"a\":{\"a\":1}}}", "{\"a\":{\"a\":{\"a\":1}}}")
            .reads("[{\"a\":1},{\"a\":1}]", "[{\"a\":1},{\"a\":1}]");
        at(6, "0, as at first, it cannot stand", r -> {
            r.t().rule(2);
            r.t().rule(0);
        }).faults("{\"a\":1,\"a\":2}", 9);
    }

    private static void ruleOneAndTwo() {
        at(6, "1 the VALUE that is there stays, and the new one is left out", r -> r.t().rule(1))
            .reads("{\"a\":1,\"a\":2}", "{\"a\":1}")
            .reads("{\"a\":1,\"b\":2,\"a\":3,\"a\":4,\"b\":5}", "{\"a\":1,\"b\":2}")
            .reads("{\"\":1,\"\":[[2]]}", "{\"\":1}")
            .reads("{\"a\":{\"b\":1,\"b\":2},\"a\":{\"c\":3,\"c\":4},\"d\":[]}", "{\"a\":{\"b\":1},\"d\":[]}")
            .reads("[{\"a\":1,\"a\":[2,3]},4]", "[{\"a\":1},4]")
            .faults("{\"a\":1,\"a\":[}", 12)
            .faults("{\"a\":1,\"a\":\"" + FORTY + "y\"}", 52)
            .faults("{\"a\":1,\"a\":10e99}", 11)
            .faults("{\"a\":1,\"a\"}", 10);
        at(6, "2 the new VALUE takes its place", r -> r.t().rule(2))
            .reads("{\"a\":1,\"a\":2}", "{\"a\":2}")
            .reads("{\"a\":1,\"b\":2,\"a\":3,\"a\":4,\"b\":5}", "{\"a\":4,\"b\":5}")
            .reads("{\"\":1,\"x\":0,\"\":[[2]]}", "{\"\":[[2]],\"x\":0}")
            .reads("{\"a\":{\"b\":1,\"b\":2},\"d\":[],\"a\":{\"c\":3,\"c\":4}}", "{\"a\":{\"c\":4},\"d\":[]}")
            .reads("[{\"a\":[1,[2]],\"c\":0,\"a\":3},4]", "[{\"a\":3,\"c\":0},4]")
            .faults("{\"a\":1,\"a\":[}", 12)
            .faults("{\"a\":1,\"a\"}", 10);
    }
}
