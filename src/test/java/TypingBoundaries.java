/** Boundaries of promises 1 to 5 and 7: THE PAGE, THE PAPER, THE RULE, writing. */
final class TypingBoundaries extends Boundaries {
    private static final long EIGHT = Run.letters("abcdefgh");

    static void all() {
        newObject();
        write();
        codes();
        page();
        wipe();
        paper();
        rule();
        print();
        numbers();
        signs();
        keys();
        indents();
        longest();
    }

    private static Lead blanks(int n) {
        return r -> r.type(times(" ", n));
    }

    private static void newObject() {
        At test = at(1, "Neither DOCUMENTS nor signs; THE RULE is 0.");
        for (int what = 0; what <= 6; what++) {
            int asked = what;
            test.asks("sum(" + what + ")", r -> r.t().sum(asked), 0);
        }
        test.refuses("DOCUMENT 0", r -> r.t().print(0, 0), IOOBE)
            .refuses("undo()", r -> r.t().undo(), ISE)
            .refuses("FIND 0", r -> r.t().find(0), IOOBE)
            .refuses("COMPLAINT 0", r -> r.t().complaint(0, 0), IOOBE)
            .refuses("QUARREL 0", r -> r.t().quarrel(0), IOOBE)
            .refuses("sign 0 of THE PAPER", r -> r.t().paper(0, 1), IOOBE)
            .takes("wipe()", r -> r.t().wipe(), 0)
            .takes("rule(0)", r -> r.t().rule(0), 0)
            .takes("a KEY twice", r -> r.came("{\"a\":1,\"a\":2}"), "fault 9");
        at(1, "NONE is -1.").asks("NONE", r -> Treeletter.NONE, -1);
        at(1, "Things are numbered from 0 as they come.").takes("the first DOCUMENT", r -> r.read("1"), 0)
            .takes("the second one", r -> r.read("1") + r.read("1"), 1);
        at(1, "An object is used for at most 512 calls after it has been made")
            .takes("the 512th call", r -> {
                r.read("[1,{\"a\":2}]");
                while (r.calls() < 510) {
                    r.t().grow(r.calls(), 3);
                    r.t().undo();
                }
                return r.t().print(0, 0) + " " + r.t().sum(6) + " of " + r.calls();
            }, "11 4 of 512");
    }

    private static void write() {
        at(2, "`n`: how many, 1 to 8")
            .refuses("n 0", r -> r.t().write(0, 0), IAE)
            .refuses("n -1", r -> r.t().write(-1, 97), IAE)
            .refuses("the least n", r -> r.t().write(Integer.MIN_VALUE, 97), IAE)
            .takes("n 1", r -> r.t().write(1, 97), 1)
            .takes("n 8", r -> r.t().write(8, EIGHT), 8)
            .refuses("n 9", r -> r.t().write(9, EIGHT), IAE)
            .refuses("the greatest n", r -> r.t().write(Integer.MAX_VALUE, EIGHT), IAE);
        at(2, "if n is out of range").refuses("n 9 with 8 signs", r -> r.t().write(9, EIGHT), IAE)
            .takes("n 8 with 8 signs", r -> r.t().write(8, EIGHT), 8);
        at(2, "or letters has more figures")
            .takes("1 of 1", r -> r.t().write(1, Run.letters("b")), 1)
            .refuses("2 of 1", r -> r.t().write(1, Run.letters("ab")), IAE)
            .takes("2 of 2", r -> r.t().write(2, Run.letters("ab")), 2)
            .refuses("3 of 2", r -> r.t().write(2, Run.letters("abc")), IAE)
            .takes("7 of 7", r -> r.t().write(7, Run.letters("bcdefgh")), 7)
            .refuses("8 of 7", r -> r.t().write(7, EIGHT), IAE)
            .refuses("a figure 0 too few", r -> r.t().write(2, Run.letters("a")), IAE)
            .refuses("letters below 0, n 1", r -> r.t().write(1, -159L), IAE)
            .refuses("letters below 0, n 7", r -> r.t().write(7, Long.MIN_VALUE | EIGHT >>> 8), IAE);
        at(2, "the first sign the highest figure")
            .takes("null", r -> r.t().write(4, Run.letters("null")) + " " + r.t().read() + " " + r.least(0), "4 0 null")
            .takes("8 signs", r -> r.t().write(8, Run.letters("[1,2,34]")) + " " + r.t().read() + " " + r.least(0),
                "8 0 [1,2,34]");
        at(2, SEVERAL, blanks(400))
            .refuses("n out of range, and THE PAGE is full", r -> r.t().write(0, 32), IAE)
            .refuses("a code out of range, and THE PAGE is full", r -> r.t().write(1, 31), IAE)
            .refuses("more figures, and THE PAGE is full", r -> r.t().write(1, Run.letters("ab")), IAE)
            .refuses("THE PAGE is full", r -> r.t().write(1, 32), ISE);
    }

    private static void codes() {
        At test = at(2, "their codes, 10 or 32 to 126");
        for (int code : new int[] {0, 1, 9, 11, 13, 31, 127, 128, 255}) {
            test.refuses("code " + code, r -> r.t().write(1, code), IAE)
                .refuses("code " + code + " first of 8", r -> r.t().write(8, (long) code << 56 | EIGHT >>> 8), IAE)
                .refuses("code " + code + " last of 8", r -> r.t().write(8, EIGHT << 8 | code), IAE)
                .refuses("code " + code + " fourth of 8", r -> r.t().write(8, EIGHT & ~(255L << 32) | (long) code << 32), IAE);
        }
        for (int code : new int[] {10, 32, 33, 125, 126}) {
            test.takes("code " + code, r -> r.t().write(1, code), 1)
                .takes("code " + code + " eight times", r -> r.t().write(8, code * 0x0101010101010101L), 8);
        }
        at(2, "a code is").takes("32", r -> r.t().write(1, 32), 1).refuses("31", r -> r.t().write(1, 31), IAE);
    }

    private static void page() {
        at(2, "THE PAGE has at most 400 signs", blanks(392))
            .takes("392 and 8", r -> r.t().write(8, EIGHT), 400);
        at(2, "if THE PAGE would have more than 400 signs", blanks(393))
            .takes("393 and 7", r -> r.t().write(7, EIGHT >>> 8), 400)
            .refuses("393 and 8", r -> r.t().write(8, EIGHT), ISE);
        at(2, "if THE PAGE would have more than 400 signs", blanks(399))
            .takes("399 and 1", r -> r.t().write(1, 97), 400)
            .refuses("399 and 2", r -> r.t().write(2, EIGHT >>> 48), ISE);
        at(2, "if THE PAGE would have more than 400 signs", blanks(400))
            .refuses("400 and 1", r -> r.t().write(1, 97), ISE)
            .refuses("400 and 8", r -> r.t().write(8, EIGHT), ISE)
            .takes("8 behind wipe()", r -> r.t().wipe() + " " + r.t().write(8, EIGHT), "400 8");
        at(2, "THE PAGE has at most 400 signs", r -> r.type(times(" ", 393) + "[\"ab\"]"))
            .takes("what 399 signs and one more are", r -> r.t().write(1, 32) + " " + r.t().read() + " " + r.least(0),
                "400 0 [\"ab\"]");
    }

    private static void wipe() {
        at(3, "Empties THE PAGE: how many signs it had.").takes("none", r -> r.t().wipe(), 0);
        at(3, "Empties THE PAGE: how many signs it had.", blanks(1))
            .takes("1", r -> r.t().wipe() + " " + r.t().sum(1), "1 0")
            .takes("twice", r -> r.t().wipe() + " " + r.t().wipe(), "1 0");
        at(3, "Empties THE PAGE: how many signs it had.", blanks(400))
            .takes("400", r -> r.t().wipe() + " " + r.t().sum(1), "400 0")
            .takes("nothing of it is left", r -> r.t().wipe() + " " + r.came("[1]"), "400 [1]");
    }

    private static void paper() {
        Lead eight = r -> {
            r.read("\"ab\\u0000\\u00ffefgh\"");
            r.t().tell(0, 0, 0);
        };
        at(4, "if there is no such place", eight)
            .refuses("place -1", r -> r.t().paper(-1, 1), IOOBE)
            .asks("place 0", r -> r.t().paper(0, 1), 97)
            .asks("place 7", r -> r.t().paper(7, 1), 104)
            .refuses("place 8", r -> r.t().paper(8, 1), IOOBE)
            .refuses("the greatest place", r -> r.t().paper(Integer.MAX_VALUE, 1), IOOBE)
            .refuses("the least place", r -> r.t().paper(Integer.MIN_VALUE, 1), IOOBE);
        at(4, "`place`: from 0", eight).refuses("-1", r -> r.t().paper(-1, 7), IOOBE)
            .asks("0", r -> r.t().paper(0, 2), Run.letters("ab"));
        at(4, "`n`: how many, 1 to 7", eight)
            .refuses("n -1", r -> r.t().paper(0, -1), IAE)
            .refuses("n 0", r -> r.t().paper(0, 0), IAE)
            .asks("n 1", r -> r.t().paper(2, 1), 0)
            .asks("n 7", r -> r.t().paper(0, 7), Run.letters("ab\u0000\u00ffefg"))
            .refuses("n 8", r -> r.t().paper(0, 8), IAE)
            .refuses("the least n", r -> r.t().paper(0, Integer.MIN_VALUE), IAE);
        at(4, "or THE PAPER has not so many from there on", eight)
            .asks("7 from 1 on", r -> r.t().paper(1, 7), Run.letters("b\u0000\u00ffefgh"))
            .refuses("7 from 2 on", r -> r.t().paper(2, 7), IAE)
            .asks("6 from 2 on", r -> r.t().paper(2, 6), Run.letters("\u0000\u00ffefgh"))
            .refuses("2 from 7 on", r -> r.t().paper(7, 2), IAE)
            .refuses("the greatest n from 1 on", r -> r.t().paper(1, Integer.MAX_VALUE), IAE);
        at(4, SEVERAL, eight)
            .refuses("neither place nor n", r -> r.t().paper(8, 0), IOOBE)
            .refuses("no place, and not so many", r -> r.t().paper(9, 7), IOOBE);
        at(4, "the first one the highest", r -> {
            r.read("\"" + times("\\u00ff", 7) + "\"");
            r.t().tell(0, 0, 0);
        }).asks("7 of the code 255", r -> r.t().paper(0, 7), (1L << 56) - 1);
        at(4, "empty at first").asks("how many", r -> r.t().sum(2), 0).refuses("place 0", r -> r.t().paper(0, 1), IOOBE);
        at(4, "THE PAPER is a text that calls tell, in place of the one ahead", r -> {
            reading("\"abcdef\"", "\"\"").on(r);
            r.t().print(0, 0);
        }).takes("a shorter one", r -> r.t().tell(0, 0, 0) + " " + r.t().paper(5, 1) + " " + r.paper(), "6 102 abcdef")
            .refuses("what is behind it", r -> r.t().paper(8, 1), IOOBE)
            .takes("an empty one", r -> r.t().tell(1, 0, 0) + " " + r.answer(s -> s.t().paper(0, 1)), "0 " + IOOBE);
    }

    private static void rule() {
        At test = at(5, "`how`: 0 to 2");
        test.refuses("-1", r -> r.t().rule(-1), IAE).refuses("3", r -> r.t().rule(3), IAE)
            .refuses("the greatest int", r -> r.t().rule(Integer.MAX_VALUE), IAE)
            .refuses("the least int", r -> r.t().rule(Integer.MIN_VALUE), IAE);
        for (int how = 0; how <= 2; how++) {
            int told = how;
            test.takes("" + how, r -> r.t().rule(told) + " " + r.t().sum(3) + " " + r.t().rule(0), "0 " + how + " " + how);
        }
        at(5, "if how is out of range", r -> r.t().rule(2)).refuses("3", r -> r.t().rule(3), IAE)
            .asks("2", r -> r.t().rule(2), 2);
        at(5, "Returns what it was.").takes("0, 2, 1", r -> r.t().rule(2) + " " + r.t().rule(1) + " " + r.t().rule(1), "0 2 1");
    }

    // ---- writing

    private static void print() {
        documents(7, "\"a\"", "[1,2]", (r, doc) -> r.t().print(doc, 0), 3, 5);
        Lead map = reading("{\"b\":[1],\"a\":2}");
        at(7, "`way`: 0 LEAST, 1 THE ONE WAY, 2 INDENTS", map)
            .refuses("-1", r -> r.t().print(0, -1), IAE)
            .takes("0", r -> r.print(0, 0), "{\"b\":[1],\"a\":2}")
            .takes("1", r -> r.print(0, 1), "{\"a\":2,\"b\":[1]}")
            .takes("2", r -> r.print(0, 2), "{\n  \"b\": [\n    1\n  ],\n  \"a\": 2\n}")
            .refuses("3", r -> r.t().print(0, 3), IAE);
        at(7, "if way is out of range", map).refuses("the greatest int", r -> r.t().print(0, Integer.MAX_VALUE), IAE)
            .refuses("the least int", r -> r.t().print(0, Integer.MIN_VALUE), IAE);
        at(7, SEVERAL, map).refuses("neither doc nor way", r -> r.t().print(1, 3), IOOBE)
            .refuses("no doc", r -> r.t().print(1, 2), IOOBE)
            .refuses("no way", r -> r.t().print(0, 3), IAE);
    }

    private static void numbers() {
        String[][] written = {{"0", "0"}, {"-0.00", "0"}, {"1", "1"}, {"-1", "-1"}, {"9", "9"}, {"10", "1e1"}, {"0.1", "1e-1"},
            {"1.5", "15e-1"}, {"-30000", "-3e4"}, {"101", "101"}, {"1e9", "1e9"}, {"1e10", "1e10"}, {"1e-9", "1e-9"},
            {"1e-10", "1e-10"}, {"1e99", "1e99"}, {"-1e-99", "-1e-99"},
            {"999999999999999999999999e75", "999999999999999999999999e75"}};
        At test = at(7, "and, if its POWER is not 0, e and its POWER (15e-1, -3e4)");
        for (String[] pair : written) {
            test.reads(pair[0], pair[1]);
        }
        at(7, "NOTHING as null").reads("null", "null").reads("[null]", "[null]");
    }

    private static void signs() {
        At test = at(7, "those below 32 or above 126 as a \\, u00 and two figures, with a to f");
        for (int code = 0; code < 256; code++) {
            String sign = code == '"' || code == '\\' ? "\\" + (char) code : "" + (char) code;
            String written = code < 32 || code > 126 ? String.format("\\u00%02x", code) : sign;
            test.reads(String.format("\"\\u00%02X\"", code), "\"" + written + "\"");
            test.reads(String.format("{\"\\u00%02X\":1}", code), "{\"" + written + "\":1}");
        }
        at(7, "\" and \\ are written with a \\ ahead of them").reads("\"\\\"\\\\\\/'\"", "\"\\\"\\\\/'\"")
            .reads("{\"\\\"\\\\\\/\":1}", "{\"\\\"\\\\/\":1}").reads("\"[]#\"", "\"[]#\"");
    }

    private static void keys() {
        at(7, "of two of which one is the beginning of the other one, the shorter one ahead",
            reading("{\"ab\":1,\"abc\":2,\"a\":3,\"\":4,\"b\":5}"))
            .takes("THE ONE WAY", r -> r.print(0, 1), "{\"\":4,\"a\":3,\"ab\":1,\"abc\":2,\"b\":5}")
            .takes("LEAST", r -> r.print(0, 0), "{\"ab\":1,\"abc\":2,\"a\":3,\"\":4,\"b\":5}");
        at(7, "but KEYS in order by their signs", reading("{\"\\u00ff\":1,\"~\":2,\"\\u007f\":3,\" \":4,\"\\u0000\":5,\"a\":6,\"Z\":7}"))
            .takes("THE ONE WAY", r -> r.print(0, 1),
                "{\"\\u0000\":5,\" \":4,\"Z\":7,\"a\":6,\"~\":2,\"\\u007f\":3,\"\\u00ff\":1}");
        at(7, "but KEYS in order by their signs", reading("{\"abcdefghijkm\":1,\"abcdefghijkl\":2,\"abcdefghijk\":{\"b\":3,\"a\":4}}"))
            .takes("by the 12th sign, and within", r -> r.print(0, 1),
                "{\"abcdefghijk\":{\"a\":4,\"b\":3},\"abcdefghijkl\":2,\"abcdefghijkm\":1}");
    }

    private static void indents() {
        at(7, "if a ROW or MAP is not empty, each of its VALUES, with its KEY, is on a line of its own",
            reading("[]", "{}", "[[]]", "{\"a\":{}}", "[1]"))
            .takes("an empty ROW", r -> r.print(0, 2), "[]")
            .takes("an empty MAP", r -> r.print(1, 2), "{}")
            .takes("an empty ROW in a ROW", r -> r.print(2, 2), "[\n  []\n]")
            .takes("an empty MAP in a MAP", r -> r.print(3, 2), "{\n  \"a\": {}\n}")
            .takes("one VALUE", r -> r.print(4, 2), "[\n  1\n]");
        StringBuilder lines = new StringBuilder();
        for (int i = 0; i < 11; i++) {
            lines.append(times("  ", i)).append("[\n");
        }
        lines.append(times("  ", 11)).append("[]");
        for (int i = 10; i >= 0; i--) {
            lines.append('\n').append(times("  ", i)).append(']');
        }
        at(7, "with two blanks ahead of it for each ROW or MAP in which it is", reading(deep(12)))
            .takes("DEPTH 12", r -> r.print(0, 2), lines.toString());
    }

    /** The longest writing there can be: 100 NODES, and as many TEXTS, of 40 signs that take six each, as can be. */
    private static void longest() {
        at(7, "Returns how many signs that are.", r -> {
            r.read("\"" + times("\\u00ff", 40) + "\"");
            r.read("[]");
            for (int i = 0; i < 9; i++) {
                r.put(1 + i, 0, "/-");
            }
            r.read("[]");
            for (int i = 0; i < 9; i++) {
                r.put(11 + i, 10, "/-");
            }
            for (int i = 0; i < 9; i++) {
                r.put(20 + i, 0, "/-");
            }
        }).takes("NODES", r -> r.t().node(29, 0, 2), 100)
            .takes("LEAST", r -> r.t().print(29, 0), 2 + 17 + 90 * 242 + 9 * (2 + 8))
            .takes("INDENTS", r -> r.t().print(29, 2), 1 + 18 * 3 + 17 + 2 + 9 * 242 + 9 * (1 + 9 * (5 + 242) + 8 + 4))
            .takes("its end", r -> {
                int n = r.t().print(29, 2);
                return r.t().paper(n - 7, 7) == Run.letters("00ff\"\n]");
            }, true)
            .takes("it is sound", r -> r.t().isSound(29), true);
    }
}
