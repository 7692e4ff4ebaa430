/** Boundaries of promises 24 to 26: joining, and QUARRELS. */
final class JoinBoundaries extends Boundaries {
    private static final String REFUSED = "if there is no QUARREL, and it would be no DOCUMENT, or there are 40";
    private static final String NOT_SO_MANY = "if there are not so many";

    static void all() {
        join();
        first();
        maps();
        none();
        tooMuch();
        quarrels();
        quarrel();
        quarrelPaths();
    }

    /** At a sentence: o, a and b, and what comes, or the PLAIN PATHS of QUARRELS, each behind a !. */
    private static void joins(At test, String o, String a, String b, String want) {
        test.behind(reading(o, a, b)).takes("join of " + a + " and " + b + " over " + o, r -> {
            int doc = r.t().join(0, 1, 2);
            StringBuilder all = new StringBuilder(doc < 0 ? "" : r.least(doc));
            int n = r.t().quarrels();
            for (int k = 0; k < n; k++) {
                all.append('!').append(r.quarrel(k));
            }
            return doc != (n > 0 ? -1 : 3) || r.t().sum(0) != (n > 0 ? 3 : 4) ? "answered " + doc + " " + all : all;
        }, want);
        if (!want.startsWith("!")) {
            test.behind(reading(o, a, b)).takes("whichever is told first: " + a + ", " + b, r -> {
                int one = r.t().join(0, 1, 2);
                return r.t().equal(one, r.t().join(0, 2, 1)) + " " + r.least(1).equals(a) + r.least(2).equals(b);
            }, "true truetrue");
        }
    }

    private static void join() {
        documents(24, "1", "2", (r, doc) -> r.least(r.t().join(doc, 0, 0)), "1", "1");
        documents(24, "1", "2", (r, doc) -> r.least(r.t().join(0, doc, 0)), "1", "2");
        documents(24, "1", "2", (r, doc) -> r.least(r.t().join(0, 0, doc)), "1", "2");
        forty(24, REFUSED, reading("1"), r -> r.t().join(0, 0, 0));
        forty(24, REFUSED, reading("{}", "{\"a\":1}", "{\"b\":2}"), r -> r.t().join(0, 1, 2));
        at(24, REFUSED, r -> {
            reading("1", "2", "3").on(r);
            r.fill(40);
        }).takes("a QUARREL, of 40", r -> r.t().join(0, 1, 2) + " " + r.t().sum(0) + " " + r.t().quarrels(), "-1 40 1");
        at(24, SEVERAL, r -> {
            r.read("1");
            r.fill(40);
        }).refuses("no o, of 40", r -> r.t().join(40, 0, 0), IOOBE).refuses("no a, of 40", r -> r.t().join(0, 40, 0), IOOBE)
            .refuses("no b, of 40", r -> r.t().join(0, 0, 40), IOOBE).refuses("none of them", r -> r.t().join(-1, 40, -1), IOOBE);
    }

    private static void first() {
        At test = at(24, "a, if a and b are EQUAL (or none both); b, if a and o are; a, if b and o are");
        joins(test, "1", "1", "1", "1");
        joins(test, "1", "2", "2", "2");
        joins(test, "1", "{\"x\":1,\"y\":2}", "{\"y\":2,\"x\":1}", "{\"x\":1,\"y\":2}");
        joins(test, "1.0", "1", "[2]", "[2]");
        joins(test, "1e0", "[2]", "1", "[2]");
        joins(test, "{\"a\":1,\"b\":2}", "{\"b\":2,\"a\":1}", "{\"b\":3,\"a\":1}", "{\"b\":3,\"a\":1}");
        joins(test, "{\"a\":1,\"b\":2}", "{\"b\":3,\"a\":1}", "{\"b\":2,\"a\":1}", "{\"b\":3,\"a\":1}");
        String one = times("[", 12) + "1" + times("]", 12);
        String two = times("[", 12) + "2" + times("]", 12);
        joins(test, one, one, two, two);
        joins(test, one, two, one, two);
        joins(test, one, two, two, two);
        joins(test, one, two, deep(12), "!");
        joins(test, "1", "2", "3", "!");
        joins(test, "[]", "[1]", "[2]", "!");
        joins(test, "[]", "[1]", "[1,2]", "!");
        joins(test, "{}", "[]", "{\"a\":1}", "!");
        joins(test, "{}", "{\"a\":1}", "null", "!");
        joins(test, "[]", "{\"a\":1}", "{\"b\":1}", "!");
        joins(test, "null", "{\"a\":1}", "{\"b\":1}", "!");
    }

    private static void maps() {
        At order = at(24, "KEYS of o ahead, in its order, then those of a, then those of b");
        joins(order, "{\"c\":1,\"b\":2}", "{\"x\":1,\"b\":2,\"a\":3,\"c\":1}", "{\"y\":1,\"c\":1,\"b\":2,\"d\":4}",
            "{\"c\":1,\"b\":2,\"x\":1,\"a\":3,\"y\":1,\"d\":4}");
        joins(order, "{}", "{\"x\":1,\"z\":2}", "{\"z\":2,\"y\":3,\"x\":1}", "{\"x\":1,\"z\":2,\"y\":3}");
        joins(order, "{\"b\":1,\"a\":2}", "{\"a\":3,\"b\":1}", "{\"b\":4,\"a\":2}", "{\"b\":4,\"a\":3}");
        At empty = at(24, "the MAP of what comes by joining those of each KEY (an empty one, if nothing does)");
        joins(empty, "{\"a\":1,\"b\":2}", "{\"a\":1}", "{\"b\":2}", "{}");
        joins(empty, "{\"m\":{\"a\":1,\"b\":2}}", "{\"m\":{\"a\":1}}", "{\"m\":{\"b\":2}}", "{\"m\":{}}");
        joins(empty, "{\"a\":1,\"b\":2,\"c\":3}", "{\"a\":1,\"c\":3}", "{\"b\":2,\"c\":3}", "{\"c\":3}");
        joins(empty, "{\"a\":1}", "{}", "{}", "{}");
        joins(empty, "{\"a\":1}", "{}", "{\"a\":1,\"b\":2}", "{\"b\":2}");
        At quarrel = at(24, "else a QUARREL at that PATH");
        joins(quarrel, "{\"a\":1}", "{\"a\":2}", "{\"a\":3}", "!/a");
        joins(quarrel, "{\"a\":1}", "{}", "{\"a\":3}", "!/a");
        joins(quarrel, "{\"a\":1}", "{\"a\":3}", "{}", "!/a");
        joins(quarrel, "{\"a\":[]}", "{\"a\":[1]}", "{\"a\":[2]}", "!/a");
        joins(quarrel, "{\"a\":[{}]}", "{\"a\":[{\"b\":1}]}", "{\"a\":[{\"c\":2}]}", "!/a");
        joins(quarrel, "{}", "{\"a\":1}", "{\"a\":2}", "!/a");
        joins(quarrel, "{\"a\":{}}", "{\"a\":{\"b\":1}}", "{\"a\":{\"b\":2}}", "!/a/b");
        joins(quarrel, "{\"a\":{},\"b\":0}", "{\"a\":{\"b\":1},\"b\":1}", "{\"a\":{\"b\":2},\"b\":2}", "!/a/b!/b");
    }

    private static void none() {
        At test = at(24, "else, if a and b are MAPS, and o is a MAP or none");
        joins(test, "{}", "{\"a\":{\"x\":1}}", "{\"a\":{\"y\":2}}", "{\"a\":{\"x\":1,\"y\":2}}");
        joins(test, "{}", "{\"a\":{\"x\":1}}", "{\"a\":{\"y\":2,\"x\":3}}", "!/a/x");
        joins(test, "{}", "{\"a\":{}}", "{\"a\":{\"y\":2}}", "{\"a\":{\"y\":2}}");
        joins(test, "{\"a\":1}", "{\"a\":{\"x\":1}}", "{\"a\":{\"y\":2}}", "!/a");
        joins(test, "{\"a\":null}", "{\"a\":{\"x\":1}}", "{\"a\":{\"y\":2}}", "!/a");
        joins(test, "{\"a\":[]}", "{\"a\":{\"x\":1}}", "{\"a\":{\"y\":2}}", "!/a");
        joins(test, "{\"a\":{}}", "{\"a\":{\"x\":1}}", "{\"a\":{\"y\":2}}", "{\"a\":{\"x\":1,\"y\":2}}");
        joins(test, "{\"a\":{\"z\":0}}", "{\"a\":{\"z\":0,\"x\":1}}", "{\"a\":{\"y\":2}}", "{\"a\":{\"x\":1,\"y\":2}}");
        String deep = times("{\"a\":", 11);
        String ends = times("}", 11);
        joins(test, deep + "{}" + ends, deep + "{\"x\":1}" + ends, deep + "{\"y\":2}" + ends, deep + "{\"x\":1,\"y\":2}" + ends);
        joins(test, "{}", deep + "{\"x\":1}" + ends, deep + "{\"y\":2}" + ends, deep + "{\"x\":1,\"y\":2}" + ends);
        joins(test, "{}", deep + "{\"x\":1}" + ends, deep + "{\"x\":2}" + ends, "!" + times("/a", 11) + "/x");
    }

    private static void tooMuch() {
        at(24, REFUSED, r -> {
            r.read("{}");
            r.read("{\"x\":[" + list("1", 48) + "]}");
            r.read("{\"y\":[" + list("1", 49) + "]}");
            r.read("{\"y\":[" + list("1", 50) + "]}");
            r.read("{\"y\":[" + list("1", 50) + "],\"x\":5}");
            reading("1", "2", "3").on(r);
            r.t().join(5, 6, 7);
        }).takes("100 NODES", r -> r.t().node(r.t().join(0, 1, 2), 0, 2) + " " + r.t().quarrels(), "100 0")
            .refuses("101 NODES, and QUARRELS stay", r -> r.t().join(0, 1, 3), ISE)
            .refuses("101 NODES, the other way", r -> r.t().join(0, 3, 1), ISE)
            .takes("too many NODES, but a QUARREL", r -> r.t().join(0, 1, 4) + " " + r.quarrel(0) + " " + r.t().sum(0), "-1 /x 8");
    }

    // ---- QUARRELS

    private static final String[] THREE = {"{\"a\":0,\"b\":0,\"c\":0}", "{\"a\":1,\"b\":1,\"c\":1}", "{\"a\":2,\"b\":2,\"c\":2}", "{\"a\":2,\"b\":1,\"c\":0}"};

    private static void quarrels() {
        String sentence = "How many QUARRELS the latest join() met that threw no exception; 0 ahead of the first one.";
        at(25, sentence).asks("ahead of the first join()", r -> r.t().quarrels(), 0);
        at(25, sentence, reading(THREE)).asks("ahead of the first join()", r -> r.t().quarrels(), 0)
            .takes("3", r -> r.t().join(0, 1, 2) + " " + r.t().quarrels(), "-1 3")
            .takes("1", r -> r.t().join(0, 1, 3) + " " + r.t().quarrels(), "-1 1")
            .takes("none", r -> r.t().join(0, 1, 0) + " " + r.t().quarrels(), "4 0")
            .takes("3, then 1", r -> r.t().join(0, 1, 2) + " " + r.t().join(0, 1, 3) + " " + r.t().quarrels() + " " + r.quarrel(0), "-1 -1 1 /a")
            .takes("3, then none", r -> r.t().join(0, 1, 2) + " " + r.t().join(0, 1, 1) + " " + r.t().quarrels(), "-1 4 0");
        at(25, sentence, r -> {
            reading(THREE).on(r);
            r.t().join(0, 1, 2);
        }).asks("3", r -> r.t().quarrels(), 3)
            .refuses("a join() that throws", r -> r.t().join(0, 1, 4), IOOBE)
            .takes("3 still", r -> r.answer(s -> s.t().join(0, 1, 4)) + " " + r.t().quarrels() + " " + r.quarrel(2), IOOBE + " 3 /c");
        at(25, sentence, r -> {
            reading(THREE).on(r);
            r.t().join(0, 1, 2);
            r.fill(40);
        }).refuses("a join() without a QUARREL, of 40", r -> r.t().join(0, 1, 0), ISE)
            .takes("3 still", r -> r.answer(s -> s.t().join(0, 1, 0)) + " " + r.t().quarrels() + " " + r.quarrel(2), ISE + " 3 /c")
            .takes("a join() with one, of 40", r -> r.t().join(0, 1, 3) + " " + r.t().quarrels() + " " + r.quarrel(0), "-1 1 /a");
    }

    private static void quarrel() {
        at(26, NOT_SO_MANY).refuses("0, ahead of the first join()", r -> r.t().quarrel(0), IOOBE)
            .refuses("-1", r -> r.t().quarrel(-1), IOOBE);
        at(26, NOT_SO_MANY, r -> {
            reading(THREE).on(r);
            r.t().join(0, 1, 2);
        }).refuses("-1", r -> r.t().quarrel(-1), IOOBE)
            .takes("0", r -> r.quarrel(0), "/a")
            .takes("2", r -> r.quarrel(2), "/c")
            .refuses("3", r -> r.t().quarrel(3), IOOBE)
            .refuses("the greatest int", r -> r.t().quarrel(Integer.MAX_VALUE), IOOBE)
            .refuses("the least int", r -> r.t().quarrel(Integer.MIN_VALUE), IOOBE);
        at(26, NOT_SO_MANY, r -> {
            reading(THREE).on(r);
            r.t().join(0, 1, 2);
            r.t().join(0, 1, 1);
        }).refuses("0 of none", r -> r.t().quarrel(0), IOOBE);
    }

    private static void quarrelPaths() {
        String sentence = "Writes the PLAIN PATH of a QUARREL on THE PAPER, in the order in which KEYS were joined.";
        at(26, sentence, r -> {
            reading("1", "2", "3").on(r);
            r.t().join(0, 1, 2);
        }).takes("at the whole", r -> r.t().quarrel(0) + " " + r.t().sum(2), "0 0");
        at(26, sentence, r -> {
            reading("{\"d\":{\"f\":0},\"c\":0}", "{\"n\":1,\"c\":1,\"d\":{\"e\":1,\"f\":1},\"m\":1}", "{\"m\":2,\"c\":2,\"d\":{\"f\":2,\"e\":2},\"n\":2}").on(r);
            r.t().join(0, 1, 2);
        }).takes("KEYS of o, of a", r -> r.t().quarrels() + r.quarrel(0) + r.quarrel(1) + r.quarrel(2) + r.quarrel(3) + r.quarrel(4),
            "5/d/f/d/e/c/n/m");
        String deep = times("{\"~~~~~~~~~~~~\":", 12);
        at(26, sentence, r -> {
            reading(deep + "0" + times("}", 12), deep + "1" + times("}", 12), deep + "2" + times("}", 12)).on(r);
            r.t().join(0, 1, 2);
        }).takes("the longest one", r -> r.quarrel(0), times("/" + times("~0", 12), 12));
        StringBuilder many = new StringBuilder("{\"k10\":0");
        for (int i = 11; i < 50; i++) {
            many.append(",\"k").append(i).append("\":0");
        }
        at(26, sentence, r -> {
            r.read(many + "}");
            r.read(many.toString().replace(":0", ":1") + "}");
            r.read(many.toString().replace(":0", ":2") + "}");
            r.t().join(0, 1, 2);
        }).takes("40 of them", r -> r.t().quarrels() + r.quarrel(0) + r.quarrel(39), "40/k10/k49")
            .refuses("one more", r -> r.t().quarrel(40), IOOBE);
    }
}
