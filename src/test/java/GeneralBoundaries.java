/** Boundaries of what the document says ahead of all promises: of calls that are refused, and of what always holds. */
final class GeneralBoundaries extends Boundaries {
    private static final String CHANGES_NOTHING = "A call that throws an exception changes nothing.";
    private static final String CANNOT_BE =
        "A call by which one would come that cannot be, or the 41st, throws IllegalStateException, if nothing else is told.";
    private static final String NO_SUCH = "there is no such DOCUMENT, place or number (of several from the first argument on)";
    private static final String READ_AGAIN = "(1) To read what print() wrote of a DOCUMENT gives one that is EQUAL to it";
    private static final String ALIKE = "two DOCUMENTS are written alike in THE ONE WAY just if they are EQUAL";
    private static final String[] AT_BOUNDS = {"null", "false", "0", "\"\"", "[]", "{}", deep(12), times("{\"\":", 12) + "1" + times("}", 12),
        "[" + list("1", 99) + "]", "[[" + list("{}", 48) + "],[" + list("[]", 49) + "]]", "[1e99,-1e-99,10,0.1,-" + times("9", 24) + "e-99]",
        "\"" + times("\\u00ff", 40) + "\"", "{\"" + times("\\u0000", 12) + "\":\"" + times("\\\\", 40) + "\"}",
        "{\"abcdefghijkl\":{\"b\":1,\"a\":[{\"d\":2,\"c\":{}}],\"\":null},\"\\\"\":\"\\\"/\"}"};

    static void all() {
        texts();
        values();
        paths();
        patches();
        schemas();
        tables();
        full();
        fortyFirst();
        noSuch();
        alwaysHold();
    }

    /** An object of which much can be asked: THE RULE, FINDS, a QUARREL, a COMPLAINT, THE PAPER, and a text on THE PAGE. */
    private static Lead rich(String page) {
        return r -> {
            r.t().rule(2);
            reading("7", "{\"a\":1,\"b\":[1]}", "{\"a\":2,\"b\":[1]}", "{\"items\":false,\"keys\":{\"a\":false}}", deep(12), "[]").on(r);
            r.readOnes(99);
            r.read("[" + remove("/x") + "]");
            r.t().join(0, 1, 2);
            r.t().check(3, 1);
            r.finds(1, "/**");
            r.t().print(2, 0);
            r.type(page);
        };
    }

    private static void refuses(int promise, String page, String what, Call call, String exception) {
        at(promise, CHANGES_NOTHING, rich(page)).refuses(what, call, exception);
    }

    private static void texts() {
        refuses(2, "[1]", "write of none", r -> r.t().write(0, 0), IAE);
        refuses(2, "[1]", "write of the code 31", r -> r.t().write(2, 97 << 8 | 31), IAE);
        refuses(2, "[1]", "write of more figures", r -> r.t().write(1, 97 << 8 | 97), IAE);
        refuses(2, times(" ", 393) + "[1]", "write of 5 with 396", r -> r.t().write(5, Run.letters("abcde")), ISE);
        refuses(4, "[1]", "paper of no place", r -> r.t().paper(-1, 1), IOOBE);
        refuses(4, "[1]", "paper of 8", r -> r.t().paper(0, 8), IAE);
        refuses(5, "[1]", "rule 3", r -> r.t().rule(3), IAE);
        refuses(7, "[1]", "print of no DOCUMENT", r -> r.t().print(8, 0), IOOBE);
        refuses(7, "[1]", "print in no way", r -> r.t().print(0, 3), IAE);
    }

    private static void values() {
        refuses(8, "[1]", "node of no NODE", r -> r.t().node(0, 1, 0), IOOBE);
        refuses(8, "[1]", "node, what 10", r -> r.t().node(0, 0, 10), IAE);
        refuses(9, "[1]", "tell of no NODE", r -> r.t().tell(0, 1, 0), IOOBE);
        refuses(9, "[1]", "tell, what 4", r -> r.t().tell(0, 0, 4), IAE);
        refuses(9, "[1]", "tell of no TEXT", r -> r.t().tell(0, 0, 0), ISE);
        refuses(10, "[1]", "equal of no DOCUMENT", r -> r.t().equal(0, 8), IOOBE);
        refuses(11, "[1]", "compare of no DOCUMENT", r -> r.t().compare(8, 0), IOOBE);
        refuses(11, "[1]", "compare of a MAP", r -> r.t().compare(0, 1), ISE);
        refuses(12, "[1]", "digest of no NODE", r -> r.t().digest(0, 1), IOOBE);
        refuses(13, "[1]", "take of no NODE", r -> r.t().take(0, 1), IOOBE);
        refuses(14, "[1]", "sorted of no DOCUMENT", r -> r.t().sorted(8), IOOBE);
        refuses(15, "[1]", "both of no DOCUMENT", r -> r.t().both(0, 8), IOOBE);
        refuses(15, "[1]", "both of too many NODES", r -> r.t().both(6, 6), ISE);
        refuses(15, "[1]", "both of too great a DEPTH", r -> r.t().both(4, 0), ISE);
    }

    private static void paths() {
        refuses(17, "/b", "select of no DOCUMENT", r -> r.t().select(8), IOOBE);
        refuses(17, "/b~", "select by no PATH", r -> r.t().select(1), ISE);
        refuses(18, "/b", "find of no FIND", r -> r.t().find(4), IOOBE);
        refuses(19, "/b", "put of no DOCUMENT", r -> r.t().put(1, 8), IOOBE);
        refuses(19, "b", "put by no PATH", r -> r.t().put(1, 0), ISE);
        refuses(19, "/b/2", "put where it cannot be", r -> r.t().put(1, 0), ISE);
        refuses(19, "/b/0", "put of too many NODES", r -> r.t().put(1, 6), ISE);
        refuses(19, "/b/0", "put of too great a DEPTH", r -> r.t().put(1, 4), ISE);
        refuses(20, "/b", "cut of no DOCUMENT", r -> r.t().cut(8), IOOBE);
        refuses(20, "b", "cut by no PATH", r -> r.t().cut(1), ISE);
        refuses(20, "/c", "cut of what is not there", r -> r.t().cut(1), ISE);
    }

    private static void patches() {
        refuses(21, "/b", "lay of no DOCUMENT", r -> r.t().lay(1, 8), IOOBE);
        refuses(22, "/b", "patch of no DOCUMENT", r -> r.t().patch(8, 1), IOOBE);
        refuses(22, "/b", "patch of too many NODES", r -> r.t().patch(0, 6), ISE);
        refuses(22, "/b", "patch of too great a DEPTH", r -> r.t().patch(0, 4), ISE);
        refuses(23, "/b", "turn of no DOCUMENT", r -> r.t().turn(8, 5), IOOBE);
        refuses(23, "/b", "turn of what cannot be laid", r -> r.t().turn(1, 7), ISE);
        refuses(23, "/b", "turn of no ROW", r -> r.t().turn(1, 0), ISE);
        refuses(24, "/b", "join of no DOCUMENT", r -> r.t().join(0, 1, 8), IOOBE);
        refuses(26, "/b", "quarrel of none", r -> r.t().quarrel(1), IOOBE);
        At unchanged = at(21, "a PATCH is laid whole, or not at all", rich("/b"));
        unchanged.asks("lay of what cannot be done", r -> r.t().lay(1, 7), -2).asks("lay of no ROW", r -> r.t().lay(1, 0), -1);
    }

    private static void schemas() {
        refuses(28, "/b", "check of no DOCUMENT", r -> r.t().check(3, 8), IOOBE);
        refuses(28, "/b", "check by no SCHEMA", r -> r.t().check(0, 1), ISE);
        refuses(29, "/b", "complaint of none", r -> r.t().complaint(1, 0), IOOBE);
        refuses(29, "/b", "complaint, what 2", r -> r.t().complaint(0, 2), IAE);
    }

    private static void tables() {
        refuses(30, "/b", "columns of no DOCUMENT", r -> r.t().columns(8), IOOBE);
        refuses(30, "/b", "columns of a NUMBER", r -> r.t().columns(0), ISE);
        refuses(31, "/b", "rows of no DOCUMENT", r -> r.t().rows(8), IOOBE);
        refuses(31, "/b", "rows of a NUMBER", r -> r.t().rows(0), ISE);
        refuses(32, "/b", "grow by no seed", r -> r.t().grow(-1, 1), IAE);
        refuses(32, "/b", "grow by no size", r -> r.t().grow(0, 4), IAE);
        refuses(33, "/b", "vary of no DOCUMENT", r -> r.t().vary(8, 0), IOOBE);
        refuses(33, "/b", "vary by no seed", r -> r.t().vary(0, 65536), IAE);
        refuses(33, "/b", "vary to too many NODES", r -> r.t().vary(6, 599), ISE);
        refuses(34, "/b", "sum, what 7", r -> r.t().sum(7), IAE);
        refuses(35, "/b", "isSound of no DOCUMENT", r -> r.t().isSound(8), IOOBE);
    }

    /** With 40 DOCUMENTS: the calls by which one would come. */
    private static void full() {
        Lead forty = r -> {
            rich("/b").on(r);
            r.fill(40);
        };
        at(6, CHANGES_NOTHING, forty).refuses("read", r -> r.t().read(), ISE);
        at(13, CHANGES_NOTHING, forty).refuses("take", r -> r.t().take(1, 2), ISE);
        at(14, CHANGES_NOTHING, forty).refuses("sorted", r -> r.t().sorted(1), ISE);
        at(15, CHANGES_NOTHING, forty).refuses("both", r -> r.t().both(1, 2), ISE);
        at(19, CHANGES_NOTHING, forty).refuses("put", r -> r.t().put(1, 0), ISE);
        at(20, CHANGES_NOTHING, forty).refuses("cut", r -> r.t().cut(1), ISE);
        at(21, CHANGES_NOTHING, forty).refuses("lay", r -> r.t().lay(1, 5), ISE);
        at(22, CHANGES_NOTHING, forty).refuses("patch", r -> r.t().patch(1, 2), ISE);
        at(23, CHANGES_NOTHING, forty).refuses("turn", r -> r.t().turn(1, 5), ISE);
        at(24, CHANGES_NOTHING, forty).refuses("join", r -> r.t().join(1, 1, 2), ISE);
        at(27, CHANGES_NOTHING, forty).refuses("standard", r -> r.t().standard(), ISE);
        at(30, CHANGES_NOTHING, forty).refuses("columns", r -> r.t().columns(5), ISE);
        at(32, CHANGES_NOTHING, forty).refuses("grow", r -> r.t().grow(0, 1), ISE);
        at(33, CHANGES_NOTHING, forty).refuses("vary", r -> r.t().vary(1, 0), ISE);
    }

    /** Each call by which a DOCUMENT comes, as the 40th and as the 41st. */
    private static void fortyFirst() {
        Lead lead = reading("[{\"b\":1,\"a\":2}]", "{\"a\":[1]}", "[]");
        forty(13, CANNOT_BE, lead, r -> r.t().take(0, 1));
        forty(14, CANNOT_BE, lead, r -> r.t().sorted(0));
        forty(15, CANNOT_BE, lead, r -> r.t().both(0, 1));
        forty(21, CANNOT_BE, lead, r -> r.t().lay(0, 2));
        forty(22, CANNOT_BE, lead, r -> r.t().patch(0, 1));
        forty(23, CANNOT_BE, lead, r -> r.t().turn(0, 2));
        forty(24, CANNOT_BE, lead, r -> r.t().join(0, 0, 1));
        forty(27, CANNOT_BE, lead, r -> r.t().standard());
        forty(30, CANNOT_BE, lead, r -> r.t().columns(0));
        forty(31, CANNOT_BE, lead, r -> r.t().rows(1));
        forty(32, CANNOT_BE, lead, r -> r.t().grow(0, 1));
        forty(33, CANNOT_BE, lead, r -> r.t().vary(0, 0));
        Lead typed = r -> {
            lead.on(r);
            r.type("/0");
        };
        forty(19, CANNOT_BE, typed, r -> r.t().put(0, 1));
        forty(20, CANNOT_BE, typed, r -> r.t().cut(0));
        forty(6, CANNOT_BE, r -> {
            lead.on(r);
            r.type("[1]");
        }, r -> r.t().read());
    }

    private static void noSuch() {
        Lead one = reading("[1]");
        at(8, NO_SUCH, one).refuses("neither DOCUMENT nor NODE", r -> r.t().node(1, 2, 0), IOOBE);
        at(10, NO_SUCH, one).refuses("neither of two", r -> r.t().equal(1, -1), IOOBE);
        at(24, NO_SUCH, one).refuses("none of three", r -> r.t().join(1, 2, 3), IOOBE)
            .refuses("the last of three", r -> r.t().join(0, 0, 1), IOOBE)
            .takes("all of three", r -> r.t().join(0, 0, 0), 1);
    }

    // ---- what always holds

    private static void alwaysHold() {
        At again = at(7, READ_AGAIN);
        for (String text : AT_BOUNDS) {
            for (int way = 0; way <= 2; way++) {
                int told = way;
                again.takes("way " + way + " of " + text, r -> {
                    String written = r.print(r.read(text), told);
                    return written.length() > 400 ? "true" : r.t().equal(0, r.read(written));
                }, true);
            }
        }
        At alike = at(7, ALIKE);
        for (int i = 0; i < AT_BOUNDS.length; i++) {
            for (int j = i; j < AT_BOUNDS.length; j++) {
                String one = AT_BOUNDS[i];
                String other = AT_BOUNDS[j];
                alike.takes(one + " and " + other, r -> {
                    boolean same = r.print(r.read(one), 1).equals(r.print(r.read(other), 1));
                    return same + " " + r.t().equal(0, 1);
                }, i == j ? "true true" : "false false");
            }
        }
        alike.takes("KEYS in another order", r -> {
            String one = r.print(r.read("{\"a\":{\"c\":1,\"b\":2},\"\":[{\"e\":3,\"d\":4}]}"), 1);
            return one.equals(r.print(r.read("{\"\":[{\"d\":4,\"e\":3}],\"a\":{\"b\":2,\"c\":1}}"), 1)) + " " + r.t().equal(0, 1);
        }, "true true");
        At schema = at(28, "15 likewise, but one itself, if there is no such SCHEMA, or 13 are open");
        schema.takes("those of what it asks", r -> r.check("{\"ref\":\"a\",\"names\":{\"a\":{\"items\":false}}}", "[1,2]"), "1:0 2:0")
            .takes("none of what it asks", r -> r.check("{\"ref\":\"a\",\"names\":{\"a\":{\"items\":false}}}", "[]"), "")
            .takes("no such SCHEMA", r -> r.check("{\"ref\":\"b\",\"names\":{\"a\":{\"items\":false}}}", "[1,2]"), "0:15");
    }
}
