import java.io.IOException;
import java.nio.file.Files;
import java.nio.file.Paths;
import java.util.ArrayList;
import java.util.LinkedHashSet;
import java.util.List;
import java.util.Set;

/**
 * What the tests of boundaries share. Each of them is at one sentence of the document, by the number
 * of the promise that it belongs to: on a new object for each answer it makes the calls that lead
 * there, and compares the answers on both sides of the boundary.
 */
abstract class Boundaries {
    static final String IOOBE = "IndexOutOfBoundsException";
    static final String IAE = "IllegalArgumentException";
    static final String ISE = "IllegalStateException";
    static final String SEVERAL = "If several apply, the one that the throws clause names first is thrown.";
    static final String NO_DOCUMENT = "if there is no such DOCUMENT";
    static final Lead NOTHING = r -> { };

    private static final List<At> TESTS = new ArrayList<>();
    private static int checks;
    private static int wrong;

    /** Calls that lead to a boundary. */
    interface Lead {
        void on(Run run);
    }

    /** The call at a boundary, and what is looked at behind it. */
    interface Call {
        Object on(Run run);
    }

    /** A call with a number that may be out of its range. */
    interface Numbered {
        Object on(Run run, int number);
    }

    /** A test: at one sentence, behind the calls that lead there. */
    static final class At {
        final int promise;
        final String sentence;
        private final Lead lead;
        private String untouched;

        At(int promise, String sentence, Lead lead) {
            this.promise = promise;
            this.sentence = sentence;
            this.lead = lead;
        }

        /** The same sentence, behind other calls. */
        At behind(Lead other) {
            return new At(promise, sentence, other);
        }

        private Run begun() {
            Run run = new Run();
            lead.on(run);
            return run;
        }

        private void due(String what, Object got, Object want) {
            checks++;
            if (!String.valueOf(got).equals(String.valueOf(want))) {
                wrong++;
                System.out.println("promise " + promise + ", \"" + sentence + "\": " + what);
                System.out.println("    answered " + got);
                System.out.println("    due is   " + want);
            }
        }

        /** What can be asked of an object that has made the leading calls alone. */
        private String untouched() {
            if (untouched == null) {
                untouched = begun().probe();
            }
            return untouched;
        }

        /** The call is taken, with this answer. */
        At takes(String what, Call call, Object want) {
            due(what, begun().answer(call), want);
            return this;
        }

        /** The call is taken, with this answer, and changes nothing. */
        At asks(String what, Call call, Object want) {
            Run run = begun();
            due(what, run.answer(call), want);
            due(what + " changes nothing", run.probe(), untouched());
            return this;
        }

        /** The call throws, and changes nothing. */
        At refuses(String what, Call call, String exception) {
            return asks(what, call, exception);
        }

        /** A text is read, and is this in LEAST. */
        At reads(String text, String want) {
            return takes("read of " + text, r -> r.came(text), want);
        }

        /** A text has a FAULT at this place. */
        At faults(String text, int place) {
            return takes("read of " + text, r -> r.came(text), "fault " + place);
        }
    }

    static At at(int promise, String sentence, Lead lead) {
        At test = new At(promise, sentence, lead);
        TESTS.add(test);
        return test;
    }

    static At at(int promise, String sentence) {
        return at(promise, sentence, NOTHING);
    }

    static String times(String s, int n) {
        return s.repeat(n);
    }

    /** As many of them, with , between. */
    static String list(String s, int n) {
        return n == 0 ? "" : s + ("," + s).repeat(n - 1);
    }

    /** ROWS within each other, so deep. */
    static String deep(int depth) {
        return times("[", depth) + times("]", depth);
    }

    /** An ORDER, with what else it has. */
    static String order(String op, String path, String more) {
        return "{\"op\":\"" + op + "\",\"path\":\"" + path + "\"" + more + "}";
    }

    static String remove(String path) {
        return order("remove", path, "");
    }

    static String valued(String op, String path, String value) {
        return order(op, path, ",\"value\":" + value);
    }

    static String from(String op, String path, String from) {
        return order(op, path, ",\"from\":\"" + from + "\"");
    }

    static Lead reading(String... texts) {
        return r -> {
            for (String text : texts) {
                r.read(text);
            }
        };
    }

    /** No such DOCUMENT, on each side of those that there are: two, by the texts, or none. */
    static void documents(int promise, String one, String other, Numbered call, Object first, Object last) {
        documentsAt(promise, "", reading(one, other), call, first, last);
    }

    /** The same for a call by THE PAGE. */
    static void documentsAt(int promise, String page, Lead two, Numbered call, Object first, Object last) {
        at(promise, NO_DOCUMENT, r -> r.type(page))
            .refuses("0, of none", r -> call.on(r, 0), IOOBE)
            .refuses("-1, of none", r -> call.on(r, -1), IOOBE);
        at(promise, NO_DOCUMENT, r -> {
            two.on(r);
            r.type(page);
        }).refuses("-1", r -> call.on(r, -1), IOOBE)
            .takes("0", r -> call.on(r, 0), first)
            .takes("1", r -> call.on(r, 1), last)
            .refuses("2", r -> call.on(r, 2), IOOBE)
            .refuses("40", r -> call.on(r, 40), IOOBE)
            .refuses("the greatest int", r -> call.on(r, Integer.MAX_VALUE), IOOBE)
            .refuses("the least int", r -> call.on(r, Integer.MIN_VALUE), IOOBE);
        at(promise, "the last one can be taken back", r -> {
            two.on(r);
            r.t().undo();
            r.type(page);
        }).refuses("1, taken back", r -> call.on(r, 1), IOOBE);
    }

    /** The 40th DOCUMENT comes, the 41st does not. */
    static void forty(int promise, String sentence, Lead lead, Call call) {
        at(promise, sentence, r -> {
            lead.on(r);
            r.fill(39);
        }).takes("the 40th DOCUMENT", call, 39);
        at(promise, sentence, r -> {
            lead.on(r);
            r.fill(40);
        }).refuses("the 41st DOCUMENT", call, ISE)
            .takes("the 40th, in the place of one that was taken back", r -> {
                r.t().undo();
                return call.on(r);
            }, 39);
    }

    // ---- the document

    private static String plain(String text) {
        return text.replaceAll("\\s+", " ");
    }

    /** Each sentence has to be the document's, and each of its lines about arguments and exceptions to have a test. */
    static void compareWithDocument(String file) throws IOException {
        String all = Files.readString(Paths.get(file));
        String text = plain(all);
        for (At test : TESTS) {
            need(text.contains(plain(test.sentence)), "no sentence of the document: " + test.sentence);
        }
        int promise = 0;
        for (String line : all.split("\n")) {
            if (line.startsWith("## ")) {
                promise = line.startsWith("## Promise ") ? Integer.parseInt(line.replaceAll("\\D", "")) : 0;
            }
            if (promise > 0 && (line.startsWith("- `") || line.startsWith("Throws ") || line.startsWith("`"))) {
                needTest(promise, line);
            }
        }
        need(promise == 0, "the document ends with promises");
    }

    private static void needTest(int promise, String line) {
        boolean any = false;
        boolean told = false;
        for (At test : TESTS) {
            any = any || test.promise == promise;
            told = told || test.promise == promise && plain(line).contains(plain(test.sentence));
        }
        need(line.startsWith("`") ? any : told, "no test at promise " + promise + ": " + line);
    }

    private static void need(boolean ok, String what) {
        checks++;
        if (!ok) {
            wrong++;
            System.out.println(what);
        }
    }

    /** Tells how many there were; whether all are as due. */
    static boolean allAsDue() {
        Set<String> sentences = new LinkedHashSet<>();
        for (At test : TESTS) {
            sentences.add(test.promise + " " + test.sentence);
        }
        System.out.println(sentences.size() + " sentences, " + checks + " checks at their boundaries, " + wrong + " wrong");
        return wrong == 0;
    }
}
