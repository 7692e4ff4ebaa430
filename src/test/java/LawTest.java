import java.util.ArrayList;
import java.util.List;

/**
 * WHAT ALWAYS HOLDS, asked of the class alone: every two, or three, of some small DOCUMENTS, and SCHEMAS
 * of which the document says whether they are such. No other telling of the document is needed for it.
 */
public final class LawTest {
    private static final String[] VALUES = {"null", "true", "false", "0", "-1", "15e-1", "\"\"", "\"a\"", "[]", "{}", "[1]", "[1,2]",
        "[2,1]", "[1,1,2]", "[2,1,2,1]", "[[]]", "[{}]", "[{\"a\":1},2]", "{\"a\":1}", "{\"a\":2}", "{\"b\":1}", "{\"a\":1,\"b\":2}",
        "{\"b\":2,\"a\":1}", "{\"a\":{\"b\":1}}", "{\"a\":{\"b\":1,\"c\":[1,2]}}", "{\"c\":0,\"a\":{\"c\":[2,1],\"b\":1}}",
        "{\"~\":1,\"/\":{\"~1\":2}}", "{\"/\":{\"~1\":3},\"\":{}}", "{\"a\":[1,2,3],\"b\":{}}", "{\"b\":{\"x\":{}},\"a\":[3,2,1]}",
        "[1,[2,{\"a\":3}]]", "[[2,{\"a\":3}],1,[2,{\"a\":3}]]", "[null,true,0,\"\",[],{}]"};
    private static final String[] SCHEMAS = {"true", "false", "{}", "{\"kind\":\"whole\"}", "{\"kind\":[\"row\",\"map\"]}", "{\"kind\":[]}",
        "{\"least\":0}", "{\"most\":1e0}", "{\"shortest\":1}", "{\"longest\":15e-1}", "{\"needs\":[\"a\",\"b\",\"a\"]}",
        "{\"keys\":{\"a\":{\"kind\":\"number\"}}}", "{\"keys\":{\"a\":true},\"others\":false}", "{\"others\":{\"kind\":\"map\"}}",
        "{\"items\":{\"kind\":\"number\",\"most\":1}}", "{\"only\":[1,[1,2],{\"b\":2,\"a\":1}]}", "{\"only\":[]}", "{\"all\":[]}",
        "{\"all\":[{\"kind\":\"row\"},false]}", "{\"some\":[]}", "{\"some\":[{\"kind\":\"row\"},{\"kind\":\"map\"}]}", "{\"one\":[]}",
        "{\"one\":[{\"kind\":\"map\"},{\"needs\":[\"a\"]}]}", "{\"not\":{\"kind\":\"map\"}}", "{\"ref\":\"a\"}", "{\"ref\":\"s\"}", "{\"ref\":\"r\"}",
        "{\"ref\":\"o\"}", "{\"x\":7,\"kind\":\"text\",\"longest\":0}"};
    private static final String[] NO_SCHEMAS = {"null", "0", "\"true\"", "[]", "{\"kind\":null}", "{\"kind\":\"rows\"}", "{\"kind\":[\"row\",1]}",
        "{\"kind\":{}}", "{\"least\":\"0\"}", "{\"most\":null}", "{\"shortest\":[]}", "{\"longest\":true}", "{\"needs\":\"a\"}", "{\"needs\":[1]}",
        "{\"keys\":true}", "{\"keys\":{\"a\":1}}", "{\"others\":null}", "{\"items\":[]}", "{\"only\":1}", "{\"all\":{}}", "{\"all\":[1]}",
        "{\"some\":true}", "{\"some\":[\"a\"]}", "{\"one\":null}", "{\"one\":[[]]}", "{\"not\":0}", "{\"ref\":1}", "{\"names\":[]}",
        "{\"names\":{\"a\":2}}", "{\"not\":{\"not\":{\"kind\":\"x\"}}}"};
    private static final String NAMES = "{\"names\":{\"s\":{\"items\":{\"ref\":\"s\"},\"others\":{\"ref\":\"s\"},\"not\":{\"kind\":\"text\"}},"
        + "\"r\":{\"not\":{\"ref\":\"r\"}},\"o\":{\"one\":[{\"ref\":\"o\"},{\"items\":{\"ref\":\"s\"}}]}},\"all\":[";
    private static final int CALLS = 340;

    private static int checks;
    private static int wrong;
    private static Run run;

    private static void need(boolean ok, String what) {
        checks++;
        if (!ok) {
            wrong++;
            System.out.println(what);
        }
    }

    /** An object on which all VALUES are read, each by its number; a new one, if the one there is has made many calls. */
    private static Run ready() {
        if (run == null || run.calls() > CALLS) {
            run = new Run();
            for (String value : VALUES) {
                run.read(value);
            }
        }
        while (run.t().sum(0) > VALUES.length) {
            run.t().undo();
        }
        return run;
    }

    private static void written() {
        List<String> ways = new ArrayList<>();
        for (int a = 0; a < VALUES.length; a++) {
            ways.add(ready().print(a, 1));
        }
        for (int a = 0; a < VALUES.length; a++) {
            for (int b = 0; b < VALUES.length; b++) {
                boolean alike = ways.get(a).equals(ways.get(b));
                need(ready().t().equal(a, b) == alike, "(1) EQUAL, or written alike: " + VALUES[a] + " and " + VALUES[b]);
            }
            for (int way = 0; way <= 2; way++) {
                Run r = ready();
                int again = r.read(r.print(a, way));
                need(again >= 0 && r.t().equal(again, a), "(1) the way " + way + " is read as another one: " + VALUES[a]);
                need(r.t().isSound(a), "(1) not sound: " + VALUES[a]);
            }
        }
    }

    private static void patched() {
        for (int a = 0; a < VALUES.length; a++) {
            for (int b = 0; b < VALUES.length; b++) {
                String both = VALUES[a] + " to " + VALUES[b];
                Run r = ready();
                int patch = r.t().patch(a, b);
                int laid = r.t().lay(a, patch);
                int turned = r.t().turn(a, patch);
                int back = r.t().lay(laid, turned);
                need(laid >= 0 && r.t().equal(laid, b), "(2) the PATCH does not lead from " + both);
                need(back >= 0 && r.t().equal(back, a), "(2) turned round it does not lead back: " + both);
                need(r.t().equal(a, b) == (r.t().node(patch, 0, 3) == 0), "(2) ORDERS from " + both);
                need(r.t().lay(back, patch) >= 0 && r.t().equal(r.t().sum(0) - 1, b), "(2) the PATCH is not laid again: " + both);
            }
        }
    }

    private static void joined() {
        for (int o = 0; o < VALUES.length; o++) {
            for (int a = 0; a < VALUES.length; a++) {
                for (int b = a; b < VALUES.length; b++) {
                    String all = VALUES[a] + " and " + VALUES[b] + " over " + VALUES[o];
                    Run r = ready();
                    int one = r.t().join(o, a, b);
                    int quarrels = r.t().quarrels();
                    int other = r.t().join(o, b, a);
                    need((one < 0) == (other < 0) && quarrels == r.t().quarrels(), "(3) one of both ways has QUARRELS: " + all);
                    need((one < 0) == (quarrels > 0), "(3) QUARRELS, or what comes: " + all);
                    need(one < 0 || r.t().equal(one, other), "(3) both ways differ: " + all);
                    need(!r.t().equal(a, b) || r.t().equal(one, a), "(3) both are EQUAL: " + all);
                    need(!r.t().equal(o, a) || r.t().equal(one, b), "(3) the first one is the common one: " + all);
                    need(!r.t().equal(o, b) || r.t().equal(one, a), "(3) the second one is the common one: " + all);
                }
            }
        }
    }

    /** Whether a SCHEMA says yes is seen by "not"; whether it has COMPLAINTS, by itself. */
    private static void checked() {
        for (String schema : SCHEMAS) {
            for (int a = 0; a < VALUES.length; a++) {
                Run r = ready();
                int asked = r.t().check(r.read(NAMES + schema + "]}"), a);
                int denied = r.t().check(r.read(NAMES + "{\"not\":" + schema + "}]}"), a);
                int some = r.t().check(r.read(NAMES + "{\"some\":[" + schema + "]}]}"), a);
                String both = schema + " about " + VALUES[a];
                need(denied == (asked == 0 ? 1 : 0), "(4) says yes, or has COMPLAINTS: " + both);
                need(some == (asked == 0 ? 0 : 1), "(4) some of one: " + both);
            }
        }
    }

    private static boolean isTaken(int schema) {
        return !"IllegalStateException".equals(run.answer(r -> r.t().check(schema, 0)));
    }

    private static void standard() {
        for (String schema : SCHEMAS) {
            needSchema(schema, true);
            needSchema("{\"not\":" + schema + "}", true);
            needSchema("{\"keys\":{\"a\":" + schema + "},\"names\":{\"b\":" + schema + "}}", true);
        }
        for (String schema : NO_SCHEMAS) {
            needSchema(schema, false);
            needSchema("{\"items\":" + schema + "}", false);
            needSchema("{\"some\":[true," + schema + "]}", false);
            needSchema("{\"names\":{\"b\":" + schema + "}}", false);
            needSchema("{\"only\":[" + schema + "]}", true);
        }
        Run r = ready();
        int standard = r.t().standard();
        need(r.t().check(standard, standard) == 0 && isTaken(standard), "(4) THE STANDARD says no to itself");
    }

    private static void needSchema(String text, boolean due) {
        Run r = ready();
        int schema = r.read(text);
        int complaints = r.t().check(r.t().standard(), schema);
        need((complaints == 0) == due, "(4) THE STANDARD tells " + complaints + " COMPLAINTS of " + text);
        need(isTaken(schema) == due, "(4) check() " + (due ? "refuses " : "takes ") + text);
    }

    public static void main(String[] args) {
        written();
        patched();
        joined();
        checked();
        standard();
        System.out.println(checks + " checks of what always holds, " + wrong + " wrong");
        if (wrong > 0) {
            System.exit(1);
        }
    }
}
