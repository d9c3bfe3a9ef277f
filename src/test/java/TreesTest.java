/** Promises 10 to 12: texts, trees. */
public final class TreesTest {
    public static void main(String[] args) {
        Checks.test("promise 10: fault, texts that are trees", TreesTest::trees);
        Checks.test("promise 10: fault, places", TreesTest::places);
        Checks.test("promise 10: fault, each byte in each place", TreesTest::eachByte);
        Checks.test("promise 10: fault, six deep", TreesTest::depth);
        Checks.test("promise 10: fault, refusals", TreesTest::faultRefusals);
        Checks.test("promise 11: tree", TreesTest::tree);
        Checks.test("promise 11: tree, refusals in their order", TreesTest::treeRefusals);
        Checks.test("promise 12: of", TreesTest::of);
        Checks.test("promise 12: of, names that change", TreesTest::names);
        Checks.test("promise 12: of, refusals", TreesTest::ofRefusals);
        Checks.test("the longest texts", TreesTest::longest);
        Checks.test("the longest texts that end too early", TreesTest::longestCut);
        Checks.end();
    }

    private static int faultOf(int ends, String text) {
        QuestionDesk x = new QuestionDesk();
        x.set(0, ends);
        Desks.text(x, 0, text);
        return x.fault(0);
    }

    private static void trees() {
        String[] texts = {"0", "6", "(0v1)", "(0v0)", "{0>0:1/2}", "{0>1:(2v3)/{4>5:6/(0v1)}}", "((((((0v1)v2)v3)v4)v5)v6)"};
        for (String text : texts) {
            Checks.due(text, faultOf(7, text), -4);
        }
    }

    private static void places() {
        Object[][] due = {
            {"", 0}, {"7", 0}, {"v", 0}, {")", 0}, {" 0", 0}, {"00", 1}, {"0v1", 1}, {"(0v1))", 5}, {"(0v1", 4},
            {"(", 1}, {"()", 1}, {"(0", 2}, {"(01)", 2}, {"(0v", 3}, {"(0v)", 3}, {"(0 v1)", 2}, {"(0V1)", 2},
            {"{", 1}, {"{0", 2}, {"{0<1:2/0}", 2}, {"{0>", 3}, {"{0>(", 3}, {"{(0v1)>1:0/0}", 1}, {"{0>1", 4},
            {"{0>1:", 5}, {"{0>1:2", 6}, {"{0>1:2v0}", 6}, {"{0>1:2/", 7}, {"{0>1:2/0", 8}, {"{0>1:2/0)", 8},
            {"{7>1:2/0}", 1}, {"{0>7:2/0}", 3}, {"{0>1:2/0}0", 9}, {"((0v1)v{0>1:2/9})", 14},
        };
        for (Object[] d : due) {
            Checks.due((String) d[0], faultOf(7, (String) d[0]), (Integer) d[1]);
        }
        Checks.due("an end that is not there", faultOf(3, "(0v3)"), 3);
        Checks.due("an asked end that is not there", faultOf(3, "{0>3:1/2}"), 3);
        Checks.due("an end that is there", faultOf(4, "{0>3:1/3}"), -4);
    }

    private static void eachByte() {
        String text = "{0>1:(1v0)/0}";
        for (int i = 0; i < text.length(); i++) {
            for (int sign = 0; sign < 256; sign++) {
                QuestionDesk x = new QuestionDesk();
                x.set(0, 2);
                Desks.text(x, 0, text);
                x.put(0, i, sign);
                boolean digit = Character.isDigit(text.charAt(i));
                boolean same = sign == text.charAt(i) || digit && (sign == '0' || sign == '1');
                boolean begins = (i == 0 || i == 5 || i == 6 || i == 8 || i == 11) && (sign == '(' || sign == '{');
                boolean end = (i == 0 || i == 5) && (sign == '0' || sign == '1');
                if (!begins && !end) {
                    Checks.due("place " + i + " byte " + sign, x.fault(0), same ? -4 : i);
                } else if (!same) {
                    Checks.holds("place " + i + " byte " + sign + " is fine, what follows is not", x.fault(0) > i);
                }
            }
        }
    }

    private static void depth() {
        Checks.due("seven (", faultOf(2, "(((((((0v1)v1)v1)v1)v1)v1)v1)"), 6);
        Checks.due("seven {", faultOf(2, "{0>1:{0>1:{0>1:{0>1:{0>1:{0>1:{"), 30);
        Checks.due("six and a (", faultOf(2, "({0>1:({0>1:({0>1:("), 18);
        Checks.due("the second part is as deep", faultOf(2, "(0v(0v(0v(0v(0v(0v(0v1)))))))"), 18);
        Checks.due("so it is of a { }", faultOf(2, "{0>1:0/{0>1:0/{0>1:0/{0>1:0/{0>1:0/{0>1:0/{0"), 42);
        Checks.due("six in the second part", faultOf(2, "(0v(0v(0v(0v(0v(0v1))))))"), -4);
        Checks.due("closed ones don't count", faultOf(2, "((((((0v1)v(0v1))v(0v1))v(0v1))v(0v1))v(0v1))"), -4);
    }

    private static void faultRefusals() {
        QuestionDesk x = new QuestionDesk();
        x.member(0, 10);
        Checks.due("no shelf", x.fault(8), -1);
        Checks.due("no shelf", x.fault(-1), -1);
        Checks.due("nothing", x.fault(0), -11);
        x.keep(0, 1, 0);
        Checks.due("a member", x.fault(0), -12);
        x.row(0, 1, 1);
        Checks.due("shorts", x.fault(0), -12);
        x.row(0, 2, 1);
        Checks.due("ints", x.fault(0), -12);
        x.row(0, 0, 1);
        x.put(0, 0, 256 + '0');
        Checks.due("the lowest bits", x.fault(0), -4);
        x.put(0, 0, -208);
        Checks.due("the lowest bits", x.fault(0), -4);
        Checks.due("no tree was told", x.count(4), 0);
    }

    private static void tree() {
        QuestionDesk x = new QuestionDesk();
        Desks.text(x, 3, "(0v1)");
        for (int t = 0; t < 12; t++) {
            Checks.due("tree", x.tree(3), t);
        }
        Checks.due("a thirteenth", x.tree(3), -2);
        Checks.due("trees", x.count(4), 12);
        Checks.due("questions", x.count(5), 12);
        x.put(3, 1, '2');
        Checks.due("a tree is told once and for all", x.of(0, 1), 3);
        x.set(0, 1);
        Checks.due("ends that are there don't matter to it", x.of(0, 1), 3);
        Checks.due("nor to what comes", x.run(0), 0);
    }

    private static void treeRefusals() {
        QuestionDesk x = new QuestionDesk();
        x.member(0, 10);
        Checks.due("nothing", x.tree(0), -11);
        x.keep(0, 1, 0);
        Checks.due("a member", x.tree(0), -12);
        x.row(0, 2, 1);
        Checks.due("ints", x.tree(0), -12);
        Desks.text(x, 0, "(0v4)");
        Checks.due("a fault", x.tree(0), -103);
        Desks.text(x, 0, "");
        Checks.due("a fault at once", x.tree(0), -100);
        Checks.due("no tree yet", x.count(4), 0);
        Checks.due("no shelf", x.tree(8), -1);
        Desks.text(x, 1, "0");
        for (int t = 0; t < 12; t++) {
            x.tree(1);
        }
        Checks.due("no shelf ahead of no room", x.tree(-1), -1);
        Checks.due("no room ahead of nothing", x.tree(5), -2);
        Checks.due("no room ahead of a fault", x.tree(0), -2);
        x.row(0, 2, 1);
        Checks.due("no room ahead of another kind", x.tree(0), -2);
    }

    private static void of() {
        QuestionDesk x = new QuestionDesk();
        x.set(0, 7);
        Object[][] due = {
            {"5", 0, 32, 5}, {"(3v1)", 1, 10, 3}, {"{0>1:2/3}", 0, 12, 2}, {"{1>0:2/3}", 0, 12, 3}, {"{0>0:2/3}", 0, 12, 3},
            {"((4v1)v(2v(4v6)))", 4, 86, 4}, {"{1>0:(1v2)/((3v4)v5)}", 3, 62, 3}, {"({0>1:6/5}v(1v1))", 2, 98, 6},
        };
        for (int t = 0; t < due.length; t++) {
            Desks.text(x, 0, (String) due[t][0]);
            Checks.due("tree", x.tree(0), t);
            for (int what = 0; what < 3; what++) {
                Checks.due(due[t][0] + " " + what, x.of(t, what), (Integer) due[t][what + 1]);
            }
        }
    }

    private static void names() {
        QuestionDesk x = new QuestionDesk();
        int t = Desks.tree(x, "({0>1:(2v0)/1}v0)");
        Checks.due("nobody: the lesser", x.of(t, 2), 2);
        x.set(1, 1);
        Checks.due("nobody: the greater", x.of(t, 2), 1);
        Desks.member(x, 3, 10, "01");
        Checks.due("one who likes 0", x.of(t, 2), 2);
    }

    private static void ofRefusals() {
        QuestionDesk x = new QuestionDesk();
        Checks.due("no tree", x.of(0, 0), -1);
        int t = Desks.tree(x, "0");
        Checks.due("no tree", x.of(t + 1, 0), -1);
        Checks.due("no tree", x.of(-1, 0), -1);
        Checks.due("what", x.of(t, 3), -1);
        Checks.due("what", x.of(t, -1), -1);
    }

    private static String full(int depth) {
        return depth == 0 ? "1" : "(" + full(depth - 1) + "v" + full(depth - 1) + ")";
    }

    private static void longest() {
        QuestionDesk x = new QuestionDesk();
        // 30 ends and 29 questions take 117 bytes, the most parts that a text of 120 can have.
        String text = "(" + full(4) + "v(" + full(3) + "v((1v1)v((1v1)v(1v1)))))";
        int ends = 30;
        Checks.due("length", text.length(), 117);
        int t = Desks.tree(x, text);
        Checks.due("it is a tree", t, 0);
        Checks.due("questions", x.of(t, 0), ends - 1);
        x.set(1, 1);
        Checks.due("it runs", x.run(t), 1);
        Checks.due("its last question", x.ask(t, ends - 2, 2), 1);
        Checks.due("and one more", x.ask(t, ends - 1, 2), -1);
        Checks.due("killers", x.killers(t), 4);
        Checks.due("shields", x.shields(t, 2), 0);
        StringBuilder open = new StringBuilder();
        while (open.length() < 120) {
            open.append("(0v");
        }
        Desks.text(x, 0, open.substring(0, 120));
        Checks.due("a long text with a fault", x.fault(0), 18);
    }

    private static void longestCut() {
        String[] leads = {"", "(1v", "{0>1:1/"};
        int inChoices = 0;
        for (String lead : leads) {
            String base = lead + full(5);
            Checks.due("cut in a question", faultOf(2, base.substring(0, 120)), 120);
            for (int p = 112; p < 120; p++) {
                if (base.charAt(p) == '(' || lead.isEmpty() && base.charAt(p) == '1') {
                    String text = base.substring(0, p) + "{0>1:1/1}";
                    Checks.due("cut in a { } from " + p, faultOf(2, text.substring(0, 120)), 120);
                    inChoices |= 1 << 120 - p;
                }
            }
        }
        Checks.holds("cut ahead of both ends of a { }: " + inChoices, (inChoices >> 1 & 1) == 1 && (inChoices >> 3 & 1) == 1);
    }
}
