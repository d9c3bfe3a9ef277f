/** Promises 13 to 20: beating, running. */
public final class RunningTest {
    private static final int SIGNED = -1000000001;

    public static void main(String[] args) {
        Checks.test("promise 13: beat", RunningTest::beat);
        Checks.test("promise 14: stands", RunningTest::stands);
        Checks.test("promise 15: run", RunningTest::run);
        Checks.test("promise 15: run, nobody there", RunningTest::nobody);
        Checks.test("promise 15: run, what is asked only if one beats the other", RunningTest::choices);
        Checks.test("promise 16: ask", RunningTest::ask);
        Checks.test("promise 17: wonBy", RunningTest::wonBy);
        Checks.test("promise 18: why, PLAIN and DEEP", RunningTest::plainAndDeep);
        Checks.test("promise 18: why, SOME", RunningTest::some);
        Checks.test("promise 18: why, SOME by how many steps", RunningTest::steps);
        Checks.test("promise 18: why, PARTY", RunningTest::party);
        Checks.test("promise 18: why, BOUGHT", RunningTest::bought);
        Checks.test("promise 18: why, MIXED", RunningTest::mixed);
        Checks.test("promise 18: why, refusals", RunningTest::whyRefusals);
        Checks.test("promise 19: ifAll", RunningTest::ifAll);
        Checks.test("promise 20: parts", RunningTest::parts);
        Checks.end();
    }

    private static void beat() {
        QuestionDesk x = new QuestionDesk();
        Checks.due("nobody", x.beat(0, 6), 0);
        Desks.member(x, 0, 30, "0550001");
        Desks.member(x, 1, 20, "1055000");
        Desks.member(x, 4, 90, "5555555");
        Checks.due("beat(0, 1)", x.beat(0, 1), 1);
        Checks.due("beat(1, 0)", x.beat(1, 0), -1);
        Checks.due("beat(6, 5)", x.beat(6, 5), -3);
        Checks.due("beat(5, 6)", x.beat(5, 6), 3);
        Checks.due("beat(4, 4)", x.beat(4, 4), 0);
        Checks.due("beat(0, 3)", x.beat(0, 3), 2);
        int[][] wrong = {{7, 0}, {0, 7}, {-1, 0}, {0, -1}};
        for (int[] w : wrong) {
            Checks.due("wrong", x.beat(w[0], w[1]), SIGNED);
        }
    }

    private static void stands() {
        QuestionDesk x = new QuestionDesk();
        Desks.member(x, 5, 10, "0011");
        Checks.due("by a voice", x.stands(2, 0), 0);
        Checks.due("by a voice", x.stands(1, 3), 1);
        Checks.due("the lesser", x.stands(1, 0), 0);
        Checks.due("the lesser", x.stands(2, 3), 2);
        x.set(1, 1);
        Checks.due("the greater", x.stands(1, 0), 1);
        Checks.due("the greater", x.stands(2, 3), 3);
        Checks.due("by a voice", x.stands(0, 3), 0);
        Checks.due("one", x.stands(6, 6), 6);
        int[][] wrong = {{7, 0}, {0, 7}, {-1, 0}, {0, -1}};
        for (int[] w : wrong) {
            Checks.due("wrong", x.stands(w[0], w[1]), -1);
        }
    }

    private static void run() {
        QuestionDesk x = Desks.round();
        Checks.due("((0v1)v2)", x.run(Desks.tree(x, "((0v1)v2)")), 2);
        Checks.due("((1v0)v2)", x.run(Desks.tree(x, "((1v0)v2)")), 0);
        Checks.due("1", x.run(Desks.tree(x, "1")), 1);
        Checks.due("(2v(0v1))", x.run(Desks.tree(x, "(2v(0v1))")), 2);
        Checks.due("(2v(1v0))", x.run(Desks.tree(x, "(2v(1v0))")), 0);
        Checks.due("no tree", x.run(5), -1);
        Checks.due("no tree", x.run(-1), -1);
    }

    private static void nobody() {
        QuestionDesk x = new QuestionDesk();
        int a = Desks.tree(x, "(1v0)");
        int b = Desks.tree(x, "((2v0)v1)");
        int c = Desks.tree(x, "((1v0)v(1v2))");
        Checks.due("the lesser name", x.run(a), 0);
        Checks.due("the lesser name, not what comes", x.ask(b, 0, 0), 1);
        Checks.due("of like names the first", x.run(c), 0);
        x.set(1, 1);
        Checks.due("the greater name", x.run(a), 1);
        Checks.due("the greater name", x.run(b), 2);
        Checks.due("of like names the first", x.run(c), 1);
    }

    private static void choices() {
        QuestionDesk x = Desks.round();
        Checks.due("0 beats 1", x.run(Desks.tree(x, "{0>1:2/0}")), 2);
        Checks.due("1 does not beat 0", x.run(Desks.tree(x, "{1>0:2/0}")), 0);
        Checks.due("none beats itself", x.run(Desks.tree(x, "{1>1:2/0}")), 0);
        Checks.due("in a question", x.run(Desks.tree(x, "({0>1:(1v0)/2}v2)")), 0);
        int t = Desks.tree(x, "{0>1:2/(1v0)}");
        Checks.due("a question that is not asked is settled", x.ask(t, 0, 0), 1);
        x.set(1, 1);
        int tie = Desks.tree(x, "{0>2:1/2}");
        x.wish(0, 0, 2);
        x.wish(1, 0, 1);
        Desks.member(x, 0, 10, "210");
        Checks.due("0 against 2", x.beat(0, 2), -2);
        Checks.due("not taken", x.run(tie), 2);
    }

    private static void ask() {
        QuestionDesk x = Desks.round();
        int t = Desks.tree(x, "((1v0)v(2v{0>1:(1v2)/0}))");
        int[][] due = {{0, 0, 1}, {1, 1, 0}, {1, 2, 1}, {0, 1, 2}};
        // Names 1 and 2: 1 beats 2. Then 0 beats 1. Then names 2 and 1: 1 wins. Then 1 beats 2.
        for (int q = 0; q < 4; q++) {
            for (int what = 0; what < 3; what++) {
                Checks.due("question " + q + " " + what, x.ask(t, q, what), due[q][what]);
            }
        }
        int[][] wrong = {{t + 1, 0, 0}, {-1, 0, 0}, {t, -1, 0}, {t, 4, 0}, {t, 0, -1}, {t, 0, 3}};
        for (int[] w : wrong) {
            Checks.due("wrong", x.ask(w[0], w[1], w[2]), -1);
        }
        int end = Desks.tree(x, "2");
        Checks.due("no question", x.ask(end, 0, 0), -1);
    }

    private static void wonBy() {
        QuestionDesk x = Desks.round();
        Desks.member(x, 0, 50, "001");
        int t = Desks.tree(x, "((0v1)v2)");
        Checks.due("0 against 2", x.wonBy(t, 0), 4);
        Checks.due("0 against 1", x.wonBy(t, 1), 1);
        x.wish(3, 2, 0);
        Checks.due("the fourth votes for none", x.wonBy(t, 0), -1);
        Checks.due("wrong", x.wonBy(t, 2), SIGNED);
        Checks.due("wrong", x.wonBy(t, -1), SIGNED);
        Checks.due("wrong", x.wonBy(t + 1, 0), SIGNED);
        Checks.due("wrong", x.wonBy(-1, 0), SIGNED);
    }

    private static void plainAndDeep() {
        QuestionDesk x = Desks.round();
        int t = Desks.tree(x, "((1v0)v2)");
        int[] plain = {1, 1, -1};
        int[] deep = {1, -1, -1};
        for (int m = 0; m < 3; m++) {
            Checks.due("PLAIN", x.why(t, 0, m), plain[m]);
            x.becomes(m, 10);
            Checks.due("DEEP", x.why(t, 0, m), deep[m]);
            x.becomes(m, 0);
        }
        x.wish(0, 1, 2);
        Checks.due("alike", x.why(t, 0, 0), 0);
        x.member(0, 90);
        x.wish(3, 1, 6);
        Checks.due("nine voices", x.why(t, 0, 3), -9);
    }

    private static void some() {
        QuestionDesk x = Desks.round();
        int t = Desks.tree(x, "((1v0)v2)");
        x.becomes(1, 20);
        Checks.due("no steps: the name", x.why(t, 0, 1), 1);
        x.becomes(1, 21);
        Checks.due("a step: 0 beats 1", x.why(t, 0, 1), -1);
        x.becomes(2, 40);
        x.bought(2, 1);
        Checks.due("1 comes of the first part now", x.ask(t, 0, 1), 1);
        Checks.due("but a step sees what beats", x.why(t, 0, 1), -1);
        x.becomes(1, 10);
        Checks.due("a DEEP one what comes", x.why(t, 0, 1), 1);
    }

    private static void steps() {
        QuestionDesk x = new QuestionDesk();
        x.set(0, 7);
        // One with nine voices likes the greater ends more, so that these beat the lesser ones.
        Desks.member(x, 0, 90, "6543210");
        x.member(2, 10);
        int t = Desks.tree(x, "(((0v(1v(2v(3v4))))v0)v6)");
        int[] seen = {0, 0, 1, 2, 3, 4};
        for (int d = 0; d <= 5; d++) {
            x.becomes(1, 20 + d);
            Checks.due(d + " steps see " + seen[d], voteOfOneWhoLikes(x, t, seen[d]), 1);
            x.wish(1, seen[d], 2);
            Checks.due(d + " steps see nothing else", x.why(t, 0, 1), -1);
        }
        int u = Desks.tree(x, "({0>1:6/{0>1:6/(0v(1v2))}}v6)");
        for (int d = 0; d <= 2; d++) {
            x.becomes(1, 20 + d);
            Checks.due("a { } takes no step, " + d, voteOfOneWhoLikes(x, u, d), 1);
        }
        int v = Desks.tree(x, "((3v3)v6)");
        x.becomes(1, 21);
        Checks.due("the first, if they are one", voteOfOneWhoLikes(x, v, 3), 1);
    }

    /** Of member 1 in question 0, if it likes an end, then 6, then the others. */
    private static int voteOfOneWhoLikes(QuestionDesk x, int t, int liked) {
        for (int end = 0; end < 7; end++) {
            x.wish(1, end, end == 6 ? 1 : end == liked ? 0 : 2);
        }
        return x.why(t, 0, 1);
    }

    private static void party() {
        QuestionDesk x = new QuestionDesk();
        int t = Desks.tree(x, "(0v1)");
        Desks.member(x, 3, 21, "01");
        Desks.member(x, 3, 11, "10");
        Desks.member(x, 3, 92, "10");
        Checks.due("as the greater part", x.why(t, 0, 0), 2);
        Checks.due("as the greater part", x.why(t, 0, 1), 1);
        Checks.due("another party", x.why(t, 0, 2), -9);
        Checks.due("all", x.wonBy(t, 0), -6);
        Desks.member(x, 3, 11, "10");
        for (int m = 0; m < 4; m++) {
            Checks.due("none of them votes", x.why(t, 0, m), m == 2 ? -9 : 0);
        }
        int u = Desks.tree(x, "((1v0)v(0v1))");
        x.becomes(2, 31);
        Checks.due("by names", x.why(u, 0, 0), 2);
        Checks.due("by names", x.why(u, 0, 2), 9);
    }

    private static void bought() {
        QuestionDesk x = new QuestionDesk();
        int t = Desks.tree(x, "(0v1)");
        int u = Desks.tree(x, "((0v2)v(1v2))");
        int v = Desks.tree(x, "({0>1:0/2}v1)");
        Desks.member(x, 3, 11, "01");
        Desks.member(x, 4, 21, "10");
        x.bought(1, 2);
        Checks.due("in no part: as party", x.why(t, 0, 1), -2);
        Checks.due("the party counts it", x.why(t, 0, 0), -1);
        Checks.due("in both parts: as party", x.why(u, 0, 1), -2);
        Checks.due("where it stands, if not taken too", x.why(v, 0, 1), 2);
        Checks.due("in a question in the part", x.why(u, 1, 1), -2);
        x.bought(1, 0);
        Checks.due("in the first part", x.why(t, 0, 1), 2);
        Checks.due("in a question that is the first part", x.why(u, 0, 1), 2);
        Checks.due("the party counts it as PLAIN", x.why(t, 0, 0), -1);
        x.bought(1, 1);
        Checks.due("in the second part", x.why(u, 0, 1), -2);
        x.becomes(1, 42);
        Checks.due("of another party", x.why(t, 0, 0), 1);
    }

    private static void mixed() {
        QuestionDesk x = new QuestionDesk();
        int t = Desks.tree(x, "((1v0)v2)");
        Desks.member(x, 0, 30, "012");
        Desks.member(x, 5, 30, "201");
        Desks.member(x, 0, 30, "120");
        Checks.due("one voice as PLAIN, two as DEEP", x.why(t, 0, 1), -1);
        Checks.due("all as one", x.why(t, 1, 1), 3);
        x.wish(1, 0, 1);
        Checks.due("the DEEP ones for none", x.why(t, 0, 1), 1);
        x.wish(1, 0, 2);
        x.wish(1, 1, 1);
        Checks.due("the PLAIN ones for none", x.why(t, 0, 1), -2);
        Desks.member(x, 5, 10, "201");
        Checks.due("one voice is DEEP", x.why(t, 0, 3), -1);
    }

    private static void whyRefusals() {
        QuestionDesk x = Desks.round();
        int t = Desks.tree(x, "(0v1)");
        int[][] wrong = {{t + 1, 0, 0}, {-1, 0, 0}, {t, 1, 0}, {t, -1, 0}, {t, 0, 3}, {t, 0, -1}};
        for (int[] w : wrong) {
            Checks.due("wrong", x.why(w[0], w[1], w[2]), SIGNED);
        }
    }

    private static void ifAll() {
        QuestionDesk x = Desks.round();
        int t = Desks.tree(x, "((1v0)v2)");
        x.becomes(0, 32);
        x.becomes(1, 25);
        x.becomes(2, 40);
        Checks.due("all PLAIN", x.ifAll(t, 0), 0);
        Checks.due("all DEEP", x.ifAll(t, 1), 2);
        Checks.due("they are as they were", x.about(0, 0) * 100 + x.about(1, 0) * 10 + x.about(2, 0), 324);
        QuestionDesk y = new QuestionDesk();
        int u = Desks.tree(y, "(0v1)");
        Desks.member(y, 4, 10, "01");
        y.bought(0, 1);
        Checks.due("bought", y.run(u), 1);
        Checks.due("PLAIN, not bought", y.ifAll(u, 0), 0);
        Checks.due("DEEP, not bought", y.ifAll(u, 1), 0);
        Checks.due("kind", x.ifAll(t, 2), -1);
        Checks.due("kind", x.ifAll(t, -1), -1);
        Checks.due("no tree", x.ifAll(t + 1, 0), -1);
        Checks.due("no tree", x.ifAll(-1, 0), -1);
    }

    private static void parts() {
        QuestionDesk x = Desks.round();
        Checks.due("the first", x.parts(Desks.tree(x, "((1v0)v2)")), 0);
        Checks.due("none", x.parts(Desks.tree(x, "((0v1)v2)")), -4);
        Checks.due("no question", x.parts(Desks.tree(x, "0")), -4);
        Checks.due("one that is not asked", x.parts(Desks.tree(x, "{0>1:(0v1)/((1v0)v2)}")), 1);
        Checks.due("further in", x.parts(Desks.tree(x, "(2v((1v0)v2))")), 1);
        Checks.due("no tree", x.parts(5), -1);
        Checks.due("no tree", x.parts(-1), -1);
    }
}
