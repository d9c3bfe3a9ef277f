/** Promises 21 to 25: orders. */
public final class OrdersTest {
    public static void main(String[] args) {
        Checks.test("promise 21: order", OrdersTest::order);
        Checks.test("promise 21: order, refusals", OrdersTest::orderRefusals);
        Checks.test("promise 22: reach", OrdersTest::reach);
        Checks.test("promise 23: first", OrdersTest::first);
        Checks.test("promise 23: first, seven ends", OrdersTest::firstOfSeven);
        Checks.test("promise 24: best", OrdersTest::best);
        Checks.test("promise 25: top", OrdersTest::top);
        Checks.test("promise 22: reach, seven ends of which one is neither covered nor comes", OrdersTest::reachOfSeven);
        Checks.test("promises 21 to 25, 34: all ways of beating among five", OrdersTest::allOfFive);
        Checks.end();
    }

    private static void order() {
        QuestionDesk x = Desks.round();
        int[][] rows = {{0, 1, 2}, {0, 2, 1}, {1, 0, 2}, {1, 2, 0}, {2, 0, 1}, {2, 1, 0}};
        int[] plain = {2, 1, 2, 0, 1, 0};
        // Of 0, 1, 2: if 0 stands ahead of 2, 2 comes; if 1 does, 1 comes; and 1 beats 2. The first two may change places.
        int[] deep = {1, 0, 1, 2, 0, 2};
        for (int i = 0; i < 6; i++) {
            Desks.bytes(x, 0, rows[i]);
            Checks.due("PLAIN " + i, x.order(0, false), plain[i]);
            Checks.due("DEEP " + i, x.order(0, true), deep[i]);
        }
        Desks.bytes(x, 0, 1, 2);
        Checks.due("two of three", x.order(0, false), 1);
        Checks.due("two of three", x.order(0, true), 1);
        x.set(1, 1);
        x.set(0, 7);
        Desks.bytes(x, 0, 3, 6, 4, 5);
        Checks.due("alike, the greater", x.order(0, false), 6);
        Checks.due("alike, the greater", x.order(0, true), 6);
    }

    private static void orderRefusals() {
        QuestionDesk x = Desks.round();
        for (int b = 0; b < 2; b++) {
            boolean deep = b == 1;
            Checks.due("no shelf", x.order(8, deep), -1);
            Checks.due("no shelf", x.order(-1, deep), -1);
            x.keep(0, 0, 0);
            Checks.due("nothing", x.order(0, deep), -11);
            x.keep(0, 1, 0);
            Checks.due("a member", x.order(0, deep), -12);
            x.row(0, 1, 2);
            Checks.due("shorts", x.order(0, deep), -12);
            x.row(0, 2, 2);
            Checks.due("ints", x.order(0, deep), -12);
            int[][] wrong = {{}, {0}, {0, 0}, {0, 3}, {0, -1}, {3, 0}, {0, 1, 0}, {0, 1, 2, 0}, {0, 1, 2, 3}, {0, 127}};
            for (int[] w : wrong) {
                Desks.bytes(x, 0, w);
                Checks.due("no order", x.order(0, deep), -13);
            }
            x.row(0, 0, 120);
            Checks.due("a long row", x.order(0, deep), -13);
            x.set(0, 1);
            x.row(0, 0, 1);
            Checks.due("one end", x.order(0, deep), -13);
            x.set(0, 3);
        }
    }

    private static void reach() {
        QuestionDesk x = Desks.round();
        Checks.due("PLAIN", x.reach(false), 7);
        Checks.due("DEEP", x.reach(true), 7);
        x.set(0, 2);
        Checks.due("of two", x.reach(false), 1);
        Checks.due("of two", x.reach(true), 1);
        x.set(0, 1);
        Checks.due("of one", x.reach(false), 1);
        Checks.due("of one", x.reach(true), 1);
        QuestionDesk y = fourOfWhomOneIsCovered();
        Checks.due("PLAIN", y.reach(false), 15);
        Checks.due("DEEP", y.reach(true), 7);
    }

    /** 0 beats 1, 1 beats 2, 2 beats 0; 3 loses to 0 and 1, and beats 2. */
    private static QuestionDesk fourOfWhomOneIsCovered() {
        QuestionDesk x = new QuestionDesk();
        x.set(0, 4);
        Desks.member(x, 0, 10, "0132");
        Desks.member(x, 0, 10, "3021");
        Desks.member(x, 0, 10, "1302");
        int[][] due = {{0, 1, 1}, {1, 2, 1}, {2, 0, 1}, {0, 3, 1}, {1, 3, 1}, {3, 2, 1}};
        for (int[] d : due) {
            Checks.due("beat " + d[0] + " " + d[1], x.beat(d[0], d[1]), d[2]);
        }
        return x;
    }

    private static int code(int... row) {
        int sum = 0;
        for (int i = row.length - 1; i >= 0; i--) {
            sum = 8 * sum + row[i];
        }
        return sum;
    }

    private static void first() {
        QuestionDesk x = Desks.round();
        Checks.due("PLAIN 0", x.first(0, false), code(1, 2, 0));
        Checks.due("PLAIN 1", x.first(1, false), code(0, 2, 1));
        Checks.due("PLAIN 2", x.first(2, false), code(0, 1, 2));
        Checks.due("DEEP 0", x.first(0, true), code(0, 2, 1));
        Checks.due("DEEP 1", x.first(1, true), code(0, 1, 2));
        Checks.due("DEEP 2", x.first(2, true), code(1, 2, 0));
        QuestionDesk y = fourOfWhomOneIsCovered();
        Checks.due("PLAIN 3", y.first(3, false), code(0, 1, 2, 3));
        Checks.due("DEEP 3", y.first(3, true), -4);
        Checks.due("not there", y.first(4, false), -1);
        Checks.due("not there", y.first(6, true), -1);
        Checks.due("no end", y.first(7, true), -1);
        Checks.due("no end", y.first(-1, false), -1);
        y.set(0, 1);
        Checks.due("of one", y.first(0, false), 0);
        Checks.due("of one", y.first(0, true), 0);
        Checks.due("not there", y.first(1, true), -1);
    }

    private static void firstOfSeven() {
        QuestionDesk x = new QuestionDesk();
        x.set(0, 7);
        Desks.member(x, 1, 10, "6543210");
        for (int b = 0; b < 2; b++) {
            Checks.due("the one that beats all", x.first(6, b == 1), code(0, 1, 2, 3, 4, 5, 6));
            Checks.due("another", x.first(5, b == 1), -4);
        }
    }

    private static void reachOfSeven() {
        String[] wishes = {"3465120", "5316240", "1403256", "0132654", "2561304"};
        QuestionDesk x = new QuestionDesk();
        Model model = new Model();
        x.set(0, 7);
        model.set(0, 7);
        for (int m = 0; m < 5; m++) {
            Desks.member(x, 0, 10, wishes[m]);
            model.member(0, 10);
            for (int end = 0; end < 7; end++) {
                model.wish(m, end, wishes[m].charAt(end) - '0');
            }
        }
        Checks.due("TOP", x.top(0), 127);
        Checks.due("PLAIN", x.reach(false), 127);
        Checks.due("UNCOVERED", x.top(1), 115);
        Checks.due("DEEP", x.reach(true), 113);
        Checks.due("the model's", model.reach(true), 113);
        for (int end = 0; end < 7; end++) {
            Checks.due("first " + end, x.first(end, true), model.first(end, true));
            Checks.due("first " + end, x.first(end, false), model.first(end, false));
            Checks.due("ring " + end, x.ring(end), model.ring(end));
        }
    }

    private static void best() {
        QuestionDesk x = Desks.round();
        Checks.due("none", x.best(), -4);
        x.set(0, 2);
        Checks.due("of two", x.best(), 0);
        x.set(0, 1);
        Checks.due("of one", x.best(), 0);
        QuestionDesk y = new QuestionDesk();
        Checks.due("nobody there: the lesser", y.best(), 0);
        y.set(1, 1);
        Checks.due("nobody there: the greater", y.best(), 2);
        y.set(0, 7);
        Checks.due("nobody there: the greater", y.best(), 6);
        Desks.member(y, 0, 10, "5555055");
        Checks.due("the one that is liked", y.best(), 4);
    }

    private static void top() {
        QuestionDesk x = Desks.round();
        Checks.due("TOP", x.top(0), 7);
        Checks.due("UNCOVERED", x.top(1), 7);
        x.set(0, 1);
        Checks.due("of one", x.top(0), 1);
        Checks.due("of one", x.top(1), 1);
        QuestionDesk y = fourOfWhomOneIsCovered();
        Checks.due("TOP", y.top(0), 15);
        Checks.due("3 is covered by 1", y.top(1), 7);
        Checks.due("what", y.top(2), -1);
        Checks.due("what", y.top(-1), -1);
        QuestionDesk z = new QuestionDesk();
        z.set(1, 1);
        Checks.due("the greatest alone", z.top(0), 4);
        Checks.due("the greatest alone", z.top(1), 4);
    }

    /** Members with wishes for just one pair make any way of beating. */
    private static void allOfFive() {
        int[][] pairs = {{0, 1}, {0, 2}, {0, 3}, {0, 4}, {1, 2}, {1, 3}, {1, 4}, {2, 3}, {2, 4}, {3, 4}};
        Model model = new Model();
        int made = 0;
        java.util.Random dice = new java.util.Random(11);
        java.util.Set<Integer> met = new java.util.HashSet<>();
        for (int round = 0; round < 3000 && made < 400; round++) {
            QuestionDesk x = new QuestionDesk();
            model = new Model();
            x.set(0, 5);
            model.set(0, 5);
            for (int m = 0; m < 3; m++) {
                x.member(0, 10);
                model.member(0, 10);
                for (int end = 0; end < 5; end++) {
                    int n = dice.nextInt(10);
                    x.wish(m, end, n);
                    model.wish(m, end, n);
                }
            }
            int way = 0;
            for (int[] p : pairs) {
                way = 2 * way + (x.stands(p[0], p[1]) == p[0] ? 1 : 0);
            }
            if (!met.add(way)) {
                continue;
            }
            made++;
            Checks.due("best", x.best(), model.best());
            for (int what = 0; what < 2; what++) {
                Checks.due("top " + what, x.top(what), model.top(what));
                Checks.due("reach " + what, x.reach(what == 1), model.reach(what == 1));
                for (int end = 0; end < 5; end++) {
                    Checks.due("first " + end + " " + what, x.first(end, what == 1), model.first(end, what == 1));
                }
            }
            for (int i = 0; i < 7; i++) {
                Checks.due("ring " + i, x.ring(i), model.ring(i));
            }
        }
        Checks.holds("many ways were met: " + made, made >= 250);
    }
}
