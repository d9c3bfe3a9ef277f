/** Promises 41 to 47: shelves. */
public final class ShelvesTest {
    public static void main(String[] args) {
        Checks.test("promise 41: keep", ShelvesTest::keep);
        Checks.test("promise 42: row", ShelvesTest::row);
        Checks.test("promise 43: put", ShelvesTest::put);
        Checks.test("promise 43: put, lowest bits", ShelvesTest::lowestBits);
        Checks.test("promise 44: element", ShelvesTest::element);
        Checks.test("promise 45: copy", ShelvesTest::copy);
        Checks.test("promise 45: copy, onto itself", ShelvesTest::copyOntoItself);
        Checks.test("promise 45: copy, refusals", ShelvesTest::copyRefusals);
        Checks.test("promise 46: heft", ShelvesTest::heft);
        Checks.test("promise 47: toss", ShelvesTest::toss);
        Checks.end();
    }

    private static void keep() {
        QuestionDesk x = new QuestionDesk();
        x.member(1, 20);
        for (int d = 0; d < 8; d++) {
            Checks.due("a member", x.keep(d, 1, 0), 0);
            Checks.due("is there", x.heft(d), 3);
        }
        Checks.due("nothing, whatever k is", x.keep(3, 0, -77), 0);
        Checks.due("nothing", x.heft(3), -11);
        int[][] wrong = {{8, 0, 0}, {-1, 0, 0}, {8, 1, 0}, {0, 2, 0}, {0, -1, 0}, {0, 1, 1}, {0, 1, -1}};
        for (int[] w : wrong) {
            Checks.due("wrong", x.keep(w[0], w[1], w[2]), -1);
        }
        Checks.due("still there", x.heft(0), 3);
        x.row(4, 0, 2);
        Checks.due("in place of a row", x.keep(4, 1, 0), 0);
        Checks.due("put", x.put(4, 0, 0), -12);
        Checks.due("nothing in place of nothing", x.keep(3, 0, 0), 0);
    }

    private static void row() {
        QuestionDesk x = new QuestionDesk();
        x.member(0, 10);
        for (int sort = 0; sort < 3; sort++) {
            Checks.due("none", x.row(sort, sort, 0), 0);
            Checks.due("no place", x.put(sort, 0, 1), -13);
            Checks.due("most", x.row(sort, sort, 120), 0);
            Checks.due("last place", x.put(sort, 119, 9), 0);
            Checks.due("no place", x.put(sort, 120, 9), -13);
            Checks.due("at first", x.element(sort, 118), 0);
            Checks.due("last", x.element(sort, 119), 9);
        }
        int[][] wrong = {{0, 0, 121}, {0, 3, 1}, {0, -1, 1}, {8, 0, 1}, {-1, 0, 1}, {0, 3, -1}, {8, 0, -1}, {0, 0, Integer.MAX_VALUE}};
        for (int[] w : wrong) {
            Checks.due("wrong", x.row(w[0], w[1], w[2]), -1);
        }
        Checks.due("below 0", x.row(0, 0, -1), -14);
        Checks.due("below 0", x.row(0, 2, Integer.MIN_VALUE), -14);
        Checks.due("still there", x.element(0, 119), 9);
        x.row(0, 2, 120);
        Checks.due("a new row is 0 at first", x.element(0, 119), 0);
        x.keep(1, 1, 0);
        Checks.due("in place of a member", x.row(1, 1, 1), 0);
        Checks.due("heft", x.heft(1), -12);
    }

    private static void put() {
        QuestionDesk x = new QuestionDesk();
        x.member(0, 10);
        x.row(0, 2, 2);
        x.keep(1, 1, 0);
        Checks.due("put", x.put(0, 0, 5), 0);
        Checks.due("put", x.put(0, 1, Integer.MIN_VALUE), 0);
        Checks.due("element", x.element(0, 0), 5);
        Checks.due("element", x.element(0, 1), Integer.MIN_VALUE);
        Checks.due("no shelf", x.put(8, 0, 1), -1);
        Checks.due("no shelf", x.put(-1, 0, 1), -1);
        Checks.due("nothing", x.put(2, 0, 1), -11);
        Checks.due("a member", x.put(1, 0, 1), -12);
        Checks.due("no place", x.put(0, 2, 1), -13);
        Checks.due("no place", x.put(0, -1, 1), -13);
        Checks.due("no place", x.put(0, Integer.MIN_VALUE, 1), -13);
        Checks.due("still", x.element(0, 0), 5);
    }

    private static void lowestBits() {
        QuestionDesk x = new QuestionDesk();
        int[] told = {127, 128, 255, 256, -1, -129, 32767, 32768, 65535, 65536, -32769, Integer.MAX_VALUE, Integer.MIN_VALUE};
        for (int v : told) {
            for (int sort = 0; sort < 3; sort++) {
                x.row(0, sort, 1);
                x.put(0, 0, v);
                Checks.due(v + " in sort " + sort, x.element(0, 0), sort == 0 ? (byte) v : sort == 1 ? (short) v : v);
            }
        }
    }

    private static String thrown(QuestionDesk x, int d, int i) {
        try {
            return "" + x.element(d, i);
        } catch (IllegalArgumentException | IllegalStateException e) {
            return e.getClass().getSimpleName();
        }
    }

    private static void element() {
        QuestionDesk x = new QuestionDesk();
        x.member(0, 10);
        x.row(0, 1, 3);
        x.put(0, 2, -6);
        x.keep(1, 1, 0);
        x.row(3, 0, 0);
        Object[][] due = {
            {0, 0, "0"}, {0, 2, "-6"}, {0, 3, "IllegalStateException"}, {0, -1, "IllegalStateException"},
            {1, 0, "IllegalStateException"}, {2, 0, "IllegalStateException"}, {3, 0, "IllegalStateException"},
            {8, 0, "IllegalArgumentException"}, {-1, 0, "IllegalArgumentException"}, {8, -1, "IllegalArgumentException"},
            {0, Integer.MAX_VALUE, "IllegalStateException"}, {Integer.MIN_VALUE, 0, "IllegalArgumentException"},
        };
        for (Object[] w : due) {
            String got = thrown(x, (Integer) w[0], (Integer) w[1]);
            Checks.holds("element(" + w[0] + ", " + w[1] + ") is " + got, got.equals(w[2]));
        }
    }

    private static void copy() {
        QuestionDesk x = new QuestionDesk();
        Desks.bytes(x, 0, 1, 2, 3, 4, 5);
        Desks.bytes(x, 1, 11, 12, 13);
        Checks.due("copy", x.copy(0, 2, 1, 1, 2), 2);
        int[] due = {11, 3, 4};
        for (int i = 0; i < 3; i++) {
            Checks.due("element " + i, x.element(1, i), due[i]);
        }
        Checks.due("none, at the ends", x.copy(0, 5, 1, 3, 0), 0);
        Checks.due("all", x.copy(1, 0, 0, 0, 3), 3);
        Checks.due("element", x.element(0, 0), 11);
        Checks.due("element", x.element(0, 3), 4);
        x.row(2, 0, 0);
        Checks.due("none of none", x.copy(2, 0, 2, 0, 0), 0);
    }

    private static void copyOntoItself() {
        QuestionDesk x = new QuestionDesk();
        Desks.bytes(x, 0, 1, 2, 3, 4, 5);
        Checks.due("onwards", x.copy(0, 0, 0, 1, 4), 4);
        int[] due = {1, 1, 2, 3, 4};
        for (int i = 0; i < 5; i++) {
            Checks.due("element " + i, x.element(0, i), due[i]);
        }
        Checks.due("backwards", x.copy(0, 2, 0, 0, 3), 3);
        int[] then = {2, 3, 4, 3, 4};
        for (int i = 0; i < 5; i++) {
            Checks.due("element " + i, x.element(0, i), then[i]);
        }
    }

    private static void copyRefusals() {
        QuestionDesk x = new QuestionDesk();
        x.member(0, 10);
        Desks.bytes(x, 0, 1, 2, 3, 4, 5);
        Desks.bytes(x, 1, 11, 12, 13);
        x.row(2, 1, 9);
        x.keep(3, 1, 0);
        int[][] wrong = {
            {8, 0, 0, 0, 0, -1}, {-1, 0, 0, 0, 0, -1}, {0, 0, 8, 0, 0, -1}, {0, 0, -1, 0, 0, -1}, {4, 0, 8, 0, 0, -1},
            {4, 0, 0, 0, 0, -11}, {0, 0, 4, 0, 0, -11}, {3, 0, 4, 0, 0, -11}, {4, 0, 3, 0, 0, -11},
            {0, 0, 2, 0, 1, -12}, {2, 0, 0, 0, 1, -12}, {3, 0, 0, 0, 1, -12}, {0, 0, 3, 0, 1, -12}, {3, 0, 3, 0, 0, -12},
            {0, 0, 2, 0, -1, -12}, {0, 0, 1, 0, -1, -13}, {0, 0, 1, 0, 4, -13}, {0, 3, 1, 0, 3, -13}, {0, 0, 1, 1, 3, -13},
            {0, 6, 1, 0, 0, -13}, {0, 0, 1, 4, 0, -13}, {0, -1, 1, 0, 1, -13}, {0, 0, 1, -1, 1, -13},
            {0, 1, 1, 1, Integer.MAX_VALUE, -13}, {0, Integer.MAX_VALUE, 1, 0, 1, -13}, {0, 0, 1, Integer.MAX_VALUE, 1, -13},
            {0, 0, 1, 0, Integer.MIN_VALUE, -13}, {0, Integer.MIN_VALUE, 1, 0, 0, -13},
        };
        for (int[] w : wrong) {
            Checks.due(java.util.Arrays.toString(w), x.copy(w[0], w[1], w[2], w[3], w[4]), w[5]);
        }
        for (int i = 0; i < 3; i++) {
            Checks.due("nothing has changed", x.element(1, i), 11 + i);
        }
    }

    private static void heft() {
        QuestionDesk x = new QuestionDesk();
        int[] kinds = {0, 1, 2, 3, 4, 5, 5};
        int[] told = {50, 50, 53, 52, 51, 50, 10};
        int[] due = {5, 6, 9, 10, 9, 2, 0};
        for (int m = 0; m < 7; m++) {
            x.member(kinds[m], told[m]);
            x.keep(m, 1, m);
            Checks.due("heft " + m, x.heft(m), due[m]);
        }
        x.becomes(0, 10);
        Checks.due("as then", x.heft(0), 5);
        x.keep(0, 1, 0);
        Checks.due("kept again", x.heft(0), 6);
        Checks.due("no shelf", x.heft(8), -1);
        Checks.due("no shelf", x.heft(-1), -1);
        Checks.due("nothing", x.heft(7), -11);
        x.row(7, 0, 1);
        Checks.due("a row", x.heft(7), -12);
    }

    private static void toss() {
        QuestionDesk x = new QuestionDesk();
        int[] kinds = {0, 1, 2, 3, 4, 5, 5, 4};
        int[] told = {50, 50, 53, 52, 51, 20, 10, 10};
        int[] due = {0, 1, 2, -15, 104 + 6, 5, -15, 107};
        for (int m = 0; m < 8; m++) {
            x.member(kinds[m], told[m]);
        }
        x.bought(4, 6);
        for (int m = 0; m < 8; m++) {
            x.keep(7 - m, 1, m);
        }
        for (int m = 0; m < 8; m++) {
            Checks.due("toss " + m, x.toss(7 - m), due[m]);
        }
        x.bought(4, 1);
        x.becomes(3, 0);
        Checks.due("as then", x.toss(3), 110);
        Checks.due("as then", x.toss(4), -15);
        x.keep(4, 1, 3);
        Checks.due("kept again", x.toss(4), 3);
        Checks.due("no shelf", x.toss(8), -1);
        Checks.due("no shelf", x.toss(-1), -1);
        x.keep(0, 0, 0);
        Checks.due("nothing", x.toss(0), -11);
        x.row(0, 0, 1);
        Checks.due("a row", x.toss(0), -12);
    }
}
