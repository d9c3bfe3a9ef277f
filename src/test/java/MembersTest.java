/** Promises 1 to 9: a new object, ends, members. */
public final class MembersTest {
    public static void main(String[] args) {
        Checks.test("promise 1: a new object", MembersTest::newObject);
        Checks.test("promise 2: set", MembersTest::set);
        Checks.test("promise 3: member", MembersTest::member);
        Checks.test("promise 3: member, numbers of each kind", MembersTest::memberNumbers);
        Checks.test("promise 3: member, no room", MembersTest::memberRoom);
        Checks.test("promise 4: bought", MembersTest::bought);
        Checks.test("promise 5: becomes", MembersTest::becomes);
        Checks.test("promise 6: wish", MembersTest::wish);
        Checks.test("promise 7: doubted", MembersTest::doubted);
        Checks.test("promise 8: sure", MembersTest::sure);
        Checks.test("promise 9: about", MembersTest::about);
        Checks.end();
    }

    private static void newObject() {
        QuestionDesk x = new QuestionDesk();
        Checks.due("ends", x.count(0), 3);
        for (int what = 1; what <= 6; what++) {
            Checks.due("count " + what, x.count(what), 0);
        }
        for (int d = 0; d < 8; d++) {
            Checks.due("heft of a bare shelf", x.heft(d), -11);
        }
        Checks.due("no image", x.restore(), -3);
        Checks.due("no tree", x.run(0), -1);
        Checks.due("no member", x.about(0, 0), -1);
    }

    private static void set() {
        QuestionDesk x = new QuestionDesk();
        Checks.due("set(0, 7)", x.set(0, 7), 3);
        Checks.due("set(0, 1)", x.set(0, 1), 7);
        Checks.due("set(0, 4)", x.set(0, 4), 1);
        Checks.due("set(1, 1)", x.set(1, 1), 0);
        Checks.due("set(1, 1)", x.set(1, 1), 1);
        int[][] wrong = {{0, 0}, {0, 8}, {0, -1}, {1, 2}, {1, -1}, {2, 1}, {-1, 1}, {0, Integer.MIN_VALUE}};
        for (int[] w : wrong) {
            Checks.due("set(" + w[0] + ", " + w[1] + ")", x.set(w[0], w[1]), -1);
        }
        Checks.due("ends still", x.count(0), 4);
        Checks.due("chair still", x.set(1, 0), 1);
    }

    private static void member() {
        QuestionDesk x = new QuestionDesk();
        Checks.due("member(0, 10)", x.member(0, 10), 0);
        Checks.due("member(2, 95)", x.member(2, 95), 1);
        Checks.due("voices", x.about(1, 1), 9);
        Checks.due("number", x.about(1, 2), 5);
        Checks.due("wish at first", x.wish(1, 6, 0), 5);
        Checks.due("doubted wish at first", x.doubted(1, 6, 0), 5);
        Checks.due("chance at first", x.sure(1, 1), 0);
        int[][] wrong = {{-1, 10}, {6, 10}, {0, 9}, {0, 0}, {0, 100}, {0, -10}, {0, Integer.MIN_VALUE}, {0, Integer.MAX_VALUE}};
        for (int[] w : wrong) {
            Checks.due("member(" + w[0] + ", " + w[1] + ")", x.member(w[0], w[1]), -1);
        }
        Checks.due("members still", x.count(2), 2);
    }

    private static void memberNumbers() {
        int[] most = {0, 0, 5, 2, 2, 0};
        for (int kind = 0; kind < 6; kind++) {
            for (int number = 0; number < 10; number++) {
                QuestionDesk x = new QuestionDesk();
                long want = number <= most[kind] ? 0 : -1;
                Checks.due("member(" + kind + ", " + (20 + number) + ")", x.member(kind, 20 + number), want);
                Checks.due("members", x.count(2), want + 1);
            }
        }
    }

    private static void memberRoom() {
        QuestionDesk x = new QuestionDesk();
        for (int m = 0; m < 9; m++) {
            Checks.due("member", x.member(m % 6, 10), m);
        }
        Checks.due("a tenth", x.member(0, 10), -2);
        Checks.due("a tenth that is none", x.member(6, 10), -1);
        Checks.due("members still", x.count(2), 9);
    }

    private static void bought() {
        QuestionDesk x = new QuestionDesk();
        x.member(4, 10);
        x.member(3, 10);
        Checks.due("at first", x.bought(0, 6), 0);
        Checks.due("then", x.bought(0, 3), 6);
        Checks.due("no end", x.bought(0, 7), -1);
        Checks.due("no end", x.bought(0, -1), -1);
        Checks.due("no member", x.bought(2, 0), -1);
        Checks.due("no member", x.bought(-1, 0), -1);
        Checks.due("none", x.bought(1, 2), -3);
        Checks.due("none, and no end", x.bought(1, 7), -1);
        Checks.due("still", x.bought(0, 0), 3);
        x.becomes(1, 40);
        Checks.due("nothing was told to the other", x.bought(1, 0), 0);
    }

    private static void becomes() {
        QuestionDesk x = new QuestionDesk();
        x.member(4, 21);
        x.wish(0, 3, 8);
        x.sure(0, 40);
        x.bought(0, 5);
        Checks.due("becomes SOME", x.becomes(0, 25), 4);
        Checks.due("becomes SOME again", x.becomes(0, 20), 2);
        Checks.due("number", x.about(0, 2), 0);
        Checks.due("becomes PARTY", x.becomes(0, 32), 2);
        Checks.due("number", x.about(0, 2), 2);
        Checks.due("becomes MIXED", x.becomes(0, 50), 3);
        Checks.due("becomes PLAIN", x.becomes(0, 0), 5);
        Checks.due("becomes DEEP", x.becomes(0, 10), 0);
        int[] wrong = {1, 11, 26, 33, 43, 51, 60, 99, -1, -10, Integer.MIN_VALUE, Integer.MAX_VALUE};
        for (int told : wrong) {
            Checks.due("becomes(0, " + told + ")", x.becomes(0, told), -1);
        }
        Checks.due("no member", x.becomes(1, 0), -1);
        Checks.due("no member", x.becomes(-1, 0), -1);
        Checks.due("still DEEP", x.about(0, 0), 1);
        Checks.due("becomes BOUGHT", x.becomes(0, 42), 1);
        Checks.due("the end has stayed", x.bought(0, 0), 5);
        Checks.due("voices have stayed", x.about(0, 1), 2);
        Checks.due("chance has stayed", x.about(0, 4), 40);
        Checks.due("wishes have stayed", x.wish(0, 3, 0), 8);
    }

    private interface Told {
        int tell(int member, int end, int n);
    }

    private static void likeWishes(Told x) {
        for (int end = 0; end < 7; end++) {
            Checks.due("at first", x.tell(0, end, end), 5);
            Checks.due("then", x.tell(0, end, 9), end);
            Checks.due("then", x.tell(0, end, 0), 9);
        }
        Checks.due("another", x.tell(1, 0, 1), 5);
        int[][] wrong = {{-1, 0, 0}, {2, 0, 0}, {0, -1, 0}, {0, 7, 0}, {0, 0, -1}, {0, 0, 10}};
        for (int[] w : wrong) {
            Checks.due("wrong", x.tell(w[0], w[1], w[2]), -1);
        }
        Checks.due("still", x.tell(0, 0, 2), 0);
    }

    private static void wish() {
        QuestionDesk x = new QuestionDesk();
        x.member(0, 10);
        x.member(5, 10);
        likeWishes(x::wish);
        Checks.due("doubted ones are others", x.doubted(0, 0, 4), 5);
    }

    private static void doubted() {
        QuestionDesk x = new QuestionDesk();
        x.member(0, 10);
        x.member(5, 10);
        likeWishes(x::doubted);
        Checks.due("wishes are others", x.wish(0, 0, 4), 5);
    }

    private static void sure() {
        QuestionDesk x = new QuestionDesk();
        x.member(0, 10);
        Checks.due("at first", x.sure(0, 100), 0);
        Checks.due("then", x.sure(0, 0), 100);
        Checks.due("then", x.sure(0, 55), 0);
        Checks.due("wrong", x.sure(0, 101), -1);
        Checks.due("wrong", x.sure(0, -1), -1);
        Checks.due("wrong", x.sure(1, 0), -1);
        Checks.due("wrong", x.sure(-1, 0), -1);
        Checks.due("still", x.about(0, 4), 55);
    }

    private static void about() {
        QuestionDesk x = new QuestionDesk();
        int[] numbers = {0, 0, 4, 2, 1, 0};
        int[] hefts = {7, 8, 12, 14, 13, 3};
        for (int kind = 0; kind < 6; kind++) {
            x.member(kind, 70 + numbers[kind]);
            x.sure(kind, 10 * kind);
            Checks.due("kind", x.about(kind, 0), kind);
            Checks.due("voices", x.about(kind, 1), 7);
            Checks.due("number", x.about(kind, 2), numbers[kind]);
            Checks.due("heft", x.about(kind, 3), hefts[kind]);
            Checks.due("chance", x.about(kind, 4), 10 * kind);
        }
        Checks.due("wrong", x.about(0, 5), -1);
        Checks.due("wrong", x.about(0, -1), -1);
        Checks.due("wrong", x.about(6, 0), -1);
        Checks.due("wrong", x.about(-1, 0), -1);
    }
}
