import java.lang.management.ManagementFactory;

/** What calls make is counted in bytes: 600,000 objects take 16 each at least, so a run that makes less has room. */
public final class RoomTest {
    private static final long ROOM = 16L * 600000;
    private static final int CALLS = 512;
    private static final int KINDS = 24;
    private static final String BIG = "((((0v1)v(2v3))v((4v5)v(6v0)))v(((1v2)v(3v4))v{0>1:(5v6)/(2v3)}))";

    public static void main(String[] args) {
        Checks.test("rule 12: there is room for a hundred new objects", RoomTest::newObject);
        Checks.test("rule 12: there is room for 512 calls that reckon", RoomTest::reckoning);
        Checks.test("rule 12: there is room for 512 trees", RoomTest::trees);
        Checks.end();
    }

    private static long used() {
        com.sun.management.ThreadMXBean bean = (com.sun.management.ThreadMXBean) ManagementFactory.getThreadMXBean();
        return bean.getThreadAllocatedBytes(Thread.currentThread().getId());
    }

    private static void newObject() {
        new QuestionDesk();
        long before = used();
        for (int i = 0; i < 100; i++) {
            new QuestionDesk();
        }
        long each = (used() - before) / 100;
        Checks.holds("bytes of a hundred: " + 100 * each, 100 * each < ROOM);
    }

    private static QuestionDesk busy() {
        QuestionDesk x = new QuestionDesk();
        x.set(0, 7);
        for (int m = 0; m < 9; m++) {
            x.member(m % 6, m % 6 == 2 ? 13 : 10);
            for (int end = 0; end < 7; end++) {
                x.wish(m, end, (end * (m + 2) + m) % 7);
                x.doubted(m, end, (end * (m + 3) + m) % 7);
            }
            x.sure(m, 50);
        }
        Desks.text(x, 0, BIG);
        x.tree(0);
        Desks.bytes(x, 1, 6, 5, 4, 3, 2, 1, 0);
        Desks.text(x, 2, "((0v1)v2)");
        x.tree(2);
        return x;
    }

    private static void allKinds(QuestionDesk x, int round) {
        int end = round % 7;
        x.run(0);
        x.why(0, 3, end);
        x.parts(0);
        x.order(1, true);
        x.reach(true);
        x.first(end, true);
        x.first(end, false);
        x.top(0);
        x.ring(end);
        x.killers(0);
        x.shields(0, end);
        x.tell(0, end);
        x.falseVote(0, 1);
        x.chance(0, end);
        x.boughtOff(0, end);
        x.surely(0, end, 0);
        x.usual(1);
        x.breach(1, 2, 3, true);
        x.image();
        x.restore();
        x.keep(3, 1, end);
        x.row(4, 0, 120);
        x.fault(0);
    }

    private static void reckoning() {
        QuestionDesk x = busy();
        allKinds(x, 0);
        x.bestLie(0, 0, 0);
        long before = used();
        for (int round = 0; round < CALLS / KINDS; round++) {
            allKinds(x, round);
            x.bestLie(0, round % 9, 0);
        }
        long made = used() - before;
        Checks.holds("bytes made: " + made, made < ROOM);
    }

    private static void trees() {
        QuestionDesk x = busy();
        x.image();
        x.tree(0);
        x.restore();
        long before = used();
        for (int round = 0; round < 100; round++) {
            x.tree(0);
            x.restore();
        }
        long each = (used() - before) / 100;
        Checks.holds("bytes of " + CALLS + ": " + CALLS * each, CALLS * each < ROOM);
    }
}
