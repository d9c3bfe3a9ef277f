import java.util.ArrayList;
import java.util.Collections;
import java.util.List;
import java.util.Random;

/** Boundary cases that the document names in section 4 of ORDERS, and in promises 21 to 25, 34, 35, a test a sentence. */
public final class OrderEdgesTest {
    private static final String[] FAR = {"8", "-1", "min", "max"};
    /** Each END BEATS the next one, and all that are two or more below it. */
    private static final String STAIRS = "set(0,7)=3 set(1,1)=0 who:0:10:5634120 who:0:10:6452301 who:0:10:0123456 ";
    /** Each of five BEATS the next two, round and round. */
    private static final String WHEEL = "set(0,5)=3 who:0:10:01234 who:0:10:40123 who:0:10:34012 who:0:10:23401 who:0:10:12340 ";
    /** 0 is liked by all, then 1, and so on. */
    private static final String LINE = "set(0,7)=3 who:0:10:0123456 ";
    /** 1 BEATS 3, 3 BEATS 2, 2 BEATS 1, and all of them BEAT 0. */
    private static final String RING_OF_THREE = "set(0,4)=3 who:0:10:9021 who:0:10:9102 who:0:10:9210 ";

    public static void main(String[] args) {
        orders();
        orderRefusals();
        reaching();
        first();
        best();
        top();
        ring();
        usual();
        chambersOfAllSizes();
        Checks.end();
    }

    private static String both(String call, int plain, int deep) {
        return call.replace("#", "false") + "=" + plain + " " + call.replace("#", "true") + "=" + deep + " ";
    }

    private static String same(String call, int due) {
        return both(call, due, due);
    }

    private static void orders() {
        Script.edge("4: AN ORDER (2 at least): two", "round bytes:0:0,1", same("order(0,#)", 0), "bytes:0:1,0", same("order(0,#)", 0), "bytes:0:2,0", same("order(0,#)", 2));
        Script.edge("4: AN ORDER (2 at least): one or none is none", "round bytes:0:0", same("order(0,#)", -13), "row(0,0,0)=0", same("order(0,#)", -13),
                "set(0,1)=3 bytes:0:0", same("order(0,#)", -13), "bytes:0:0,0", same("order(0,#)", -13));
        Script.edge("4: AN ORDER of unlike ENDS: none twice", "round bytes:0:0,0", same("order(0,#)", -13), "bytes:0:0,1,0", same("order(0,#)", -13), "bytes:0:1,2,2", same("order(0,#)", -13),
                "bytes:0:0,1,2,0", same("order(0,#)", -13));
        Script.edge("4: AN ORDER of all seven ENDS, and one more", LINE, "bytes:0:6,5,4,3,2,1,0", same("order(0,#)", 0), "bytes:0:6,5,4,3,2,1,0,0", same("order(0,#)", -13),
                "row(0,0,120)=0", same("order(0,#)", -13));
        Script.edge("4: AN ORDER need not be of all that are there", LINE, "bytes:0:6,5,4", same("order(0,#)", 4), "bytes:0:2,6", same("order(0,#)", 2));
        Script.edge("4: with PLAIN ones what BEATS stands, to the end", "round bytes:0:0,1,2 order(0,false)=2 bytes:0:1,2,0 order(0,false)=0 bytes:0:2,0,1 order(0,false)=1",
                "bytes:0:0,2,1 order(0,false)=1 bytes:0:1,0,2 order(0,false)=2 bytes:0:2,1,0 order(0,false)=0");
        Script.edge("4: with DEEP ones, from behind", "round bytes:0:0,1,2 order(0,true)=1 bytes:0:1,2,0 order(0,true)=2 bytes:0:2,0,1 order(0,true)=0",
                "bytes:0:0,2,1 order(0,true)=0 bytes:0:1,0,2 order(0,true)=1 bytes:0:2,1,0 order(0,true)=2");
        Script.edge("4: with DEEP ones: x, if there is no i-th: two of them", "round bytes:0:0,2 order(0,true)=2 bytes:0:2,1 order(0,true)=1 bytes:0:1,0 order(0,true)=0");
        Script.edge("4: with DEEP ones (either, if they are one)", LINE, "bytes:0:3,2,1,0 order(0,true)=0 bytes:0:5,6,2 order(0,true)=2");
        Script.edge("4: with DEEP ones: one that BEATS the last, but not what comes of those between", STAIRS, "bytes:0:5,4,2,0", both("order(0,#)", 4, 4), "bytes:0:5,2,0", both("order(0,#)", 5, 5));
        Script.edge("4: ORDERS: at 0 the CHAIR's rule", "bytes:0:2,1,0", same("order(0,#)", 0), "set(1,1)=0", same("order(0,#)", 2));
        Script.edge("4: ORDERS: 7 ENDS of stairs", STAIRS, "bytes:0:0,1,2,3,4,5,6", both("order(0,#)", 6, 5), "bytes:0:6,5,4,3,2,1,0", both("order(0,#)", 0, 6));
    }

    private static void orderRefusals() {
        Script.edge("21: order, no such SHELF", Script.each("order(#,false)=-1 order(#,true)=-1", FAR), "bytes:7:0,1", same("order(7,#)", 0));
        Script.edge("21: order, -11", same("order(0,#)", -11));
        Script.edge("21: order, -12 (no ROW of bytes)", "member(0,10)=0 keep(0,1,0)=0", same("order(0,#)", -12), "row(0,1,2)=0 put(0,1,1)=0", same("order(0,#)", -12),
                "row(0,2,2)=0 put(0,1,1)=0", same("order(0,#)", -12));
        Script.edge("21: order, -13: one that is no END that is there", "bytes:0:0,3", same("order(0,#)", -13), "bytes:0:3,0", same("order(0,#)", -13), "bytes:0:0,-1", same("order(0,#)", -13),
                "bytes:0:-128,127", same("order(0,#)", -13), "set(0,4)=3 bytes:0:0,3", same("order(0,#)", 0), "set(0,3)=4", same("order(0,#)", -13), "bytes:0:0,256", same("order(0,#)", -13),
                "bytes:0:256,1", same("order(0,#)", 0));
        Script.edge("21: order, -13: seven, but one too high", LINE, "bytes:0:0,1,2,3,4,5,7", same("order(0,#)", -13), "bytes:0:7,1", same("order(0,#)", -13));
        Script.edge("21: order, -12 ahead of -13", "row(0,1,1)=0", same("order(0,#)", -12), "row(0,2,0)=0", same("order(0,#)", -12));
    }

    private static void reaching() {
        Script.edge("4: REACH (of one END alone: it)", "set(0,1)=3", same("reach(#)", 1), "who:0:10:9", same("reach(#)", 1), "set(1,1)=0", same("reach(#)", 1));
        Script.edge("4: REACH: of two ENDS the one that BEATS", "set(0,2)=3", same("reach(#)", 1), "set(1,1)=0", same("reach(#)", 2));
        Script.edge("4: REACH of all that are there: no others", "round", same("reach(#)", 7), "set(0,2)=3", same("reach(#)", 1), "set(0,7)=2", same("reach(#)", 7));
        Script.edge("4: REACH: where one BEATS all others, it alone", LINE, same("reach(#)", 1), "wish(0,0,9)=0", same("reach(#)", 2));
        Script.edge("4: REACH (PLAIN, DEEP): all of seven by PLAIN ones, three by DEEP ones", STAIRS, both("reach(#)", 127, 112));
        // By all 5040 ORDERS: 1 is covered by none, but no ORDER brings it.
        Script.edge("4: REACH (DEEP): of seven one that is not covered, and does not come", "set(0,7)=3 who:0:10:3465120 who:0:10:5316240 who:0:10:1403256 who:0:10:0132654 who:0:10:2561304",
                both("reach(#)", 127, 113), "top(0)=127 top(1)=115 first(1,true)=-4 first(2,true)=-4 first(3,true)=-4");
        Script.edge("4: REACH: all of five on a wheel", WHEEL, same("reach(#)", 31));
    }

    private static void first() {
        Script.edge("4: FIRST (one END alone: it)", "set(0,1)=3", same("first(0,#)", 0), same("first(1,#)", -1));
        Script.edge("4: FIRST: of two ENDS", "set(0,2)=3", same("first(0,#)", Script.row8(0, 1)), same("first(1,#)", -4), "set(1,1)=0", same("first(1,#)", Script.row8(0, 1)), same("first(0,#)", -4));
        Script.edge("4: FIRST by numbers, the first END ahead: 0, 2, 1 ahead of 2, 0, 1", "round",
                both("first(0,#)", Script.row8(1, 2, 0), Script.row8(0, 2, 1)), both("first(1,#)", Script.row8(0, 2, 1), Script.row8(0, 1, 2)), both("first(2,#)", Script.row8(0, 1, 2), Script.row8(1, 2, 0)));
        Script.edge("4: FIRST by numbers: 0, 2, 1, 3 ahead of all but 0, 1, 2, 3 and 0, 1, 3, 2", "set(0,4)=3 who:0:10:0231 who:0:10:2013 who:0:10:1302",
                "beat(0,1)=1 beat(1,2)=1 beat(2,0)=1 beat(3,1)=1 beat(2,3)=1 beat(0,3)=3 first(3,false)=" + Script.row8(0, 2, 1, 3), "first(3,true)=-4");
        Script.edge("4: FIRST as digits to the base 8, the first END the lowest: seven digits", LINE, same("first(0,#)", Script.row8(0, 1, 2, 3, 4, 5, 6)), same("first(6,#)", -4),
                "set(0,6)=7", same("first(0,#)", Script.row8(0, 1, 2, 3, 4, 5)));
        Script.edge("4: FIRST: as late as it can be, 0 alone BEATS 1, 1 alone BEATS 2, and so on", STAIRS, "first(0,false)=" + Script.row8(5, 6, 4, 3, 2, 1, 0));
        Script.edge("23: first, -4: an END that never comes", LINE, same("first(1,#)", -4), same("first(6,#)", -4), "set(0,3)=7", same("first(2,#)", -4));
        Script.edge("23: first, -4: one that comes with PLAIN ones alone", STAIRS, "first(0,true)=-4 first(3,true)=-4 first(6,false)=" + Script.row8(0, 1, 2, 3, 4, 5, 6));
        Script.edge("23: first, -1 (an END that is not there, too)", "first(2,true)=-4 first(3,true)=-1 first(3,false)=-1 first(6,true)=-1", Script.each("first(#,false)=-1 first(#,true)=-1", "7", "-1", "min", "max"),
                "set(0,4)=3 first(3,true)=-4 first(4,true)=-1");
    }

    private static void best() {
        Script.edge("4: BEST of all (-4 none)", "round best()=-4", "set(0,4)=3 best()=-4");
        Script.edge("4: BEST of all: of one END alone, it", "set(0,1)=3 best()=0 set(1,1)=0 best()=0");
        Script.edge("4: BEST of all others that are there", "round set(0,2)=3 best()=0 set(0,3)=2 best()=-4 wish(0,2,0)=2 best()=2");
        Script.edge("4: BEST of all: by the CHAIR's rule", "best()=0 set(0,7)=3 best()=0 set(1,1)=0 best()=6");
        Script.edge("4: BEST of all: one that loses to just one is none", "set(0,4)=3 who:0:10:0123 who:0:10:1203 who:0:10:2013 best()=-4 wish(2,0,0)=2 wish(2,1,1)=0 wish(2,2,2)=1 best()=0");
    }

    private static void top() {
        Script.edge("4: TOP: ENDS that reach each other END by BEATING, in steps: six of them", STAIRS, "top(0)=127 beat(0,1)=1 beat(0,2)=-1 beat(5,6)=1 beat(4,6)=-1");
        Script.edge("4: TOP: of one END alone, and of two", "set(0,1)=3 top(0)=1 top(1)=1 set(0,2)=1 top(0)=1 top(1)=1 set(1,1)=0 top(0)=2 top(1)=2");
        Script.edge("4: TOP: the one that BEATS all others alone", LINE, "top(0)=1 top(1)=1");
        Script.edge("4: TOP: not those who only lose to it", RING_OF_THREE, "top(0)=14 top(1)=14");
        Script.edge("4: TOP: ENDS that are there alone, and by way of these alone", "round top(0)=7 set(0,2)=3 top(0)=1 set(0,7)=2 top(0)=7");
        Script.edge("4: COVERED is x by y, if y BEATS x, and each END that x BEATS", STAIRS, "top(1)=112");
        Script.edge("4: COVERED: one that BEATS none, by all that BEAT it", "set(0,2)=3 top(1)=1 set(1,1)=0 top(1)=2 set(0,3)=2 top(1)=4");
        Script.edge("4: COVERED: none of a ring, none of a wheel", "round top(1)=7 set(0,2)=3 top(1)=1");
        Script.edge("4: UNCOVERED: all five of a wheel", WHEEL, "top(0)=31 top(1)=31");
        Script.edge("25: top, what 0, 1", Script.each("top(#)=-1", "2", "-1", "min", "max"), "top(0)=1 top(1)=1");
    }

    private static void ring() {
        Script.edge("4: A RING: none if TOP has fewer than 3: one", LINE, Script.upTo("ring(#)=-4", 0, 6));
        Script.edge("4: A RING: none if there are fewer than 3 ENDS", "round set(0,2)=3 ring(0)=-4 ring(1)=-4 set(0,1)=2 ring(0)=-4");
        Script.edge("4: A RING of 3: the least one first, the last one BEATS the first", "round ring(0)=0 ring(1)=1 ring(2)=2 beat(2,0)=1");
        Script.edge("4: A RING of 3: 0 is not in it", RING_OF_THREE, "ring(0)=1 ring(1)=3 ring(2)=2 ring(3)=-4");
        Script.edge("4: A RING of 4: 0, 1, 2, 3 is none, as 0 does not BEAT 1", "set(0,4)=3 who:0:10:0312 who:0:10:3012 who:0:10:2130",
                "beat(1,0)=1 beat(3,0)=1 beat(0,2)=1 beat(1,2)=1 beat(2,3)=1 beat(3,1)=1 ring(0)=0 ring(1)=2 ring(2)=3 ring(3)=1 ring(4)=-4");
        Script.edge("4: A RING of all 7", STAIRS, Script.upTo("ring(#)=#", 0, 6));
        Script.edge("4: A RING: of several the first by numbers", WHEEL, Script.upTo("ring(#)=#", 0, 4), "ring(5)=-4 ring(6)=-4");
        Script.edge("34: ring, -1 (i not 0 .. 6)", "round", Script.each("ring(#)=-1", "7", "-1", "min", "max"), "set(0,1)=3 ring(7)=-1 ring(6)=-4 ring(0)=-4");
        Script.edge("34: ring, -4 behind the last one", "round ring(2)=2 ring(3)=-4 ring(6)=-4");
    }

    private static void usual() {
        Script.edge("4: USUAL: the greatest first", "bytes:0:1,2,3 usual(0)=" + Script.row8(2, 1, 0), "bytes:0:3,2,1 usual(0)=" + Script.row8(0, 1, 2));
        Script.edge("4: USUAL: of like ones the lesser END", "bytes:0:0,0,0 usual(0)=" + Script.row8(0, 1, 2), "bytes:0:1,2,2 usual(0)=" + Script.row8(1, 2, 0), "bytes:0:-3,-3,-3 usual(0)=" + Script.row8(0, 1, 2),
                "set(1,1)=0 usual(0)=" + Script.row8(0, 1, 2));
        Script.edge("4: USUAL: RANKS from -128 to 127", "bytes:0:-128,127,0 usual(0)=" + Script.row8(1, 2, 0), "bytes:0:127,128,-1 usual(0)=" + Script.row8(0, 2, 1), "bytes:0:-128,-128,-127 usual(0)=" + Script.row8(2, 0, 1));
        Script.edge("4: USUAL: of one END alone, and of seven", "set(0,1)=3 bytes:0:-5 usual(0)=0 set(0,7)=1 bytes:0:0,1,2,3,4,5,6 usual(0)=" + Script.row8(6, 5, 4, 3, 2, 1, 0));
        Script.edge("35: usual, -13: fewer elements than ENDS", "bytes:0:9,8 usual(0)=-13 row(0,0,0)=0 usual(0)=-13 set(0,1)=3 usual(0)=-13 bytes:0:1 usual(0)=0 set(0,2)=1 usual(0)=-13 set(0,7)=2 row(0,0,6)=0 usual(0)=-13");
        Script.edge("35: usual, as many elements as ENDS, or more", "bytes:0:9,8,7 usual(0)=" + Script.row8(0, 1, 2), "bytes:0:7,8,9,100 usual(0)=" + Script.row8(2, 1, 0), "row(0,0,120)=0 put(0,119,9)=0 usual(0)=" + Script.row8(0, 1, 2));
        Script.edge("35: usual, no such SHELF", Script.each("usual(#)=-1", FAR), "bytes:7:9,8,7 usual(7)=" + Script.row8(0, 1, 2));
        Script.edge("35: usual, -11", "usual(0)=-11");
        Script.edge("35: usual, -12 (no ROW of bytes)", "member(0,10)=0 keep(0,1,0)=0 usual(0)=-12 row(0,1,3)=0 usual(0)=-12 row(0,2,3)=0 usual(0)=-12");
        Script.edge("35: usual, -12 ahead of -13", "row(0,1,2)=0 usual(0)=-12 row(0,2,0)=0 usual(0)=-12");
    }

    private interface Claim {
        void of(QuestionDesk x, int ends);
    }

    private static void chambersOfAllSizes() {
        overChambers("4: A RING of all of TOP there is always, if TOP has 3 or more", OrderEdgesTest::ringIsOne);
        overChambers("4: REACH and FIRST: an ORDER is told for those ENDS alone that come, and brings them", OrderEdgesTest::firstBrings);
        overChambers("4: BEST of all is TOP, REACH and UNCOVERED alone", OrderEdgesTest::bestIsAlone);
    }

    /** Desks of 1 .. 7 ENDS with 0 .. 5 MEMBERS, who like all of them in some order; the same ones each time. */
    private static void overChambers(String sentence, Claim claim) {
        Checks.test(sentence, () -> {
            Random dice = new Random(17);
            int rings = 0;
            for (int round = 0; round < 1260; round++) {
                QuestionDesk x = new QuestionDesk();
                int ends = 1 + round % 7;
                x.set(0, ends);
                x.set(1, dice.nextInt(2));
                List<Integer> likings = new ArrayList<>(List.of(0, 1, 2, 3, 4, 5, 6));
                for (int m = 0; m < round / 7 % 6; m++) {
                    x.member(0, 10);
                    Collections.shuffle(likings, dice);
                    for (int e = 0; e < ends; e++) {
                        x.wish(m, e, likings.get(e));
                    }
                }
                rings += Integer.bitCount(x.top(0)) >= 3 ? 1 : 0;
                claim.of(x, ends);
            }
            Checks.holds("some have a ring: " + rings, rings > 80);
        });
    }

    private static void ringIsOne(QuestionDesk x, int ends) {
        int top = x.top(0);
        int many = Integer.bitCount(top) < 3 ? 0 : Integer.bitCount(top);
        int met = 0;
        for (int i = 0; i < many; i++) {
            int end = x.ring(i);
            int next = x.ring((i + 1) % many);
            met |= 1 << end;
            Checks.holds(end + " beats " + next, end != next && x.stands(end, next) == end);
        }
        Checks.due("all of TOP", met, many == 0 ? 0 : top);
        Checks.holds("the least first", many == 0 || x.ring(0) == Integer.numberOfTrailingZeros(top));
        for (int i = many; i < 7; i++) {
            Checks.due("behind it", x.ring(i), -4);
        }
    }

    private static void firstBrings(QuestionDesk x, int ends) {
        for (int kind = 0; kind < 2; kind++) {
            boolean deep = kind == 1;
            for (int end = 0; end < ends; end++) {
                int told = x.first(end, deep);
                boolean comes = (x.reach(deep) >> end & 1) == 1;
                Checks.holds("told if it comes: " + told, comes == (told != -4));
                if (comes && ends > 1) {
                    int[] row = new int[ends];
                    for (int i = 0; i < ends; i++) {
                        row[i] = told >> 3 * i & 7;
                    }
                    Desks.bytes(x, 0, row);
                    Checks.due("what comes of it", x.order(0, deep), end);
                }
            }
        }
    }

    private static void bestIsAlone(QuestionDesk x, int ends) {
        int best = x.best();
        boolean one = Integer.bitCount(x.top(0)) == 1;
        Checks.holds("BEST just if TOP is one", one == (best != -4));
        if (one) {
            int alone = 1 << best;
            Checks.holds("alone", x.top(0) == alone && x.top(1) == alone && x.reach(false) == alone && x.reach(true) == alone);
        }
    }
}
