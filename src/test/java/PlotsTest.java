/** Promises 26 to 37: killers, telling, chances. */
public final class PlotsTest {
    public static void main(String[] args) {
        Checks.test("promise 26: killers", PlotsTest::killers);
        Checks.test("promise 26: killers, as others than PLAIN see it", PlotsTest::killersByKinds);
        Checks.test("promise 27: shields", PlotsTest::shields);
        Checks.test("promise 28: tell", PlotsTest::tell);
        Checks.test("promise 28: tell, PLAIN ones alone, the fewest", PlotsTest::tellFewest);
        Checks.test("promise 29: falseVote", PlotsTest::falseVote);
        Checks.test("promise 29: falseVote, refusals", PlotsTest::falseVoteRefusals);
        Checks.test("promise 30: chance", PlotsTest::chance);
        Checks.test("promise 30: chance, six at most", PlotsTest::chanceOfSix);
        Checks.test("promise 31: boughtOff", PlotsTest::boughtOff);
        Checks.test("promise 31: boughtOff, party 0 and the fewest", PlotsTest::boughtOffParty);
        Checks.test("promise 32: bestLie", PlotsTest::bestLie);
        Checks.test("promise 32: bestLie, seven ends", PlotsTest::bestLieOfSeven);
        Checks.test("promise 33: surely", PlotsTest::surely);
        Checks.test("promise 34: ring", PlotsTest::ring);
        Checks.test("promise 35: usual", PlotsTest::usual);
        Checks.test("promise 35: usual, refusals", PlotsTest::usualRefusals);
        Checks.test("promise 36: breach of law 0", PlotsTest::breachBest);
        Checks.test("promise 36: breach of law 1", PlotsTest::breachLifted);
        Checks.test("promise 36: breach of law 2", PlotsTest::breachLied);
        Checks.test("promise 36: breach, refusals", PlotsTest::breachRefusals);
        Checks.test("promise 37: finds", PlotsTest::finds);
        Checks.end();
    }

    private static int code(int... row) {
        int sum = 0;
        for (int i = row.length - 1; i >= 0; i--) {
            sum = 8 * sum + row[i];
        }
        return sum;
    }

    private static void killers() {
        QuestionDesk x = Desks.round();
        Checks.due("2 beats 0", x.killers(Desks.tree(x, "0")), 4);
        Checks.due("2 wins, but 2 it was", x.killers(Desks.tree(x, "((0v1)v2)")), 0);
        Checks.due("0 wins, but 0 it was", x.killers(Desks.tree(x, "((1v0)v2)")), 0);
        x.set(0, 2);
        Checks.due("2 is not there", x.killers(0), 0);
        Checks.due("no tree", x.killers(3), -1);
        Checks.due("no tree", x.killers(-1), -1);
        Checks.due("no tree is told by it", x.count(4), 3);
    }

    private static void killersByKinds() {
        QuestionDesk x = Desks.round();
        int t = Desks.tree(x, "((1v0)v2)");
        for (int m = 0; m < 3; m++) {
            x.becomes(m, 10);
        }
        Checks.due("2 comes, 1 beats it", x.killers(t), 2);
        int u = Desks.tree(x, "1");
        x.becomes(1, 40);
        x.bought(1, 2);
        x.becomes(2, 40);
        x.bought(2, 2);
        Checks.due("0 beats 1, 2 is bought", x.killers(u), 5);
    }

    private static void shields() {
        QuestionDesk x = new QuestionDesk();
        x.set(0, 4);
        Desks.member(x, 0, 10, "0241");
        Desks.member(x, 0, 10, "4021");
        Desks.member(x, 0, 10, "2401");
        int t = Desks.tree(x, "(1v0)");
        Checks.due("3 beats the name", x.killers(t), 8);
        Checks.due("0 beats the name too", x.shields(t, 3), 1);
        Checks.due("no killer", x.shields(t, 0), -3);
        Checks.due("no killer", x.shields(t, 1), -3);
        Checks.due("not there", x.shields(t, 4), -1);
        Checks.due("no end", x.shields(t, 7), -1);
        Checks.due("no end", x.shields(t, -1), -1);
        Checks.due("no tree", x.shields(t + 1, 3), -1);
        Checks.due("no tree", x.shields(-1, 3), -1);
        x.set(0, 3);
        Checks.due("not there any more", x.shields(t, 3), -1);
        QuestionDesk y = Desks.round();
        int u = Desks.tree(y, "0");
        Checks.due("none helps", y.shields(u, 2), 0);
    }

    private static void tell() {
        QuestionDesk x = Desks.round();
        int t = Desks.tree(x, "((1v0)v2)");
        Checks.due("it comes already", x.tell(t, 0), 0);
        Checks.due("the second has to be told", x.tell(t, 2), 2);
        Checks.due("none", x.tell(t, 1), -4);
        Checks.due("not even there", x.tell(t, 6), -4);
        Checks.due("nobody was told", x.about(1, 0), 0);
        Checks.due("no end", x.tell(t, 7), -1);
        Checks.due("no end", x.tell(t, -1), -1);
        Checks.due("no tree", x.tell(t + 1, 0), -1);
        Checks.due("no tree", x.tell(-1, 0), -1);
    }

    private static void tellFewest() {
        QuestionDesk x = new QuestionDesk();
        int t = Desks.tree(x, "((1v0)v2)");
        // Those who like 1, 2, 0 vote for 1 against 2 as long as they don't see 0 coming.
        Desks.member(x, 0, 10, "201");
        Desks.member(x, 3, 10, "201");
        Desks.member(x, 0, 10, "201");
        Desks.member(x, 0, 40, "012");
        Desks.member(x, 0, 20, "201");
        Desks.member(x, 1, 20, "120");
        Checks.due("lead", x.wonBy(t, 0), 1 + 1 + 1 + 4 + 2 - 2);
        Checks.due("0 comes", x.run(t), 0);
        Checks.due("three voices are not enough", x.tell(t, 2), 1 + 4 + 16);
        x.becomes(1, 0);
        Checks.due("any with two voices more", x.tell(t, 2), 1 + 2 + 16);
        x.becomes(5, 0);
        Checks.due("a PLAIN one likes it anyway", x.tell(t, 2), 1 + 2 + 16);
        x.becomes(4, 30);
        Checks.due("the one with two voices can't be told", x.tell(t, 2), -4);
        QuestionDesk y = new QuestionDesk();
        int u = Desks.tree(y, "((1v0)v2)");
        Desks.member(y, 3, 10, "201");
        Desks.member(y, 0, 10, "012");
        Desks.member(y, 0, 10, "120");
        Checks.due("the first one can't be told", y.tell(u, 2), -4);
    }

    private static void falseVote() {
        QuestionDesk x = Desks.round();
        int t = Desks.tree(x, "((1v0)v2)");
        Desks.bytes(x, 0, 2, 1, 0, 5, 5, 5, 5);
        Checks.due("the second gains", x.falseVote(t, 0), 1);
        Checks.due("all is as it was", x.run(t), 0);
        Desks.bytes(x, 0, 2, 0, 1, 5, 5, 5, 5);
        Checks.due("none gains by this", x.falseVote(t, 0), -4);
        Desks.bytes(x, 0, 0, 0, 0, 9, 9, 9, 9);
        int u = Desks.tree(x, "{0>1:1/0}");
        Checks.due("by who beats whom", x.falseVote(u, 0), -4);
        x.set(1, 1);
        Checks.due("the first: 1 beats 0 then", x.falseVote(u, 0), 0);
        QuestionDesk y = new QuestionDesk();
        int v = Desks.tree(y, "(0v1)");
        Desks.bytes(y, 0, 0, 0, 0, 0, 0, 0, 0);
        Checks.due("nobody", y.falseVote(v, 0), -4);
    }

    private static void falseVoteRefusals() {
        QuestionDesk x = Desks.round();
        int t = Desks.tree(x, "((1v0)v2)");
        Desks.bytes(x, 0, 2, 1, 0, 5, 5, 5, 5);
        Checks.due("no tree", x.falseVote(t + 1, 0), -1);
        Checks.due("no tree", x.falseVote(-1, 0), -1);
        Checks.due("no shelf", x.falseVote(t, 8), -1);
        Checks.due("no shelf", x.falseVote(t, -1), -1);
        Checks.due("no tree ahead of nothing", x.falseVote(t + 1, 1), -1);
        Checks.due("nothing", x.falseVote(t, 1), -11);
        x.keep(1, 1, 0);
        Checks.due("a member", x.falseVote(t, 1), -12);
        x.row(1, 1, 7);
        Checks.due("shorts", x.falseVote(t, 1), -12);
        x.row(1, 2, 7);
        Checks.due("ints", x.falseVote(t, 1), -12);
        x.row(1, 0, 6);
        Checks.due("six", x.falseVote(t, 1), -13);
        x.row(1, 0, 8);
        Checks.due("eight", x.falseVote(t, 1), -13);
        for (int i = 0; i < 7; i++) {
            x.row(1, 0, 7);
            x.put(1, i, 10);
            Checks.due("ten", x.falseVote(t, 1), -13);
            x.put(1, i, -1);
            Checks.due("below 0", x.falseVote(t, 1), -13);
            x.put(1, i, 9);
            Checks.holds("nine", x.falseVote(t, 1) >= -4);
        }
    }

    private static void chance() {
        QuestionDesk x = new QuestionDesk();
        int t = Desks.tree(x, "(0v1)");
        Checks.due("nobody", x.chance(t, 0), 1);
        Checks.due("nobody", x.chance(t, 1), 0);
        Desks.member(x, 0, 20, "01");
        Desks.doubts(x, 0, 30, "10");
        Checks.due("one", x.chance(t, 0), 70);
        Checks.due("one", x.chance(t, 1), 30);
        Desks.member(x, 0, 10, "10");
        Desks.doubts(x, 1, 60, "01");
        Checks.due("two, the first settles it", x.chance(t, 0), 7000);
        Desks.member(x, 0, 10, "10");
        Checks.due("the third is sure: 0 if both of the others, or as many", x.chance(t, 0), 7000L);
        x.set(1, 1);
        Checks.due("as many: 1", x.chance(t, 0), 70 * 60);
        Checks.due("as many: 1", x.chance(t, 1), 10000 - 70 * 60);
        x.sure(1, 100);
        Checks.due("surely doubted", x.chance(t, 0), 7000);
        Checks.due("another end", x.chance(t, 6), 0);
        Checks.due("wishes are as they were", x.beat(0, 1), 0);
        Checks.due("no end", x.chance(t, 7), -1);
        Checks.due("no end", x.chance(t, -1), -1);
        Checks.due("no tree", x.chance(t + 1, 0), -1);
        Checks.due("no tree", x.chance(-1, 0), -1);
        int u = Desks.tree(x, "{0>1:2/1}");
        Checks.due("by who beats whom", x.chance(u, 2), 7000);
    }

    private static void chanceOfSix() {
        QuestionDesk x = new QuestionDesk();
        int t = Desks.tree(x, "(1v0)");
        Desks.member(x, 0, 10, "01");
        for (int m = 1; m < 9; m++) {
            Desks.member(x, 0, m == 7 ? 90 : 10, "01");
            Desks.doubts(x, m, 100, "10");
        }
        Checks.due("the seventh and eighth are as they wish", x.chance(t, 0), 1000000000000L);
        x.sure(3, 0);
        Checks.due("the seventh is one of six now", x.chance(t, 0), 0);
        Checks.due("the seventh is one of six now", x.chance(t, 1), 1000000000000L);
        x.sure(7, 99);
        Checks.due("a hundredth", x.chance(t, 0), 10000000000L);
    }

    private static void boughtOff() {
        QuestionDesk x = Desks.round();
        int t = Desks.tree(x, "((1v0)v2)");
        Checks.due("it comes already", x.boughtOff(t, 0), 0);
        Checks.due("the first for 1", x.boughtOff(t, 1), 1);
        Checks.due("the first for 2", x.boughtOff(t, 2), 1);
        Checks.due("none", x.boughtOff(t, 3), -4);
        Checks.due("nobody was bought", x.about(0, 0), 0);
        Checks.due("no end", x.boughtOff(t, 7), -1);
        Checks.due("no end", x.boughtOff(t, -1), -1);
        Checks.due("no tree", x.boughtOff(t + 1, 0), -1);
        Checks.due("no tree", x.boughtOff(-1, 0), -1);
        QuestionDesk y = new QuestionDesk();
        int u = Desks.tree(y, "(0v1)");
        Checks.due("nobody to buy", y.boughtOff(u, 1), -4);
        Checks.due("nobody needed", y.boughtOff(u, 0), 0);
    }

    private static void boughtOffParty() {
        QuestionDesk x = new QuestionDesk();
        int t = Desks.tree(x, "(0v1)");
        Desks.member(x, 4, 21, "01");
        x.bought(0, 0);
        Desks.member(x, 0, 30, "01");
        Desks.member(x, 0, 10, "01");
        Desks.member(x, 2, 30, "01");
        Checks.due("nine voices, five are needed", x.boughtOff(t, 1), 1 + 2);
        Desks.member(x, 3, 30, "01");
        Checks.due("twelve voices, as many leaves 0", x.boughtOff(t, 1), 1 + 2 + 8);
        x.set(1, 1);
        Checks.due("as many is enough now", x.boughtOff(t, 1), 2 + 8);
        // Bought for 2, which stands nowhere: all it does is to change the party of the bought ones to 0.
        QuestionDesk y = new QuestionDesk();
        int u = Desks.tree(y, "(0v{1>1:2/1})");
        int v = Desks.tree(y, "({2>2:1/0}v{0>0:2/1})");
        Desks.member(y, 3, 30, "01");
        Checks.due("2 stands in a part that is not taken", y.boughtOff(u, 2), -4);
        Checks.due("for 1, which stands in both parts: as party", y.boughtOff(v, 1), -4);
        Desks.member(y, 3, 41, "10");
        Desks.member(y, 0, 20, "01");
        Checks.due("0 has 5, 1 has 4", y.run(v), 0);
        Checks.due("with the second in its party the first goes along", y.boughtOff(v, 1), 2);
    }

    private static void bestLie() {
        QuestionDesk x = Desks.round();
        int t = Desks.tree(x, "((1v0)v2)");
        Checks.due("2 ahead of 1", x.bestLie(t, 1, 0), code(0, 2, 1));
        Checks.due("2 comes", x.bestLie(t, 1, 1), 2);
        Checks.due("what it wishes comes", x.bestLie(t, 0, 0), code(0, 1, 2));
        Checks.due("what it wishes comes", x.bestLie(t, 0, 1), 0);
        Checks.due("all is as it was", x.run(t), 0);
        x.set(0, 4);
        Checks.due("with an end more", x.bestLie(t, 1, 0), code(0, 2, 1, 3));
        x.set(0, 2);
        Checks.due("2 is not there, so it is liked least", x.bestLie(t, 1, 0), code(0, 1));
        Checks.due("0 comes then", x.bestLie(t, 1, 1), 0);
        QuestionDesk y = new QuestionDesk();
        int u = Desks.tree(y, "{1>0:0/2}");
        Desks.member(y, 0, 10, "051");
        Checks.due("1 ahead of 0 brings 0", y.bestLie(u, 0, 0), code(1, 0, 2));
        Checks.due("0 comes", y.bestLie(u, 0, 1), 0);
        Desks.wishes(y, 0, "999");
        Checks.due("all as bad", y.bestLie(u, 0, 0), code(0, 1, 2));
        Checks.due("all as bad", y.bestLie(u, 0, 1), 2);
        int[][] wrong = {{t + 1, 0, 0}, {-1, 0, 0}, {t, 3, 0}, {t, -1, 0}, {t, 0, 2}, {t, 0, -1}};
        for (int[] w : wrong) {
            Checks.due("wrong", x.bestLie(w[0], w[1], w[2]), -1);
        }
    }

    private static void bestLieOfSeven() {
        QuestionDesk x = new QuestionDesk();
        x.set(0, 7);
        int t = Desks.tree(x, "(5v3)");
        int u = Desks.tree(x, "{6>2:1/4}");
        Desks.member(x, 0, 10, "5555505");
        Checks.due("5 ahead of 3", x.bestLie(t, 0, 0), code(0, 1, 2, 4, 5, 3, 6));
        Checks.due("5 comes", x.bestLie(t, 0, 1), 5);
        Checks.due("alike: the first", x.bestLie(u, 0, 0), code(0, 1, 2, 3, 4, 5, 6));
        Checks.due("alike: 4", x.bestLie(u, 0, 1), 4);
        x.wish(0, 1, 0);
        Checks.due("6 ahead of 2", x.bestLie(u, 0, 0), code(0, 1, 3, 4, 5, 6, 2));
        int whole = Desks.tree(x, "((6v5)v(4v(3v(2v(1v0)))))");
        Desks.wishes(x, 0, "9999908");
        Checks.due("the best of what can come", x.bestLie(whole, 0, 1), 5);
        Checks.due("names: 5 ahead of 6, 6 ahead of 4", x.bestLie(whole, 0, 0), code(0, 1, 2, 3, 5, 6, 4));
    }

    private static void surely() {
        QuestionDesk x = new QuestionDesk();
        Desks.member(x, 0, 10, "012");
        Desks.member(x, 0, 10, "021");
        Desks.doubts(x, 1, 1, "102");
        Checks.due("0 over 1", x.surely(0, 1, 0), 1);
        Checks.due("1 over 0", x.surely(1, 0, 1), 0);
        x.set(1, 1);
        Checks.due("0 over 1, the greater", x.surely(0, 1, 0), 0);
        Checks.due("0 over 1, the greater, maybe", x.surely(0, 1, 1), 1);
        Checks.due("1 over 0, the greater, maybe", x.surely(1, 0, 1), 1);
        Checks.due("1 over 2, the greater", x.surely(1, 2, 0), 0);
        x.sure(1, 100);
        Checks.due("however great the chance is", x.surely(0, 1, 1), 1);
        x.sure(1, 0);
        Checks.due("sure", x.surely(0, 1, 0), 1);
        Checks.due("sure", x.surely(1, 0, 1), 0);
        Checks.due("one", x.surely(2, 2, 0), 0);
        Checks.due("one", x.surely(2, 2, 1), 0);
        Checks.due("ends that are not there", x.surely(6, 5, 0), 1);
        int[][] wrong = {{7, 0, 0}, {-1, 0, 0}, {0, 7, 0}, {0, -1, 0}, {0, 1, 2}, {0, 1, -1}};
        for (int[] w : wrong) {
            Checks.due("wrong", x.surely(w[0], w[1], w[2]), -1);
        }
        QuestionDesk y = new QuestionDesk();
        for (int m = 0; m < 7; m++) {
            Desks.member(y, 0, m == 6 ? 90 : 10, "01");
            Desks.doubts(y, m, 50, "10");
        }
        Checks.due("the seventh is as it wishes", y.surely(0, 1, 0), 1);
        y.sure(0, 0);
        Checks.due("the seventh is one of six now", y.surely(0, 1, 0), 0);
        Checks.due("the seventh is one of six now", y.surely(1, 0, 1), 1);
    }

    private static void ring() {
        QuestionDesk x = Desks.round();
        int[] due = {0, 1, 2, -4, -4, -4, -4};
        for (int i = 0; i < 7; i++) {
            Checks.due("ring " + i, x.ring(i), due[i]);
        }
        Checks.due("i", x.ring(7), -1);
        Checks.due("i", x.ring(-1), -1);
        x.set(0, 2);
        Checks.due("none", x.ring(0), -4);
        QuestionDesk y = new QuestionDesk();
        y.set(0, 4);
        Desks.member(y, 0, 10, "9021");
        Desks.member(y, 0, 10, "9102");
        Desks.member(y, 0, 10, "9210");
        // 1 beats 3 beats 2 beats 1, and all of them beat 0.
        int[] other = {1, 3, 2, -4};
        for (int i = 0; i < 4; i++) {
            Checks.due("ring without 0, " + i, y.ring(i), other[i]);
        }
    }

    private static void usual() {
        QuestionDesk x = new QuestionDesk();
        Desks.bytes(x, 0, 3, -4, 3, 9);
        Checks.due("of three", x.usual(0), code(0, 2, 1));
        x.set(0, 4);
        Checks.due("of four", x.usual(0), code(3, 0, 2, 1));
        x.set(0, 1);
        Checks.due("of one", x.usual(0), 0);
        x.set(0, 7);
        Desks.bytes(x, 0, 1, 2, 3, 4, 5, 6, 127);
        Checks.due("of seven", x.usual(0), code(6, 5, 4, 3, 2, 1, 0));
        Desks.bytes(x, 0, 0, 0, 0, 0, 0, 0, 128, 5);
        Checks.due("128 is -128", x.usual(0), code(0, 1, 2, 3, 4, 5, 6));
        Desks.bytes(x, 0, -128, 0, 0, 0, 0, 0, 0);
        Checks.due("the least of all", x.usual(0), code(1, 2, 3, 4, 5, 6, 0));
    }

    private static void usualRefusals() {
        QuestionDesk x = Desks.round();
        Checks.due("no shelf", x.usual(8), -1);
        Checks.due("no shelf", x.usual(-1), -1);
        Checks.due("nothing", x.usual(0), -11);
        x.keep(0, 1, 0);
        Checks.due("a member", x.usual(0), -12);
        x.row(0, 1, 3);
        Checks.due("shorts", x.usual(0), -12);
        x.row(0, 2, 3);
        Checks.due("ints", x.usual(0), -12);
        x.row(0, 0, 2);
        Checks.due("two", x.usual(0), -13);
        x.row(0, 0, 120);
        Checks.due("many", x.usual(0), code(0, 1, 2));
    }

    private static void breachBest() {
        QuestionDesk x = new QuestionDesk();
        int end = Desks.tree(x, "0");
        Checks.due("one who likes 1", x.breach(end, 0, 1, false), 2);
        Checks.due("one who likes 1", x.breach(end, 0, 1, true), 2);
        Checks.due("both like 1: the lesser", x.breach(end, 0, 2, false), 14);
        x.set(1, 1);
        Checks.due("one likes 1: the greater", x.breach(end, 0, 2, false), 2);
        x.set(1, 0);
        Checks.due("one who likes 0", x.breach(Desks.tree(x, "1"), 0, 1, false), 0);
        int t = Desks.tree(x, "(0v1)");
        Checks.due("2 is liked, but not in it", x.breach(t, 0, 1, false), 4);
        int u = Desks.tree(x, "((0v1)v2)");
        Checks.due("012, 120, 120", x.breach(u, 0, 3, false), 21);
        Checks.due("DEEP ones keep it", x.breach(u, 0, 3, true), -4);
        Checks.due("one DEEP one keeps it", x.breach(u, 0, 1, true), -4);
        x.set(0, 1);
        Checks.due("ends that are there don't matter", x.breach(end, 0, 1, false), 2);
        Desks.member(x, 0, 90, "901");
        Checks.due("nor members", x.breach(end, 0, 1, false), 2);
        Checks.due("who are as they were", x.beat(1, 0), 9);
    }

    private static void breachLifted() {
        QuestionDesk x = new QuestionDesk();
        int t = Desks.tree(x, "{0>1:1/0}");
        Checks.due("1 comes of 012, 0 of 102", x.breach(t, 1, 1, false), 0);
        Checks.due("likewise", x.breach(t, 1, 1, true), 0);
        int u = Desks.tree(x, "{0>1:0/2}");
        Checks.due("kept", x.breach(u, 1, 1, false), -4);
        int v = Desks.tree(x, "{1>2:2/0}");
        // 012: 2 comes, lifted to 021: 0 comes.
        Checks.due("lifted to the second place", x.breach(v, 1, 1, false), 0);
        int w = Desks.tree(x, "{2>1:2/{0>1:0/{0>2:1/0}}}");
        // 012: 0. 021: 2, lifted to 201: 2. 102: 1, the first. 120: 0, lifted to 102: 1.
        Checks.due("120", x.breach(w, 1, 1, false), 3);
        Checks.due("a constant", x.breach(Desks.tree(x, "2"), 1, 3, true), -4);
    }

    private static void breachLied() {
        QuestionDesk x = new QuestionDesk();
        int t = Desks.tree(x, "{0>1:1/0}");
        Checks.due("0 comes by 102", x.breach(t, 2, 1, false), 0);
        Checks.due("by 012 alone", x.breach(Desks.tree(x, "{0>1:{1>2:0/2}/2}"), 2, 1, false), 1);
        int u = Desks.tree(x, "((0v1)v2)");
        Checks.due("PLAIN", x.breach(u, 2, 3, false), 21);
        Checks.due("DEEP", x.breach(u, 2, 3, true), 22);
        Checks.due("one DEEP one has no reason to", x.breach(u, 2, 1, true), -4);
        Checks.due("two ends", x.breach(Desks.tree(x, "(0v1)"), 2, 3, false), -4);
    }

    private static void breachRefusals() {
        QuestionDesk x = new QuestionDesk();
        x.set(0, 4);
        int t = Desks.tree(x, "(0v2)");
        int u = Desks.tree(x, "(0v3)");
        int v = Desks.tree(x, "{3>0:1/2}");
        int w = Desks.tree(x, "{0>3:1/2}");
        Checks.due("3 is all", x.breach(Desks.tree(x, "3"), 0, 1, false), -3);
        Checks.due("3 is asked among others", x.breach(Desks.tree(x, "{3>0:{0>1:1/2}/2}"), 0, 1, false), -3);
        int[][] wrong = {{6, 0, 1}, {-1, 0, 1}, {t, 3, 1}, {t, -1, 1}, {t, 0, 0}, {t, 0, 4}, {u, 3, 1}, {u, 0, 4}};
        for (int[] n : wrong) {
            Checks.due("wrong", x.breach(n[0], n[1], n[2], false), -1);
        }
        Checks.due("3 stands in it", x.breach(u, 0, 1, false), -3);
        Checks.due("3 is asked", x.breach(v, 1, 2, true), -3);
        Checks.due("3 is asked", x.breach(w, 2, 3, false), -3);
        Checks.due("2 may stand in it", x.breach(t, 1, 3, false), -4);
    }

    private static void finds() {
        QuestionDesk x = Desks.round();
        int t = Desks.tree(x, "((1v0)v2)");
        int u = Desks.tree(x, "((0v1)v2)");
        x.becomes(0, 30);
        Checks.due("PLAIN", x.finds(t, 0), 1);
        Checks.due("DEEP", x.finds(t, 2), 2);
        Checks.due("neither", x.finds(t, 1), 0);
        Checks.due("neither", x.finds(t, 6), 0);
        Checks.due("both", x.finds(u, 2), 3);
        Checks.due("no end", x.finds(t, 7), -1);
        Checks.due("no end", x.finds(t, -1), -1);
        Checks.due("no tree", x.finds(u + 1, 0), -1);
        Checks.due("no tree", x.finds(-1, 0), -1);
    }
}
