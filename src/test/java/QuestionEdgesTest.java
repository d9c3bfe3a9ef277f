/** Boundary cases that the document names in section 3 and in promises 15 to 20, a test a sentence. */
public final class QuestionEdgesTest {
    private static final String[] NO_TREES = {"1", "-1", "12", "min", "max"};
    private static final String[] FAR = {"-1", "min", "max"};

    public static void main(String[] args) {
        liking();
        some();
        parties();
        bought();
        mixed();
        winning();
        running();
        asking();
        Checks.end();
    }

    private static void liking() {
        Script.edge("3: votes for a, if its WISH for x is less than for y", "who:0:20:01 tree:(0v1) why(0,0,0)=2 wonBy(0,0)=2 set(1,1)=0 run(0)=0");
        Script.edge("3: for b, if it is greater", "who:0:20:10 tree:(0v1) why(0,0,0)=-2 wonBy(0,0)=-2 run(0)=1");
        Script.edge("3: for none, if alike", "who:0:20:33 who:1:20:00 who:2:20:99 who:5:20:11 who:0:10:21 tree:(0v1)",
                Script.upTo("why(0,0,#)=0", 0, 3), "wonBy(0,0)=-1 run(0)=1");
        Script.edge("3: PLAIN: NAMES of a, b", "round tree:((1v0)v2) why(0,0,0)=1 why(0,0,1)=1 why(0,0,2)=-1 ask(0,0,1)=0 run(0)=0");
        Script.edge("3: DEEP: what COMES of a, b", "round becomes(0,10)=0 becomes(1,10)=0 becomes(2,10)=0 tree:((1v0)v2)",
                "why(0,0,0)=1 why(0,0,1)=-1 why(0,0,2)=-1 ask(0,0,1)=0 run(0)=2");
        Script.edge("3: DEEP: both parts bring the same END: for none", "round becomes(0,10)=0 tree:((0v1)v(1v0)) ask(0,0,1)=0 ask(0,0,2)=0 why(0,0,0)=0");
        Script.edge("3: PLAIN: both NAMES are the same: for none", "round tree:((1v2)v(1v0)) why(0,0,0)=0 why(0,0,1)=0 why(0,0,2)=0 wonBy(0,0)=0 run(0)=1");
    }

    /** Of SOME, member 1: with so many steps it sees an END in the first part of QUESTION 0, 6 being the second part. */
    private static String sees(int tree, int steps, int end) {
        String why = "why(" + tree + ",0,1)=";
        return "becomes(1,2" + steps + ")=2 wish(1," + end + ",0)=5 " + why + "1 wish(1," + end + ",9)=0 " + why + "-1 wish(1," + end + ",5)=9 " + why + "0 ";
    }

    private static void some() {
        String greaterBeatLesser = "set(0,7)=3 who:0:90:6543210 member(2,10)=1 ";
        Script.edge("3: SOME with d steps: d 0 the NAME", greaterBeatLesser, "tree:((0v(1v2))v6) tree:({0>1:3/(2v4)}v6)", sees(0, 0, 0), sees(1, 0, 2));
        Script.edge("3: SOME with d steps: of an END it, with any d", greaterBeatLesser, "tree:(4v6)", sees(0, 0, 4), sees(0, 1, 4), sees(0, 5, 4));
        Script.edge("3: SOME with d steps: of a QUESTION with d less 1: 1 to 4 steps", greaterBeatLesser, "tree:((0v(1v(2v(3v(4v5)))))v6)",
                sees(0, 1, 1), sees(0, 2, 2), sees(0, 3, 3), sees(0, 4, 4));
        Script.edge("3: SOME with d steps: of a QUESTION with d less 1: in its first part too", greaterBeatLesser, "tree:(((0v(1v2))v0)v6)",
                sees(0, 0, 0), sees(0, 1, 0), sees(0, 2, 1), sees(0, 3, 2), sees(0, 4, 2));
        Script.edge("3: SOME with d steps: 5 steps go to the end of what is 6 deep", greaterBeatLesser, "tree:((0v(1v(2v(3v(4v5)))))v6) tree:((((((0v1)v2)v3)v4)v5)v6)",
                sees(0, 5, 5), sees(1, 5, 5));
        Script.edge("3: SOME with d steps: more steps than there are QUESTIONS", greaterBeatLesser, "tree:((0v(1v2))v6)", sees(0, 2, 2), sees(0, 3, 2), sees(0, 5, 2));
        Script.edge("3: SOME with d steps: of a { } that of the part that is taken, with d", greaterBeatLesser, "tree:({0>1:6/{0>1:6/(0v(1v2))}}v6)",
                sees(0, 0, 0), sees(0, 1, 1), sees(0, 2, 2));
        Script.edge("3: SOME with d steps: the one of these that BEATS the other, not what wins",
                "round becomes(2,40)=0 bought(2,1)=0 tree:((1v0)v2) ask(0,0,1)=1 becomes(1,21)=0 why(0,0,1)=-1 becomes(1,10)=2 why(0,0,1)=1");
        Script.edge("3: SOME with d steps: at 0 the CHAIR's rule", "who:2:11:095 who:0:10:905 tree:((1v0)v2) why(0,0,0)=1 set(1,1)=0 why(0,0,0)=-1");
        Script.edge("3: SOME with d steps: (the first, if they are one)", greaterBeatLesser, "tree:((3v3)v6) tree:(((0v3)v(3v1))v6)", sees(0, 1, 3), sees(1, 2, 3));
    }

    private static void parties() {
        Script.edge("3: PARTY: one alone votes as PLAIN", "who:3:91:01 tree:(0v1) why(0,0,0)=9 wish(0,0,1)=0 why(0,0,0)=0 wish(0,0,2)=1 why(0,0,0)=-9");
        Script.edge("3: PARTY: the sum of how each would vote by its VOICES, above 0 by one: all for a",
                "who:3:31:01 who:3:11:10 who:3:11:10 tree:(0v1) why(0,0,0)=3 why(0,0,1)=1 why(0,0,2)=1 wonBy(0,0)=5");
        Script.edge("3: PARTY: the sum below 0 by one: all for b", "who:3:31:01 who:3:21:10 who:3:21:10 tree:(0v1) why(0,0,0)=-3 why(0,0,1)=-2 why(0,0,2)=-2 wonBy(0,0)=-7");
        Script.edge("3: PARTY: all vote so: each by its own VOICES alone, however great the sum is",
                Script.upTo("who:3:4#:01 who:3:4#:01 who:3:5#:01", 0, 2), "tree:(0v1) tree:(1v0)", Script.upTo("why(0,0,#)=4 why(1,0,#)=-4", 0, 1), Script.upTo("why(0,0,#)=4 why(1,0,#)=-4", 6, 7),
                "why(0,0,2)=5 why(1,0,5)=-5 why(0,0,8)=5 wonBy(0,0)=39 wonBy(1,0)=-39");
        Script.edge("3: PARTY: in each QUESTION anew", "who:3:10:012 tree:((0v1)v(2v0)) why(0,0,0)=1 why(0,1,0)=1 why(0,2,0)=-1 wish(0,0,9)=0 why(0,0,0)=-1 why(0,1,0)=-1 why(0,2,0)=1");
        Script.edge("3: PARTY (0: none of them votes)", "who:3:31:01 who:3:21:10 who:3:11:10 who:0:10:10 tree:(0v1)",
                Script.upTo("why(0,0,#)=0", 0, 2), "wonBy(0,0)=-1 run(0)=1");
        Script.edge("3: PARTY: those who like both alike vote as the others", "who:3:11:01 who:3:91:00 tree:(0v1) why(0,0,1)=9 wonBy(0,0)=10");
        Script.edge("3: PARTY: parties 0, 1, 2 count each for itself", "who:3:10:01 who:3:20:10 who:3:31:01 who:3:21:10 who:3:92:10 tree:(0v1)",
                "why(0,0,0)=-1 why(0,0,1)=-2 why(0,0,2)=3 why(0,0,3)=2 why(0,0,4)=-9");
        Script.edge("3: PARTY (BOUGHT ones too): they count as PLAIN, however they vote",
                "who:3:11:10 who:4:21:01 bought(1,1)=0 tree:(0v1) why(0,0,1)=-2 why(0,0,0)=1 becomes(1,42)=4 why(0,0,0)=-1");
        Script.edge("3: PARTY: as PLAIN: by NAMES", "who:3:11:01 tree:((1v0)v(0v1)) why(0,0,0)=-1 ask(0,0,1)=0 ask(0,0,2)=0");
        Script.edge("3: PARTY: nobody else of it any more", "who:3:11:01 who:3:21:10 tree:(0v1) why(0,0,0)=-1 becomes(1,0)=3 why(0,0,0)=1 why(0,0,1)=-2 becomes(1,30)=0 why(0,0,0)=1");
    }

    private static void bought() {
        String two = "who:3:11:01 who:4:21:10 ";
        Script.edge("3: BOUGHT: for the part in which its END stands: the first", two, "tree:(0v1) bought(1,0)=0 why(0,0,1)=2 why(0,0,0)=-1 tree:((2v0)v1) why(1,0,1)=2");
        Script.edge("3: BOUGHT: for the part in which its END stands: the second", two, "wish(1,0,0)=1 tree:(0v1) bought(1,1)=0 why(0,0,1)=-2 why(0,0,0)=1 tree:(0v(2v1)) why(1,0,1)=-2");
        Script.edge("3: BOUGHT: its END stands in a QUESTION that is a part", two, "tree:((2v0)v1) bought(1,2)=0 why(0,0,1)=2 why(0,1,1)=2 bought(1,0)=2 why(0,0,1)=2 why(0,1,1)=-2");
        Script.edge("3: BOUGHT: if it stands in none: as PARTY", two, "tree:(0v1) bought(1,2)=0 why(0,0,1)=-2 bought(1,6)=2 why(0,0,1)=-2");
        Script.edge("3: BOUGHT: if it stands in both: as PARTY", two, "tree:((0v2)v(1v2)) bought(1,2)=0 why(0,0,1)=-2 why(0,1,1)=-2 why(0,2,1)=-2 tree:(2v2) why(1,0,1)=0");
        Script.edge("3: BOUGHT: else as PARTY, none if the sum is 0", "who:3:21:01 who:4:21:10 bought(1,2)=0 tree:(0v1) why(0,0,0)=0 why(0,0,1)=0 wonBy(0,0)=0 run(0)=0");
        Script.edge("3: BOUGHT: its END stands in a part of a { } that is not taken", two, "tree:({0>1:0/2}v1) of(0,2)=2 bought(1,0)=0 why(0,0,1)=2 bought(1,2)=0 why(0,0,1)=2");
        Script.edge("3: BOUGHT: its END is only asked in a part: it does not stand there", two, "tree:(0v{2>2:1/1}) bought(1,2)=0 why(0,0,1)=-2 wish(0,1,0)=1 wish(1,1,9)=0 why(0,0,1)=2");
    }

    /** A MIXED one between two who bring 0 of (1v0), so that it is asked 1 or 2 as PLAIN, 0 or 2 as DEEP. */
    private static String mixedOne(String voices, String wishes) {
        return "who:0:90:012 who:5:" + voices + "0:" + wishes + " who:0:90:120 tree:((1v0)v2) ask(0,0,1)=0 ";
    }

    private static void mixed() {
        Script.edge("3: MIXED: half of its VOICES (cut) as PLAIN: none of 1", mixedOne("1", "101"), "why(0,0,1)=0");
        Script.edge("3: MIXED: half of its VOICES (cut) as PLAIN: 1 of 2", mixedOne("2", "101"), "why(0,0,1)=1");
        Script.edge("3: MIXED: half of its VOICES (cut) as PLAIN: 1 of 3", mixedOne("3", "101"), "why(0,0,1)=1");
        Script.edge("3: MIXED: half of its VOICES (cut) as PLAIN: 4 of 9", mixedOne("9", "101"), "why(0,0,1)=4");
        Script.edge("3: MIXED: the rest as DEEP: 1 of 1", mixedOne("1", "211"), "why(0,0,1)=-1");
        Script.edge("3: MIXED: the rest as DEEP: 1 of 2", mixedOne("2", "211"), "why(0,0,1)=-1");
        Script.edge("3: MIXED: the rest as DEEP: 2 of 3", mixedOne("3", "211"), "why(0,0,1)=-2");
        Script.edge("3: MIXED: the rest as DEEP: 5 of 9", mixedOne("9", "211"), "why(0,0,1)=-5");
        Script.edge("3: MIXED: both halves against one another: 1 of 9 is left, none of 8", mixedOne("9", "201"), "why(0,0,1)=-1 who:5:80:201 why(0,0,3)=0");
        Script.edge("3: MIXED: both halves alike: all its VOICES", mixedOne("9", "201"), "why(0,1,1)=9");
    }

    private static void winning() {
        Script.edge("3: a wins with more VOICES than b: by one, against the CHAIR", "set(1,1)=0 who:0:20:01 who:0:10:10 tree:(0v1) wonBy(0,0)=1 ask(0,0,0)=0 run(0)=0");
        Script.edge("3: b wins by one, against the CHAIR", "who:0:10:01 who:0:20:10 tree:(0v1) wonBy(0,0)=-1 ask(0,0,0)=1 run(0)=1");
        Script.edge("3: with as many that whose NAME is the lesser END (CHAIR 0)", "who:0:10:01 who:0:10:10 tree:(0v1) tree:(1v0) wonBy(0,0)=0 ask(0,0,0)=0 ask(1,0,0)=1 run(0)=0 run(1)=0");
        Script.edge("3: with as many that whose NAME is the greater END (CHAIR 1)", "set(1,1)=0 who:0:10:01 who:0:10:10 tree:(0v1) tree:(1v0) ask(0,0,0)=1 ask(1,0,0)=0 run(0)=1 run(1)=1");
        Script.edge("3: with as many the first, if these are one", "tree:((1v0)v1) tree:(1v(1v0)) tree:(2v2) ask(0,0,0)=0 run(0)=0 ask(1,0,0)=0 run(1)=1 ask(2,0,0)=0",
                "set(1,1)=0 ask(0,0,0)=0 run(0)=1 ask(1,0,0)=0 run(1)=1 ask(2,0,0)=0 tree:(1v(1v2)) run(3)=1");
        Script.edge("3: with as many: by the NAMES, not by what COMES", "tree:((2v0)v1) ask(0,0,1)=0 ask(0,0,0)=1 run(0)=1 set(1,1)=0 tree:((0v2)v1) ask(1,0,1)=2 ask(1,0,0)=1 run(1)=1");
        Script.edge("3: with as many: NAME of a { } is that of the part that is taken", "tree:({0>0:0/2}v1) ask(0,0,0)=1 set(1,1)=0 ask(0,0,0)=0 run(0)=2");
        Script.edge("3: WON BY: VOICES for a less those for b: 81, 0, below 0", "who:0:90:01 ".repeat(9), "tree:(0v1) tree:(1v0) tree:(1v1) wonBy(0,0)=81 wonBy(1,0)=-81 wonBy(2,0)=0");
        Script.edge("3: COMES of an END: it", "tree:2 tree:(2v2) run(0)=2 ask(1,0,1)=2 ask(1,0,2)=2 run(1)=2");
        Script.edge("3: COMES of a { }: that of the part that is taken", "round tree:{0>1:(1v2)/(2v0)} run(0)=1 tree:{1>0:(1v2)/(2v0)} run(1)=2 tree:({1>0:1/2}v0) ask(2,0,1)=2 run(2)=2");
        Script.edge("3: settled from behind: parts that do not win, and that are not taken, too", "round tree:{1>0:((1v0)v2)/0} run(0)=0 ask(0,0,0)=0 ask(0,1,0)=1 wonBy(0,1)=-1 tree:((2v1)v(0v2)) ask(1,2,0)=1");
    }

    private static void running() {
        Script.edge("15: run, no such TREE", "run(0)=-1 tree:1", Script.each("run(#)=-1", NO_TREES), "run(0)=1");
        Script.edge("15: run, nobody there", "tree:((2v1)v0) run(0)=0 set(1,1)=0 run(0)=2");
        Script.edge("15: run, an END alone, whoever is there", "who:0:90:09 tree:1 run(0)=1 set(0,1)=3 run(0)=1");
        Script.edge("16: ask, no such TREE", "ask(0,0,0)=-1 tree:(0v1)", Script.each("ask(#,0,0)=-1", NO_TREES), "ask(0,0,0)=0");
        Script.edge("16: ask, no such QUESTION", "tree:((0v1)v2) ask(0,1,0)=0 ask(0,2,0)=-1", Script.each("ask(0,#,0)=-1", FAR));
        Script.edge("16: ask, a TREE without QUESTIONS", "tree:0 tree:{0>1:1/2} ask(0,0,0)=-1 ask(0,0,1)=-1 ask(1,0,0)=-1 ask(1,0,2)=-1");
        Script.edge("16: ask, what 0 .. 2", "tree:(1v2) ask(0,0,0)=0 ask(0,0,1)=1 ask(0,0,2)=2 ask(0,0,3)=-1", Script.each("ask(0,0,#)=-1", FAR));
        Script.edge("17: wonBy, -1000000001: no such TREE or QUESTION", "wonBy(0,0)=-1000000001 who:0:10:10 tree:(0v1) tree:1 wonBy(0,0)=-1 wonBy(0,1)=-1000000001 wonBy(1,0)=-1000000001",
                Script.each("wonBy(0,#)=-1000000001 wonBy(#,0)=-1000000001", FAR), "wonBy(2,0)=-1000000001");
    }

    private static void asking() {
        Script.edge("18: why, -1000000001: no such TREE, QUESTION or MEMBER", "who:0:10:10 tree:(0v1) tree:1 why(0,0,0)=-1 why(0,0,1)=-1000000001 why(0,1,0)=-1000000001 why(1,0,0)=-1000000001",
                Script.each("why(0,0,#)=-1000000001 why(0,#,0)=-1000000001 why(#,0,0)=-1000000001", FAR), "why(2,0,0)=-1000000001");
        Script.edge("18: why, nobody there", "tree:(0v1) why(0,0,0)=-1000000001");
        Script.edge("18: why, from 9 to -9", "who:0:90:01 who:1:90:10 tree:(0v1) why(0,0,0)=9 why(0,0,1)=-9");
        Script.edge("18: why, in a part that is not taken", "who:0:30:01 tree:{1>0:(1v0)/2} why(0,0,0)=-3");
        Script.edge("19: ifAll, a KIND 0, 1", "round tree:((1v0)v2) ifAll(0,0)=0 ifAll(0,1)=2 ifAll(0,2)=-1", Script.each("ifAll(0,#)=-1", "3", "4", "5", "6", "-1", "min", "max"));
        Script.edge("19: ifAll, no such TREE", "ifAll(0,0)=-1 tree:1", Script.each("ifAll(#,0)=-1 ifAll(#,1)=-1", NO_TREES), "ifAll(0,1)=1");
        Script.edge("19: ifAll, nobody there", "tree:((2v0)v1) ifAll(0,0)=1 ifAll(0,1)=1");
        Script.edge("19: ifAll MEMBERS, of whatever KIND they are: VOICES stay", "round becomes(0,25)=0 becomes(1,32)=0 becomes(2,42)=0 bought(2,2)=0 tree:((1v0)v2) ifAll(0,0)=0 ifAll(0,1)=2",
                "about(0,2)=5 about(1,0)=3 about(2,2)=2 who:5:30:201 ifAll(0,0)=1");
        Script.edge("20: parts, -4: none", "round tree:((0v1)v2) parts(0)=-4 tree:1 parts(1)=-4 tree:{0>1:1/2} parts(2)=-4");
        Script.edge("20: parts, the first QUESTION: 0, or one further in", "round tree:((1v0)v2) parts(0)=0 tree:(2v((1v0)v2)) parts(1)=1 tree:(((1v0)v2)v((1v0)v2)) ask(2,1,0)=0 parts(2)=1");
        Script.edge("20: parts, in a part that is not taken, too", "round tree:{1>0:((1v0)v2)/0} parts(0)=0");
        Script.edge("20: parts, no such TREE", "parts(0)=-1 tree:1", Script.each("parts(#)=-1", NO_TREES));
        Script.edge("20: parts, nobody there", "tree:((2v0)v1) parts(0)=-4");
    }
}
