/** Boundary cases that the document names in section 2 and in promises 10 to 14, a test a sentence. */
public final class TreeEdgesTest {
    private static final String[] FAR = {"8", "-1", "min", "max"};
    private static final String[] NO_TREES = {"1", "-1", "12", "min", "max"};
    /** Everything that a text can hold, six deep. */
    private static final String WHOLE = "({0>1:(1v2)/{2>2:0/(0v(1v(2v0)))}}v{2>0:0/(1v1)})";
    private static final String CHOICES = "{0>1:{2>1:0/(1v{0>0:2/1})}/{1>0:(2v2)/0}}";

    public static void main(String[] args) {
        ends();
        shapes();
        depth();
        standing();
        faults();
        room();
        names();
        beating();
        calls();
        Checks.end();
    }

    /** The FAULT of a text, and that it is no TREE; at -4 that it is one. */
    private static String fault(int due, String text) {
        String told = due == -4 ? "tree(0)=0" : "tree(0)=" + (-100 - due);
        return "text:0:" + text + " fault(0)=" + due + " " + told + " ";
    }

    /** The FAULT where no TREE is told. */
    private static String place(int due, String text) {
        return "text:0:" + text + " fault(0)=" + due + " ";
    }

    private static void ends() {
        Script.edge("2: a TREE can be an END alone (a digit): 0 .. 6", "set(0,7)=3", place(-4, "0"), fault(-4, "6"), "run(0)=6 of(0,0)=0");
        Script.edge("2: an END is a digit: the signs next to the digits are none", "set(0,7)=3", fault(0, "/"), fault(0, ":"), fault(0, "8"), fault(0, "9"),
                fault(1, "(/v0)"), fault(3, "(0v:)"), fault(1, "{/>0:0/0}"), fault(3, "{0>::0/0}"));
        Script.edge("2: FAULT: a digit of no END that is there, too",
                fault(0, "3"), fault(1, "(3v0)"), fault(3, "(0v3)"), fault(1, "{3>0:1/2}"), fault(3, "{0>3:1/2}"), fault(5, "{0>1:3/2}"), fault(7, "{0>1:2/3}"),
                "set(0,4)=3", fault(-4, "{0>3:3/2}"));
        Script.edge("2: FAULT: a digit of no END that is there, with 1 END and with 7",
                "set(0,1)=3", place(-4, "(0v0)"), fault(3, "(0v1)"), "set(0,7)=1", place(-4, "(6v6)"), fault(3, "(0v7)"));
    }

    private static void shapes() {
        Script.edge("2: a TREE is read from bytes (no blanks)", fault(0, "_0"), fault(1, "0_"), fault(1, "(_0v1)"), fault(2, "(0_v1)"), fault(3, "(0v_1)"),
                fault(4, "(0v1_)"), fault(5, "(0v1)_"), fault(1, "{_0>1:1/0}"), fault(2, "{0_>1:1/0}"), fault(8, "{0>1:1/0_}"));
        Script.edge("2: a TREE is read from bytes: their lowest bits",
                "bytes:0:296,-208,374,305,-215 fault(0)=-4 put(0,0,-40)=0 fault(0)=0 put(0,0,40)=0 put(0,1,-80)=0 fault(0)=1 put(0,1,0)=0 fault(0)=1");
        Script.edge("2: ( TREE v TREE ): nothing else in it", fault(1, "()"), fault(1, "(v0)"), fault(2, "(0)"), fault(2, "(01)"), fault(2, "(0>1)"), fault(2, "(0V1)"),
                fault(3, "(0v)"), fault(4, "(0v1v2)"), fault(4, "(0v1}"), fault(0, ")0v1("), fault(0, "[0v1]"));
        Script.edge("2: { END > END : TREE / TREE }: nothing else in it", fault(1, "{}"), fault(2, "{0}"), fault(2, "{0<1:1/0}"), fault(2, "{0v1:1/0}"), fault(4, "{0>1/1:0}"),
                fault(6, "{0>1:1v0}"), fault(6, "{0>1:1:0}"), fault(8, "{0>1:1/0)"), fault(8, "{0>1:1/0/2}"), fault(3, "{0>>1:1/0}"), fault(1, "{>0:1/2}"), fault(3, "{0>:1/2}"), fault(5, "{0>1:/2}"), fault(7, "{0>1:1/}"));
        Script.edge("2: { END > END ..: what is asked are ENDS, no TREES", fault(1, "{(0v1)>1:1/0}"), fault(3, "{0>(0v1):1/0}"), fault(1, "{{0>1:1/0}>1:1/0}"));
    }

    private static String times(int n, String part) {
        return part.repeat(n);
    }

    private static void depth() {
        Script.edge("2: ( and { together 6 deep at most: six (", fault(-4, times(6, "(") + "0" + times(6, "v1)")), "of(0,0)=6 of(0,1)=3 of(0,2)=0");
        Script.edge("2: ( and { together 6 deep at most: six {", fault(-4, times(6, "{0>1:") + "0" + times(6, "/1}")), "of(0,0)=0 run(0)=0");
        Script.edge("2: ( and { together 6 deep at most: three of each", fault(-4, times(3, "({0>1:") + "2" + times(3, "/1}v1)")), "of(0,0)=3 of(0,2)=2");
        Script.edge("2: a seventh ( or { is the FAULT: behind six (", fault(6, times(7, "(")), fault(6, times(6, "(") + "{"), fault(6, times(7, "(") + "0" + times(7, "v1)")),
                fault(6, times(6, "(") + "{0>1:1/0}" + times(6, "v1)")));
        Script.edge("2: a seventh ( or { is the FAULT: behind six {", fault(30, times(6, "{0>1:") + "("), fault(30, times(7, "{0>1:")));
        Script.edge("2: a seventh ( or { is the FAULT: behind six of both", fault(18, times(3, "({0>1:") + "("), fault(18, times(3, "({0>1:") + "{"),
                fault(18, times(3, "{0>1:(") + "(0v1)"));
        Script.edge("2: a seventh ( or { is the FAULT: in second parts too", fault(18, times(7, "(0v")), fault(42, times(7, "{0>1:0/")),
                fault(18, times(6, "(0v") + "{0>1:1/0}" + times(6, ")")));
        Script.edge("2: 6 deep: what is closed does not count", fault(-4, "((0v1)v((0v1)v((0v1)v((0v1)v((0v1)v(0v1))))))"), "of(0,0)=11",
                place(32, "((0v1)v((0v1)v((0v1)v((0v1)v((0v(0v(0v1)))v1)))))"));
    }

    private static void standing() {
        Script.edge("2: ENDS that stand in it are TREES in it (not the two that are asked)", "set(0,7)=3 tree:{5>6:1/2} of(0,1)=6 tree:{1>5:1/1} of(1,1)=2",
                "tree:6 of(2,1)=64 tree:(0v0) of(3,1)=1 tree:(0v{1>2:3/6}) of(4,1)=73");
        Script.edge("2: ENDS that stand in it: in parts that are not taken too", "set(0,7)=3 tree:{0>1:2/6} run(0)=2 of(0,1)=68 tree:{1>0:(4v5)/6} run(1)=6 of(1,1)=112");
        Script.edge("2: { }: the first, if the first END BEATS the second, else the other one",
                "who:0:10:01 tree:{0>1:1/2} run(0)=1 tree:{1>0:1/2} run(1)=2 wish(0,0,1)=0 run(0)=1 run(1)=2 set(1,1)=0 run(0)=2 run(1)=1");
        Script.edge("2: none BEATS itself: the other part is taken",
                "tree:{0>0:1/2} run(0)=2 of(0,2)=2 set(1,1)=0 run(0)=2 of(0,2)=2 who:0:10:0 run(0)=2 surely(0,0,1)=0");
    }

    private static void faults() {
        for (int n = 0; n < WHOLE.length(); n++) {
            Script.edge("2: FAULT (the size, if it ends too early): the first " + n + " bytes of a QUESTION", fault(n, WHOLE.substring(0, n)));
        }
        for (int n = 1; n < CHOICES.length(); n++) {
            Script.edge("2: FAULT (the size, if it ends too early): the first " + n + " bytes of a { }", fault(n, CHOICES.substring(0, n)));
        }
        Script.edge("2: FAULT: none, if it ends in time", place(-4, CHOICES), fault(-4, WHOLE), "of(0,0)=6");
        Script.edge("2: FAULT: the size of a text of 120 bytes: v or ) is due", fault(120, longCut()));
        Script.edge("2: FAULT: the size of a text of 120 bytes: a TREE is due", fault(120, "(" + longest() + "v("));
        Script.edge("2: FAULT: the size of a text of 120 bytes: the first of the two that are asked is due", fault(120, "(" + longest() + "v{"));
        Script.edge("2: FAULT: the size of a text of 120 bytes: the second of the two that are asked is due", fault(120, "(" + sixteen() + "v(" + twelve() + "v((1v1)v{0>"));
        Script.edge("2: FAULT: the size of no text at all is 0", "row(0,0,0)=0 fault(0)=0 tree(0)=-100 count(4)=0");
        Script.edge("2: FAULT: the first byte with which no TREE can go on, behind a whole one", fault(1, "00"), fault(1, "0v1"), fault(1, "0)"), fault(5, "(0v1))"),
                fault(5, "(0v1)v1"), fault(9, "{0>1:1/0}0"), fault(1, "0" + times(119, "_")));
        Script.edge("2: FAULT: the first of several", fault(0, "x(0v9)"), fault(1, "(9v9("), fault(2, "(0x9)"), fault(2, "{0<9x"), fault(3, "(0v3v4"));
    }

    /** 120 bytes of a TREE that would take some more. */
    static String longCut() {
        return ("(" + sixteen() + "v" + sixteen() + ")").substring(0, 120);
    }

    /** Of 61 bytes, 4 deep. */
    private static String sixteen() {
        return "((((0v1)v(0v1))v((0v1)v(0v1)))v(((0v1)v(0v1))v((0v1)v(0v1))))";
    }

    /** Of 45 bytes, 4 deep. */
    private static String twelve() {
        return "((((0v1)v(0v1))v((0v1)v(0v1)))v((0v1)v(0v1)))";
    }

    private static void room() {
        Script.edge("2: TREES, 12 at most: a thirteenth has no room", "text:0:0", Script.upTo("tree(0)=#", 0, 11), "tree(0)=-2 count(4)=12 run(11)=0 run(12)=-1");
        Script.edge("2: TREES: a later change of how many ENDS there are doesn't matter to them",
                "set(0,7)=3 who:0:10:9999990 tree:(5v6) run(0)=6 set(0,1)=7 run(0)=6 of(0,1)=96 ask(0,0,2)=6 wonBy(0,0)=-1 ifAll(0,1)=6 finds(0,6)=3 chance(0,6)=1");
        Script.edge("2: TREES: ENDS that aren't there have WISHES, too", "set(0,7)=3 tree:(5v6) set(0,1)=7 member(0,10)=0 run(0)=5 wish(0,6,4)=5 run(0)=6 wish(0,5,3)=5 run(0)=5");
        Script.edge("2: TREES: told again, a text with an END that is gone is none", "set(0,7)=3 text:0:(5v6) tree(0)=0 set(0,6)=7 fault(0)=3 tree(0)=-103 run(0)=5");
        Script.edge("2: QUESTIONS are numbered as their ( come (in parts of a { } that are not taken, too)",
                "who:0:10:012 tree:((2v1)v{0>1:(2v2)/((1v0)v2)}) of(0,0)=5",
                "ask(0,0,1)=1 ask(0,0,2)=2 ask(0,1,1)=2 ask(0,1,2)=1 ask(0,2,1)=2 ask(0,2,2)=2 ask(0,3,1)=0 ask(0,3,2)=2 ask(0,4,1)=1 ask(0,4,2)=0 ask(0,5,1)=-1");
    }

    private static void names() {
        Script.edge("2: NAME: an END's is it; a QUESTION's that of its first part", "tree:2 of(0,2)=2 tree:(2v0) of(1,2)=2 run(1)=0 tree:(((2v0)v1)v0) of(2,2)=2");
        Script.edge("2: NAME: a { }'s that of the part that is taken", "who:0:10:01 tree:({0>1:(2v0)/(1v0)}v0) of(0,2)=2 wish(0,0,9)=0 of(0,2)=1 tree:{0>0:1/(2v0)} of(1,2)=2");
    }

    private static void beating() {
        Script.edge("2: it BEATS, if that is above 0: by 1 voice, whatever the CHAIR", "who:0:90:00 who:1:40:01 who:2:30:10 beat(0,1)=1 beat(1,0)=-1 stands(0,1)=0 stands(1,0)=0",
                "set(1,1)=0 stands(0,1)=0 stands(1,0)=0 wish(2,0,0)=1 wish(2,1,0)=0 wish(1,0,2)=0 beat(1,0)=4 stands(0,1)=1 set(1,0)=1 stands(0,1)=1");
        Script.edge("2: at 0 the CHAIR's rule: 0 the lesser END (at first)", "stands(1,2)=1 stands(2,1)=1 stands(5,6)=5 stands(6,5)=5 who:0:30:01 who:4:30:10 beat(0,1)=0 stands(1,0)=0 best()=0");
        Script.edge("2: at 0 the CHAIR's rule: 1 the greater one", "set(1,1)=0 stands(1,2)=2 stands(2,1)=2 stands(5,6)=6 stands(6,5)=6 who:0:30:01 who:4:30:10 beat(0,1)=0 stands(1,0)=1");
        Script.edge("2: BEATS by VOICES of MEMBERS of all KINDS alike",
                "who:0:10:01 who:1:20:01 who:2:30:01 who:3:40:01 who:4:50:01 bought(4,1)=0 who:5:10:01 beat(0,1)=16 beat(1,0)=-16 stands(1,0)=0");
        Script.edge("2: BEATS by 81 at most", nineOf("01"), "beat(0,1)=81 beat(1,0)=-81 beat(3,4)=0");
    }

    private static String nineOf(String wishes) {
        return times(9, "who:0:90:" + wishes + " ");
    }

    private static void calls() {
        Script.edge("10: fault, no such SHELF", Script.each("fault(#)=-1", FAR), "text:7:0 fault(7)=-4");
        Script.edge("10: fault, -11", "fault(0)=-11 text:1:0 fault(0)=-11 fault(1)=-4 keep(1,0,0)=0 fault(1)=-11");
        Script.edge("10: fault, -12 (no ROW of bytes)", "member(0,10)=0 keep(0,1,0)=0 fault(0)=-12 row(0,1,1)=0 put(0,0,48)=0 fault(0)=-12 row(0,2,1)=0 put(0,0,48)=0 fault(0)=-12 text:0:0 fault(0)=-4");
        Script.edge("10: fault, -4: it is a TREE, though there is no room for it", "text:0:(0v1)", Script.upTo("tree(0)=#", 0, 11), "fault(0)=-4 tree(0)=-2 text:0:(0v fault(0)=3 tree(0)=-2");
        Script.edge("11: tree, no such SHELF", Script.each("tree(#)=-1", FAR), "text:7:0 tree(7)=0");
        Script.edge("11: tree, -1, -2, -11, -12, -100 less a FAULT, in this order", "member(0,10)=0 keep(1,1,0)=0 row(2,1,1)=0 text:3:( text:0:0",
                "tree(8)=-1 tree(4)=-11 tree(1)=-12 tree(2)=-12 tree(3)=-101", Script.upTo("tree(0)=#", 0, 11),
                "tree(8)=-1 tree(-1)=-1 tree(4)=-2 tree(1)=-2 tree(2)=-2 tree(3)=-2 tree(0)=-2");
        Script.edge("11: tree, its number: 0 first", "tree:2 tree:1 tree:0 run(0)=2 run(1)=1 run(2)=0");
        Script.edge("11: tree: what is put in the SHELF then changes no TREE", "text:0:(0v1) tree(0)=0 put(0,1,50)=0 of(0,1)=3 keep(0,0,0)=0 of(0,1)=3 run(0)=0");
        Script.edge("12: of, no such TREE", "of(0,0)=-1 tree:0", Script.each("of(#,0)=-1 of(#,2)=-1", NO_TREES), "of(0,0)=0");
        Script.edge("12: of, what 0 .. 2", "tree:(2v2) of(0,0)=1 of(0,1)=4 of(0,2)=2", Script.each("of(0,#)=-1", "3", "-1", "min", "max"));
        Script.edge("12: of, QUESTIONS: none of an END or { }, 29 of the longest text", "tree:1 of(0,0)=0 tree:{0>1:2/1} of(1,0)=0", "text:0:" + longest(), "tree(0)=2 of(2,0)=29");
        Script.edge("13: beat, x BEATS y (0 .. 6)", "who:0:10:0555551 beat(0,6)=1 beat(6,0)=-1 beat(6,6)=0", Script.each("beat(#,0)=-1000000001 beat(0,#)=-1000000001", "7", "-1", "min", "max"));
        Script.edge("13: beat, nobody there", "beat(0,1)=0 beat(1,0)=0 beat(3,3)=0");
        Script.edge("14: stands, no such END", "stands(0,6)=0 stands(6,0)=0", Script.each("stands(#,0)=-1 stands(0,#)=-1 stands(#,#)=-1", "7", "-1", "min", "max"));
        Script.edge("14: stands (x, if they are one)", Script.upTo("stands(#,#)=#", 0, 6), "set(1,1)=0", Script.upTo("stands(#,#)=#", 0, 6));
    }

    /** Of 117 bytes: 30 ENDS, 29 QUESTIONS, 5 deep. */
    static String longest() {
        String three = "(((1v1)v(1v1))v((1v1)v(1v1)))";
        return "((" + three + "v" + three + ")v(" + three + "v((1v1)v((1v1)v(1v1)))))";
    }
}
