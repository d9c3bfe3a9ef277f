/** Boundary cases that the document names in section 4 of KILLERS and all behind them, and in promises 26 to 33, 36, 37, a test a sentence. */
public final class PlotEdgesTest {
    private static final String[] NO_TREES = {"1", "-1", "12", "min", "max"};
    private static final String[] NO_ENDS = {"7", "-1", "min", "max"};
    private static final String[] FAR = {"8", "-1", "min", "max"};
    /** PLAIN ones bring 0 of it among the three of a round, DEEP ones 2. */
    private static final String AGENDA = "tree:((1v0)v2) ";

    public static void main(String[] args) {
        killers();
        shields();
        tell();
        falseVote();
        falseVoteRow();
        chance();
        boughtOff();
        bestLie();
        surely();
        breachLaws();
        breachOfMore();
        breachOfOne();
        breachCalls();
        finds();
        Checks.end();
    }

    private static void killers() {
        Script.edge("4: KILLERS: ENDS x (there)", "round tree:0 killers(0)=4 set(0,2)=3 killers(0)=0 set(0,1)=2 killers(0)=0 set(0,7)=1 killers(0)=4");
        Script.edge("4: KILLERS: such that it ends in another END than TREE: not what came already", "round tree:((0v1)v2) run(0)=2 killers(0)=0 tree:0 killers(1)=4 tree:(0v0) killers(2)=4");
        Script.edge("4: KILLERS: of a TREE with an END that is not there", "set(0,7)=3 tree:6 set(0,3)=7 killers(0)=7 set(1,1)=0 killers(0)=0");
        Script.edge("4: KILLERS: nobody there: by the CHAIR", "tree:1 killers(0)=1 set(1,1)=0 killers(0)=4 tree:((2v0)v1) killers(1)=0");
        Script.edge("4: KILLERS: of a TREE that is 6 deep", "round tree:((((((0v0)v0)v0)v0)v0)v0) killers(0)=4 shields(0,2)=0");
        Script.edge("26: killers, no such TREE", "killers(0)=-1 tree:0", Script.each("killers(#)=-1", NO_TREES), "killers(0)=0");
    }

    private static void shields() {
        // Names 5 against 0, 5 against 6: whoever stands against 5 wins.
        Script.edge("4: SHIELDS against a killer x: ENDS z (there)", "set(0,7)=3 who:0:10:1999990 tree:(5v6) run(0)=6 killers(0)=31 shields(0,0)=64 shields(0,4)=64 set(0,3)=7 killers(0)=7 shields(0,0)=0");
        Script.edge("4: SHIELDS: none", "round tree:0 shields(0,2)=0");
        Script.edge("4: SHIELDS: none among DEEP ones: what beat it comes again", "round becomes(0,10)=0 becomes(1,10)=0 becomes(2,10)=0 tree:(1v0) run(0)=0 killers(0)=4 shields(0,2)=0");
        Script.edge("4: SHIELDS: it ends as TREE", "set(0,4)=3 who:0:10:0241 who:0:10:4021 who:0:10:2401 tree:(1v0) killers(0)=8 shields(0,3)=1");
        Script.edge("27: shields, -3: it is no killer", "round tree:0 shields(0,0)=-3 shields(0,1)=-3 tree:((0v1)v2) shields(1,0)=-3 shields(1,1)=-3 shields(1,2)=-3");
        Script.edge("27: shields, an END that is not there", "round tree:0 shields(0,3)=-1 shields(0,6)=-1", Script.each("shields(0,#)=-1", NO_ENDS), "set(0,2)=3 shields(0,2)=-1 set(0,4)=2 shields(0,3)=-3");
        Script.edge("27: shields, no such TREE", "round shields(0,2)=-1 tree:0", Script.each("shields(#,2)=-1", NO_TREES), "shields(0,2)=0");
    }

    private static void tell() {
        Script.edge("4: TELL: nobody has to be told, if it ends so", "round", AGENDA, "tell(0,0)=0 tree:2 tell(1,2)=0");
        Script.edge("4: TELL: -4 none", "round", AGENDA, "tell(0,1)=-4 tree:2 tell(1,0)=-4");
        Script.edge("4: TELL: nobody there", AGENDA, "tell(0,0)=0 tell(0,1)=-4 tell(0,2)=-4");
        Script.edge("4: TELL: the fewest: one with 2 VOICES, not two with 1", "who:0:10:201 who:0:10:201 who:0:20:201 who:0:20:012 who:0:30:120", AGENDA, "run(0)=0 wonBy(0,0)=3 tell(0,2)=4");
        Script.edge("4: TELL: of several the least set", "round who:0:10:201 who:0:10:120", AGENDA, "run(0)=0 wonBy(0,0)=1 tell(0,2)=2");
        Script.edge("4: TELL: PLAIN MEMBERS (KIND 0) alone", "who:0:10:012 who:2:10:201 who:0:10:120 who:0:10:201 who:0:10:120", AGENDA, "tell(0,2)=8 becomes(3,30)=0 tell(0,2)=-4 becomes(3,0)=3 becomes(1,0)=2 tell(0,2)=2",
                Script.each("becomes(1,#0)=0 tell(0,2)=8 becomes(1,0)=#", "2", "3"));
        Script.edge("4: TELL: not MEMBER 0, if that is not PLAIN", "who:2:10:201 who:0:10:012 who:0:10:120", AGENDA, "run(0)=0 tell(0,2)=-4 becomes(0,0)=2 tell(0,2)=1");
        Script.edge("4: TELL: all of them, where nothing less will do", "who:0:10:021 ".repeat(8), "who:1:70:120", AGENDA, "run(0)=2 tell(0,0)=255 becomes(0,10)=0 tell(0,0)=254");
        Script.edge("4: TELL: as many VOICES are enough with the CHAIR, not against it", "who:0:10:021 ".repeat(8), "who:1:80:120", AGENDA, "tell(0,0)=255 set(1,1)=0 tell(0,0)=-4");
        Script.edge("28: tell, an END (0 .. 6)", "round", AGENDA, "tell(0,3)=-4 tell(0,6)=-4", Script.each("tell(0,#)=-1", NO_ENDS));
        Script.edge("28: tell, no such TREE", "tell(0,0)=-1 tree:0", Script.each("tell(#,0)=-1", NO_TREES), "tell(0,0)=0");
    }

    private static void falseVote() {
        Script.edge("4: FALSE: -4 none", "round bytes:0:2,0,1,5,5,5,5", AGENDA, "falseVote(0,0)=-4");
        Script.edge("4: FALSE: nobody there", "bytes:0:0,0,0,0,0,0,0", AGENDA, "falseVote(0,0)=-4");
        Script.edge("4: FALSE: the first MEMBER that gains", "round who:0:10:201 who:0:10:120 bytes:0:2,1,0,5,5,5,5", AGENDA, "falseVote(0,0)=1 run(0)=0");
        Script.edge("4: FALSE: the first of all", "who:0:10:201 who:0:10:012 who:0:10:120 bytes:0:2,1,0,5,5,5,5", AGENDA, "falseVote(0,0)=0 becomes(0,10)=0 falseVote(0,0)=-4");
        Script.edge("4: FALSE: the last MEMBER", "who:0:10:00 ".repeat(8), "who:0:10:91 bytes:0:0,0,0,0,0,0,0 tree:{1>0:0/1} set(1,1)=0 wish(8,1,9)=1 wish(8,0,1)=9 run(0)=1 falseVote(0,0)=8");
        Script.edge("4: FALSE: by its own WISHES better, not as good", "round wish(1,2,2)=1 bytes:0:2,1,0,5,5,5,5", AGENDA, "run(0)=0 falseVote(0,0)=-4 wish(1,2,1)=2 falseVote(0,0)=1 wish(1,2,3)=1 falseVote(0,0)=-4");
        Script.edge("4: FALSE: for a TREE that is an END nobody gains", "round bytes:0:0,0,0,0,0,0,0 tree:1 falseVote(0,0)=-4");
    }

    private static void falseVoteRow() {
        Script.edge("29: falseVote, -13: not 7", "round", AGENDA, Script.each("row(0,0,#)=0 falseVote(0,0)=-13", "0", "3", "6", "8", "120"), "row(0,0,7)=0 falseVote(0,0)=-4");
        Script.edge("29: falseVote, -13: not 0 .. 9", "round tree:1 row(0,0,7)=0", Script.upTo("put(0,#,10)=0 falseVote(0,0)=-13 put(0,#,-1)=0 falseVote(0,0)=-13 put(0,#,9)=0 falseVote(0,0)=-4 put(0,#,0)=0", 0, 6),
                "put(0,6,127)=0 falseVote(0,0)=-13 put(0,6,128)=0 falseVote(0,0)=-13 put(0,6,256)=0 falseVote(0,0)=-4");
        Script.edge("29: falseVote, no such TREE or SHELF", "round bytes:0:0,0,0,0,0,0,0 falseVote(0,0)=-1 tree:0", Script.each("falseVote(#,0)=-1", NO_TREES), Script.each("falseVote(0,#)=-1", FAR));
        Script.edge("29: falseVote, -11", "tree:0 falseVote(0,0)=-11");
        Script.edge("29: falseVote, -12 (no ROW of bytes)", "round tree:0 keep(0,1,0)=0 falseVote(0,0)=-12 row(0,1,7)=0 falseVote(0,0)=-12 row(0,2,7)=0 falseVote(0,0)=-12");
        Script.edge("29: falseVote, -1 ahead of -11, -12 ahead of -13", "round falseVote(0,1)=-1 tree:0 falseVote(1,1)=-1 falseVote(0,1)=-11 row(1,1,6)=0 falseVote(1,1)=-1 falseVote(0,1)=-12 row(1,2,0)=0 falseVote(0,1)=-12");
    }

    private static void chance() {
        Script.edge("4: CHANCE: MEMBERS with CHANCE above 0: none: in units of 1", "tree:(0v1) chance(0,0)=1 chance(0,1)=0 who:0:10:10 chance(0,0)=0 chance(0,1)=1 doubted(0,0,0)=5 chance(0,1)=1");
        Script.edge("4: CHANCE: a hundredth, and ninety-nine", "who:0:10:01:1:10 tree:(0v1) chance(0,0)=99 chance(0,1)=1 sure(0,99)=1 chance(0,0)=1 chance(0,1)=99");
        Script.edge("4: CHANCE: all hundredths are counted, in units of 100", "who:0:10:01:100:10 tree:(0v1) chance(0,0)=0 chance(0,1)=100 sure(0,0)=100 chance(0,0)=1 chance(0,1)=0");
        Script.edge("4: CHANCE: DOUBTED WISHES that are as the WISHES", "who:0:10:01:50:01 tree:(0v1) chance(0,0)=100 chance(0,1)=0");
        Script.edge("4: CHANCE: products of two, summed up", "who:0:20:01:30:10 who:0:10:01:60:10 tree:(0v1) chance(0,0)=7000 chance(0,1)=3000 set(1,1)=0 chance(0,0)=7000",
                "who:0:10:01 chance(0,0)=7000 chance(0,1)=3000 set(1,0)=1 chance(0,0)=8200 chance(0,1)=1800");
        Script.edge("4: CHANCE: 6 at most: six in units of 100 to the power of 6", "who:0:10:01:50:10 ".repeat(6), "tree:0 tree:(0v1) chance(0,0)=1000000000000 chance(1,0)=656250000000 chance(1,1)=343750000000 chance(0,1)=0");
        Script.edge("4: CHANCE: the first ones by numbers, others are as WISHES", "who:0:10:01:100:10 ".repeat(6), "who:0:90:01:100:10 tree:(0v1) chance(0,0)=1000000000000 chance(0,1)=0 sure(2,0)=100 chance(0,0)=0 chance(0,1)=1000000000000");
        Script.edge("4: CHANCE: 6 at most: those with CHANCE 0 ahead of them don't count", "who:0:10:01 who:0:10:01 who:0:10:01 who:0:90:01:100:10 tree:(0v1) chance(0,1)=100", "who:0:10:01:100:01 ".repeat(5), "chance(0,1)=1000000000000 chance(0,0)=0");
        Script.edge("4: CHANCE: the last of nine MEMBERS alone", "who:0:10:00 ".repeat(8), "who:0:10:01:25:10 tree:(0v1) chance(0,0)=75 chance(0,1)=25 surely(0,1,0)=0 surely(1,0,1)=1");
        Script.edge("30: chance, an END (0 .. 6)", "tree:0 chance(0,6)=0", Script.each("chance(0,#)=-1", NO_ENDS));
        Script.edge("30: chance, no such TREE", "chance(0,0)=-1 tree:0", Script.each("chance(#,0)=-1", NO_TREES), "chance(0,0)=1");
    }

    private static void boughtOff() {
        Script.edge("4: BOUGHT OFF: nobody has to be bought, if it ends so", "round", AGENDA, "boughtOff(0,0)=0 tree:2 boughtOff(1,2)=0");
        Script.edge("4: BOUGHT OFF: -4 none", "round tree:2 boughtOff(0,0)=-4", AGENDA, "boughtOff(1,3)=-4");
        Script.edge("4: BOUGHT OFF: nobody there", "tree:(0v1) boughtOff(0,0)=0 boughtOff(0,1)=-4");
        Script.edge("4: BOUGHT OFF: the fewest: one with 5 VOICES, not two with 4 and 1", "who:0:40:01 who:0:10:01 who:0:50:01 tree:(0v1) boughtOff(0,1)=5 wish(1,0,1)=0 wish(1,1,0)=1 boughtOff(0,1)=4 set(1,1)=0 boughtOff(0,1)=1");
        Script.edge("4: BOUGHT OFF: of several the least set", "who:0:10:01 who:0:10:01 who:0:10:01 tree:(0v1) boughtOff(0,1)=3 set(1,1)=0 boughtOff(0,1)=3 who:0:10:01 boughtOff(0,1)=3 set(1,0)=1 boughtOff(0,1)=7");
        Script.edge("4: BOUGHT OFF: MEMBERS (of any KIND, BOUGHT ones too)", "member(4,10)=0 tree:(0v1) boughtOff(0,1)=1", Script.each("becomes(0,#0)=4 boughtOff(0,1)=1 becomes(0,40)=#", "0", "1", "2", "3", "5"), "boughtOff(0,1)=1 bought(0,1)=0 boughtOff(0,1)=0");
        Script.edge("4: BOUGHT OFF (of party 0): 1 stands in both parts, so they go with their party", "who:3:30:01 who:3:41:10 who:0:20:01 tree:({2>2:1/0}v{0>0:2/1}) run(0)=0 boughtOff(0,1)=2 boughtOff(0,0)=0");
        Script.edge("4: BOUGHT OFF: two, where one leaves as many VOICES", "who:0:10:01 who:0:10:01 tree:(0v1) boughtOff(0,1)=3 set(1,1)=0 boughtOff(0,1)=1");
        Script.edge("4: BOUGHT OFF: the last of nine", "who:0:10:01 ".repeat(8), "who:0:90:01 tree:(0v1) boughtOff(0,1)=256");
        Script.edge("31: boughtOff, an END (0 .. 6)", "round", AGENDA, "boughtOff(0,6)=-4", Script.each("boughtOff(0,#)=-1", NO_ENDS));
        Script.edge("31: boughtOff, no such TREE", "boughtOff(0,0)=-1 tree:0", Script.each("boughtOff(#,0)=-1", NO_TREES), "boughtOff(0,0)=0");
    }

    private static void bestLie() {
        int as = Script.row8(0, 1, 2);
        Script.edge("4: BEST LIE: of several the first by numbers", "round", AGENDA, "bestLie(0,1,0)=" + Script.row8(0, 2, 1), "bestLie(0,1,1)=2 bestLie(0,0,0)=" + as, "bestLie(0,0,1)=0");
        Script.edge("4: BEST LIE: nothing helps: the first of all", "round tree:1 bestLie(0,2,0)=" + as, "bestLie(0,2,1)=1");
        Script.edge("4: BEST LIE: the last of all", "who:0:10:990 tree:{2>1:{1>0:2/0}/1} bestLie(0,0,0)=" + Script.row8(2, 1, 0), "bestLie(0,0,1)=2");
        Script.edge("4: BEST LIE: what is liked most, though it comes late", "who:0:10:051 tree:{1>0:0/2} run(0)=2 bestLie(0,0,0)=" + Script.row8(1, 0, 2), "bestLie(0,0,1)=0 wish(0,2,0)=1 bestLie(0,0,0)=" + as, "bestLie(0,0,1)=2");
        Script.edge("4: BEST LIE: own WISHES alike: the first of all", "who:0:10:777 tree:(2v1) bestLie(0,0,0)=" + as, "bestLie(0,0,1)=1");
        Script.edge("4: BEST LIE: of one END alone", "set(0,1)=3 who:0:10:3 tree:(0v0) bestLie(0,0,0)=0 bestLie(0,0,1)=0");
        Script.edge("4: BEST LIE: of seven ENDS, seven digits", "set(0,7)=3 who:0:10:5555505 tree:(5v3) bestLie(0,0,0)=" + Script.row8(0, 1, 2, 4, 5, 3, 6), "bestLie(0,0,1)=5",
                "tree:0 bestLie(1,0,0)=" + Script.row8(0, 1, 2, 3, 4, 5, 6));
        Script.edge("4: BEST LIE: ENDS that aren't there 9: behind all that are, and alike", "set(0,7)=3 who:0:10:9999910 tree:(2v6) tree:(5v6) set(0,3)=7 run(0)=6 bestLie(0,0,1)=2 bestLie(0,0,0)=" + as,
                "run(1)=6 bestLie(1,0,1)=5 set(1,1)=0 bestLie(1,0,1)=6 bestLie(1,0,0)=" + as);
        Script.edge("4: BEST LIE: the first END that isn't there", "set(0,4)=3 who:0:10:9990 tree:(2v3) set(0,3)=4 run(0)=3 bestLie(0,0,1)=2 bestLie(0,0,0)=" + as, "set(0,4)=3 bestLie(0,0,1)=3 bestLie(0,0,0)=" + Script.row8(0, 1, 3, 2));
        Script.edge("32: bestLie, what 0, 1", "who:0:10:0 tree:0", Script.each("bestLie(0,0,#)=-1", "2", "-1", "min", "max"));
        Script.edge("32: bestLie, no such MEMBER", "tree:0 bestLie(0,0,0)=-1 who:0:10:0", Script.each("bestLie(0,#,0)=-1", "1", "-1", "9", "min", "max"), "bestLie(0,0,1)=0");
        Script.edge("32: bestLie, no such TREE", "who:0:10:0 bestLie(0,0,0)=-1 tree:0", Script.each("bestLie(#,0,0)=-1", NO_TREES));
    }

    private static void surely() {
        Script.edge("4: SURE: x BEATS y in each of the cases: no MEMBER with CHANCE: one case", "surely(0,1,0)=1 surely(0,1,1)=1 surely(1,0,0)=0 surely(1,0,1)=0 who:0:10:10 surely(1,0,0)=1 surely(1,0,1)=1 surely(0,1,1)=0");
        Script.edge("4: SURE (whatever the CHANCES are): 1, 100", "who:0:10:01:1:10 surely(0,1,0)=0 surely(0,1,1)=1 surely(1,0,0)=0 surely(1,0,1)=1 sure(0,100)=1 surely(0,1,0)=0 surely(0,1,1)=1 surely(1,0,1)=1");
        Script.edge("4: SURE (but MEMBERS as there): not one with CHANCE 0", "who:0:10:01:1:10 sure(0,0)=1 surely(0,1,0)=1 surely(1,0,1)=0");
        Script.edge("4: SURE (but MEMBERS as there): six, the first ones by numbers", "who:0:10:01:1:10 ".repeat(6), "who:0:90:01:1:10 surely(0,1,0)=1 surely(1,0,1)=0 sure(0,0)=1 surely(0,1,0)=0 surely(1,0,1)=1");
        Script.edge("4: SURE: none BEATS itself", Script.upTo("surely(#,#,0)=0 surely(#,#,1)=0", 0, 6));
        Script.edge("4: SURE: at 0 the CHAIR's rule", "who:0:10:01 who:0:10:01:50:10 surely(0,1,0)=1 surely(1,0,1)=0 set(1,1)=0 surely(0,1,0)=0 surely(0,1,1)=1 surely(1,0,1)=1 surely(1,0,0)=0");
        Script.edge("4: MAYBE: in some: in one of 64 alone", "who:0:10:01:1:10 ".repeat(6), "who:0:50:10 surely(1,0,1)=1 surely(0,1,1)=1 surely(0,1,0)=0 wish(6,0,0)=1 wish(6,1,1)=0 surely(1,0,1)=1 surely(0,1,0)=0 set(1,1)=0 surely(1,0,1)=1",
                "who:0:10:01 surely(1,0,1)=1 set(1,0)=1 surely(1,0,1)=0 surely(0,1,0)=1");
        Script.edge("33: surely, no such END", "surely(5,6,0)=1 surely(6,0,1)=0", Script.each("surely(#,0,0)=-1 surely(0,#,1)=-1", NO_ENDS));
        Script.edge("33: surely, what 0, 1", Script.each("surely(0,1,#)=-1", "2", "-1", "min", "max"));
    }

    private static void breachLaws() {
        Script.edge("4: LAWS over all chambers of m MEMBERS (1 .. 3)", "tree:0 breach(0,0,1,false)=2 breach(0,0,2,false)=14 breach(0,0,3,false)=14 breach(0,0,0,false)=-1 breach(0,0,4,false)=-1", Script.each("breach(0,0,#,true)=-1", "-1", "min", "max"));
        Script.edge("4: LAWS: likings 0 .. 5: the first one, the last one", "tree:1 breach(0,0,1,true)=0 tree:{0>1:{0>2:0/2}/{1>2:1/0}} breach(1,0,1,false)=5 breach(1,0,1,true)=5");
        Script.edge("4: LAWS: -4: it is KEPT", "tree:{0>1:{0>2:0/2}/{1>2:1/2}}", Script.upTo("breach(0,0,#,false)=-4 breach(0,0,#,true)=-4 breach(0,1,#,false)=-4", 1, 3), "breach(0,2,1,true)=-4");
        Script.edge("4: LAW 0: the END that BEATS the two others (standing in the TREE or not)", "tree:(0v1) breach(0,0,1,false)=4 tree:2 breach(1,0,1,false)=0");
        Script.edge("4: LAW 0: if there is one: a round breaks nothing", "tree:((0v1)v2) breach(0,0,3,true)=-4 breach(0,0,3,false)=21");
        Script.edge("4: LAWS: CHAIR as it is", "tree:0 breach(0,0,2,false)=14 set(1,1)=0 breach(0,0,2,false)=2 breach(0,0,3,false)=14 set(1,0)=1 breach(0,0,2,false)=14");
        Script.edge("4: LAW 1: lifts from the second to the first place", "tree:{0>1:1/0} breach(0,1,1,false)=0");
        Script.edge("4: LAW 1: lifts from the last to the second place", "tree:{1>2:2/0} breach(0,1,1,true)=0");
        Script.edge("4: LAW 1: what is liked most already is not lifted", "tree:{0>1:0/2} breach(0,1,1,false)=-4 breach(0,1,1,true)=-4");
        Script.edge("4: LAW 1: by one place, not by two", "tree:{2>1:2/{0>1:0/{0>2:1/0}}} breach(0,1,1,false)=3");
        Script.edge("4: LAW 2: no MEMBER gains by telling another of the six", "tree:{0>1:1/0} breach(0,2,1,false)=0 tree:(0v1) breach(1,2,3,false)=-4 tree:1 breach(2,2,3,true)=-4");
        Script.edge("4: LAW 2: gains (by its own liking), not loses", "tree:{0>1:{1>2:0/2}/2} breach(0,2,1,false)=1 tree:((0v1)v2) breach(1,2,1,true)=-4");
    }

    private static void breachOfMore() {
        Script.edge("4: LAW 1: by MEMBER 0 of two alone", "tree:{0>1:1/2} breach(0,1,2,false)=2 breach(0,1,2,true)=2 breach(0,1,3,false)=2 breach(0,1,1,false)=0");
        Script.edge("4: LAW 2: by MEMBER 0 of two alone", "tree:{0>1:1/2} breach(0,2,2,false)=8 breach(0,2,3,true)=8 breach(0,2,1,false)=1");
        Script.edge("4: LAW 2: not by MEMBER 0, but by both others of three", "tree:{0>1:0/2} breach(0,2,3,false)=14 breach(0,2,3,true)=14");
        // 021, 102, 210 is the first chamber in which 1 beats 0, 0 beats 2, 2 beats 1; the third lifts 0, that 0 beats 1, and 2 comes.
        Script.edge("4: LAWS: a chamber as digits to the base 6: 1, 2, 5", "tree:(2v{0>1:(1v0)/0}) breach(0,1,3,false)=53");
        Script.edge("4: LAWS: the last chamber of all: 5, 5", "tree:{0>1:{0>2:0/2}/{1>2:1/0}} breach(0,0,2,false)=35 breach(0,0,2,true)=35 breach(0,0,3,true)=35");
        Script.edge("4: LAW 2: by MEMBER 1 of three alone", "tree:((0v2)v1) breach(0,2,3,true)=16");
    }

    private static final String[] LIKINGS = {"012", "021", "102", "120", "201", "210"};

    /** All ways of one MEMBER's six likings to bring an END, each by a TREE that asks until it knows the liking. */
    private static void breachOfOne() {
        for (int law = 0; law < 3; law++) {
            final int broken = law;
            Checks.test("4: LAW " + law + ": by 1 MEMBER, all ways of six likings to bring an END", () -> {
                for (int way = 0; way < 729; way++) {
                    String[] ends = new String[6];
                    for (int k = 0, left = way; k < 6; k++, left /= 3) {
                        ends[k] = String.valueOf(left % 3);
                    }
                    QuestionDesk x = new QuestionDesk();
                    String text = "{0>1:{1>2:" + ends[0] + "/{0>2:" + ends[1] + "/" + ends[4] + "}}/{0>2:" + ends[2] + "/{1>2:" + ends[3] + "/" + ends[5] + "}}}";
                    Checks.due("tree", Desks.tree(x, text), 0);
                    Checks.due(text, x.breach(0, broken, 1, way % 2 == 0), firstBroken(broken, ends));
                }
            });
        }
    }

    private static int firstBroken(int law, String[] ends) {
        for (int k = 0; k < 6; k++) {
            String own = LIKINGS[k];
            int at = own.indexOf(ends[k]);
            boolean lost = law == 0 && at > 0;
            for (int told = 0; told < 6; told++) {
                String other = LIKINGS[told];
                lost |= law == 2 && own.indexOf(ends[told]) < at;
                // Lifted by one place: the END and the one ahead of it have changed places, the third stays.
                boolean lifted = at > 0 && other.indexOf(ends[k]) == at - 1 && other.charAt(at) == own.charAt(at - 1);
                lost |= law == 1 && lifted && !ends[told].equals(ends[k]);
            }
            if (lost) {
                return k;
            }
        }
        return -4;
    }

    private static void breachCalls() {
        Script.edge("36: breach, -3: a TREE with other ENDS (standing in it, or asked)", "set(0,7)=3 tree:3 tree:(0v6) tree:{3>0:1/2} tree:{0>3:1/2} tree:{0>1:2/3} tree:{0>1:{2>6:0/1}/2} tree:{6>0:{0>1:0/1}/2} tree:(2v2)",
                Script.upTo("breach(#,0,1,false)=-3 breach(#,1,3,true)=-3 breach(#,2,2,false)=-3", 0, 6), "breach(7,1,3,false)=-4");
        Script.edge("36: breach, a LAW (0 .. 2)", "tree:(0v1) breach(0,2,1,false)=-4 breach(0,3,1,false)=-1", Script.each("breach(0,#,1,true)=-1", "-1", "min", "max"));
        Script.edge("36: breach, no such TREE", "breach(0,0,1,false)=-1 tree:0", Script.each("breach(#,0,1,false)=-1", NO_TREES), "breach(0,0,1,false)=2");
        Script.edge("36: breach, -1 ahead of -3", "set(0,4)=3 tree:3 breach(0,3,1,false)=-1 breach(0,0,4,false)=-1 breach(0,0,0,true)=-1 breach(0,0,1,true)=-3");
        Script.edge("36: breach, ENDS and MEMBERS that are there don't matter", "tree:(1v2) breach(0,0,1,false)=0 set(0,1)=3 breach(0,0,1,false)=0 who:4:90:9 breach(0,0,1,false)=0 breach(0,0,3,true)=0 beat(1,0)=9");
    }

    private static void finds() {
        Script.edge("4: A TREE FINDS: with both (3), PLAIN alone (1), DEEP alone (2), neither (0)", "round", AGENDA, "finds(0,0)=1 finds(0,2)=2 finds(0,1)=0 tree:((0v1)v2) finds(1,2)=3 finds(1,0)=0");
        Script.edge("37: finds, an END (0 .. 6)", "tree:0 finds(0,0)=3 finds(0,6)=0", Script.each("finds(0,#)=-1", NO_ENDS));
        Script.edge("37: finds, no such TREE", "finds(0,0)=-1 tree:0", Script.each("finds(#,0)=-1", NO_TREES), "finds(0,0)=3");
        Script.edge("37: finds, whatever KINDS there are, nobody too", AGENDA, "finds(0,1)=0 finds(0,0)=3 who:4:90:555 bought(0,2)=0 run(0)=2 finds(0,2)=0 finds(0,0)=3");
    }
}
