/** Boundary cases that the document names of THE IMAGE, of 512 calls, of refusals, and in promises 38 to 40, a test a sentence. */
public final class ImageEdgesTest {
    public static void main(String[] args) {
        image();
        counting();
        calls();
        empty();
        full();
        refusals();
        Checks.end();
    }

    private static void image() {
        Script.edge("38: image, of nobody: 0", "image()=0 restore()=0 count(2)=0");
        Script.edge("38: image: how many MEMBERS: nine", Script.upTo("member(0,10)=#", 0, 8), "image()=9 restore()=9");
        Script.edge("38: image, taken again: that one counts", "image()=0 member(0,10)=0 image()=1 member(0,10)=1 restore()=1 count(2)=1");
        Script.edge("39: restore, -3: there is none", "member(0,10)=0 set(0,5)=3 restore()=-3 restore()=-3 count(2)=1 count(0)=5");
        Script.edge("39: restore: how many MEMBERS, as it was then: fewer than now", "member(0,10)=0 image()=1 member(0,20)=1 member(0,30)=2 restore()=1 count(3)=1 about(1,1)=-1 member(0,40)=1 about(1,1)=4");
        Script.edge("39: restore, again and again: THE IMAGE is not in itself", "image()=0 member(0,10)=0 restore()=0 member(0,20)=0 restore()=0 count(2)=0 restore()=0");
        Script.edge("4: RESTORED all is as it was then: room for nine MEMBERS again", "image()=0", Script.upTo("member(0,10)=#", 0, 8), "member(0,10)=-2 restore()=0", Script.upTo("member(0,20)=#", 0, 8),
                "member(0,10)=-2 count(3)=18");
        Script.edge("4: RESTORED all is as it was then: room for twelve TREES again", "text:0:(0v1) image()=0", Script.upTo("tree(0)=#", 0, 11), "tree(0)=-2 restore()=0 run(0)=-1 text:0:2", Script.upTo("tree(0)=#", 0, 11),
                "tree(0)=-2 run(11)=2 count(5)=0");
        Script.edge("4: RESTORED all is as it was then: ENDS and CHAIR", "set(0,7)=3 set(1,1)=0 image()=0 set(0,1)=7 set(1,0)=1 restore()=0 count(0)=7 count(1)=1 best()=6");
        Script.edge("4: RESTORED all is as it was then: MEMBERS, all that is told of them",
                "who:4:32:70:44:06 bought(0,6)=0 image()=1 wish(0,0,1)=7 wish(0,6,1)=5 doubted(0,1,2)=6 doubted(0,6,2)=5 sure(0,1)=44 bought(0,1)=6 becomes(0,25)=4 restore()=1",
                "about(0,0)=4 about(0,1)=3 about(0,2)=2 about(0,4)=44 wish(0,0,0)=7 wish(0,6,0)=5 doubted(0,1,0)=6 doubted(0,6,0)=5 bought(0,0)=6");
        Script.edge("4: THE IMAGE: what is changed behind it is not in it", "who:4:32:70 image()=1 restore()=1 wish(0,0,1)=7 doubted(0,0,3)=5 bought(0,3)=0 restore()=1 wish(0,0,2)=7 doubted(0,0,4)=5 bought(0,5)=0");
        Script.edge("4: THE IMAGE: all that there is, but SHELVES", "member(0,30)=0 bytes:0:1,2 image()=1 put(0,0,9)=0 keep(1,1,0)=0 row(2,0,1)=0 becomes(0,10)=0 keep(3,1,0)=0 restore()=1",
                "element(0,0)=9 heft(1)=3 element(2,0)=0 heft(3)=4 about(0,3)=3");
        Script.edge("4: THE IMAGE: a SHELF holds a MEMBER that is gone (as then)", "image()=0 who:4:20:0 bought(0,6)=0 keep(0,1,0)=0 restore()=0 about(0,0)=-1 heft(0)=3 toss(0)=106 keep(1,1,0)=-1");
        Script.edge("4: THE IMAGE: MEMBERS told behind it are new ones when they are told again", "image()=0 who:4:92:0123456:7:6543210 bought(0,6)=0 restore()=0 member(4,10)=0",
                Script.upTo("wish(0,#,1)=5 doubted(0,#,1)=5", 0, 6), "bought(0,0)=0 about(0,1)=1 about(0,2)=0 about(0,4)=0");
    }

    private static void counting() {
        Script.edge("40: count, 0 .. 6; -1 for others", "count(6)=0 count(7)=-1", Script.each("count(#)=-1", "-1", "min", "max"));
        Script.edge("40: count, all VOICES: none, 81 at most", "count(3)=0", Script.upTo("member(0,90)=#", 0, 8), "count(3)=81 count(6)=81");
        Script.edge("40: count, all HEFT: none, and of each KIND", "count(6)=0 member(5,10)=0 count(6)=0 member(0,10)=1 count(6)=1 member(1,10)=2 count(6)=3 member(2,15)=3 count(6)=10 member(3,92)=4 count(6)=28 member(4,91)=5 count(6)=45 member(5,90)=6 count(6)=49");
        Script.edge("40: count, TREES, and QUESTIONS of all TREES", "count(4)=0 count(5)=0 tree:0 count(4)=1 count(5)=0 tree:{0>1:(0v1)/((1v2)v0)} count(5)=3 tree:(0v0) count(4)=3 count(5)=4");
        Script.edge("40: count, QUESTIONS of all TREES, the first and the last too", "tree:(0v1) count(5)=1 tree:1 count(5)=1 tree:((0v1)v2) count(5)=3");
    }

    /** The 512th call is answered as the first one; what comes behind it is free. */
    private static void calls() {
        String last = "an object is used for at most 512 calls: the last one is answered, behind ";
        Script.longEdge(last + "WISHES", 512, "member(0,10)=0", "wish(0,0,1)=5 wish(0,0,5)=1 ".repeat(255), "beat(0,1)=0");
        Script.longEdge(last + "TREES told again and again", 512, "row(0,0,1)=0 put(0,0,50)=0 image()=0", "tree(0)=0 restore()=0 ".repeat(253), "tree(0)=0 tree(0)=1 run(1)=2");
        Script.longEdge(last + "ROWS and FAILURES", 512, "member(0,10)=0 keep(0,1,0)=0", "row(1,2,120)=0 put(1,119,5)=0 toss(0)=0 ".repeat(169), "element(1,119)=5 heft(0)=1 toss(0)=0");
        Script.longEdge(last + "refused ones", 512, "member(0,10)=0", "tree(0)=-11 fault(8)=-1 element(8,0)=throws.IllegalArgumentException restore()=-3 bought(0,0)=-3 ".repeat(102), "about(0,1)=1");
    }

    private static void empty() {
        Script.edge("nothing there: no MEMBERS, no TREES, bare SHELVES, one END", "set(0,1)=3",
                "bought(0,0)=-1 becomes(0,0)=-1 wish(0,0,0)=-1 doubted(0,0,0)=-1 sure(0,0)=-1 about(0,0)=-1 fault(0)=-11 tree(0)=-11 of(0,0)=-1 beat(0,0)=0 stands(0,0)=0 run(0)=-1 ask(0,0,0)=-1",
                "wonBy(0,0)=-1000000001 why(0,0,0)=-1000000001 ifAll(0,0)=-1 parts(0)=-1 order(0,true)=-11 reach(false)=1 reach(true)=1 first(0,true)=0 best()=0 top(0)=1 top(1)=1 killers(0)=-1",
                "shields(0,0)=-1 tell(0,0)=-1 falseVote(0,0)=-1 chance(0,0)=-1 boughtOff(0,0)=-1 bestLie(0,0,0)=-1 surely(0,0,0)=0 ring(0)=-4 usual(0)=-11 breach(0,0,1,true)=-1 finds(0,0)=-1",
                "count(2)=0 count(3)=0 count(4)=0 count(5)=0 count(6)=0 keep(0,1,0)=-1 put(0,0,0)=-11 element(0,0)=throws.IllegalStateException copy(0,0,1,0,0)=-11 heft(0)=-11 toss(0)=-11 restore()=-3 image()=0 restore()=0");
    }

    /** Nine MEMBERS who all like the lesser END more, of all KINDS, all doubted; twelve TREES of 29 QUESTIONS, in which 1 alone stands. */
    private static void full() {
        int all = Script.row8(0, 1, 2, 3, 4, 5, 6);
        String kinds = "who:0:90:0123456 who:1:90:0123456 who:2:95:0123456 who:3:92:0123456 who:4:92:0123456 who:5:90:0123456 who:2:90:0123456 who:3:90:0123456 who:4:90:0123456";
        String twelve = "row(0,0,117)=0 " + puts(TreeEdgesTest.longest()) + Script.upTo("tree(0)=#", 0, 11);
        Script.longEdge("all is full: nine MEMBERS, twelve TREES of 29 QUESTIONS, seven ENDS: of ENDS and TREES", 249, "set(0,7)=3", kinds, twelve,
                "member(0,10)=-2 tree(0)=-2 count(3)=81 count(5)=348 count(6)=" + (9 + 10 + 15 + 18 + 17 + 4 + 10 + 18 + 17),
                "run(11)=1 of(11,0)=29 of(11,2)=1 ask(11,28,2)=1 ask(11,29,2)=-1 wonBy(11,28)=0 why(11,28,8)=0 ifAll(11,0)=1 ifAll(11,1)=1 parts(11)=-4 finds(11,1)=3 beat(0,6)=81 beat(6,5)=-81",
                "bytes:1:6,5,4,3,2,1,0 order(1,false)=0 order(1,true)=0 reach(false)=1 reach(true)=1 first(0,false)=" + all + " first(0,true)=" + all + " first(6,true)=-4 best()=0 top(0)=1 top(1)=1 ring(6)=-4 usual(1)=" + all,
                "bought(8,6)=0 keep(7,1,8)=0 heft(7)=17 toss(7)=114 image()=9 restore()=9 run(11)=1 about(8,1)=9");
        Script.longEdge("all is full: nine MEMBERS, twelve TREES of 29 QUESTIONS, seven ENDS: of KILLERS and CHANCES", 237, "set(0,7)=3", kinds, twelve, Script.upTo("sure(#,50)=0", 0, 8),
                "killers(11)=1 shields(11,0)=0 shields(11,6)=-3 tell(11,1)=0 tell(11,0)=-4 bytes:1:9,8,7,6,5,4,3 falseVote(11,1)=-4 chance(11,1)=1000000000000 chance(11,0)=0 boughtOff(11,1)=0 boughtOff(11,6)=-4",
                "bestLie(11,8,0)=" + all + " bestLie(11,8,1)=1 surely(0,6,0)=1 surely(6,0,1)=0 breach(11,0,3,true)=0 breach(11,1,3,false)=-4 breach(11,2,3,true)=-4");
        Script.longEdge("THE IMAGE of all that is full", 212, "set(0,7)=3", kinds, twelve, "image()=9 restore()=9 count(2)=9 count(4)=12 about(8,0)=4 run(11)=1 member(0,10)=-2 tree(0)=-2 restore()=9");
    }

    private static String puts(String text) {
        StringBuilder s = new StringBuilder();
        for (int i = 0; i < text.length(); i++) {
            s.append("put(0,").append(i).append(',').append((int) text.charAt(i)).append(")=0 ");
        }
        return s.toString();
    }

    private static void refusals() {
        Script.edge("4: several refusals: -1 ahead of -2", Script.upTo("member(0,10)=#", 0, 8), "member(6,10)=-1 member(0,100)=-1 member(0,11)=-1 member(0,10)=-2",
                "text:0:0", Script.upTo("tree(0)=#", 0, 11), "tree(8)=-1 tree(0)=-2");
        Script.edge("4: several refusals: -1 ahead of -3", "round set(0,4)=3 tree:3 bought(0,7)=-1 bought(0,6)=-3 shields(0,4)=-1 shields(0,3)=-3 breach(0,3,1,false)=-1 breach(0,0,1,false)=-3");
        Script.edge("4: several refusals: -1 ahead of -4", "round tree:0 first(3,true)=-1 ring(7)=-1 ring(3)=-4 tell(0,7)=-1 tell(0,1)=-4 boughtOff(0,7)=-1 boughtOff(0,1)=-4 parts(1)=-1 parts(0)=-4");
        Script.edge("4: several refusals: -3 ahead of -4", "set(0,4)=3 tree:3 tree:(0v1) breach(0,1,1,false)=-3 breach(1,1,1,false)=-4");
        Script.edge("4: several refusals: -2 ahead of -11, -12 and a FAULT", "member(0,10)=0 keep(1,1,0)=0 text:2:( text:0:0", Script.upTo("tree(0)=#", 0, 11), "tree(3)=-2 tree(1)=-2 tree(2)=-2");
        Script.edge("4: several refusals: -1 ahead of -11, -12, -13, -14", "bytes:0:1 put(8,9,1)=-1 copy(8,0,1,0,1)=-1 copy(0,0,8,0,1)=-1 row(8,0,-1)=-1 row(0,3,-1)=-1 falseVote(0,1)=-1 order(8,true)=-1 usual(-1)=-1");
        Script.edge("4: several refusals: -11 ahead of -12 ahead of -13", "member(0,10)=0 keep(0,1,0)=0 bytes:1:1 row(2,1,1)=0 copy(0,0,3,9,9)=-11 copy(3,9,0,0,9)=-11 copy(0,0,1,9,9)=-12 copy(1,9,2,0,9)=-12 copy(1,9,1,0,1)=-13");
        Script.edge("4: -100 less a FAULT: 0, and 119 of a text of 120 bytes", "text:0:) tree(0)=-100 text:0:" + TreeEdgesTest.longCut().substring(0, 119) + "_", "fault(0)=119 tree(0)=-219");
        Script.edge("4: where numbers that may be below 0 are answered, 1000000000 less",
                "beat(7,0)=-1000000001 wonBy(0,0)=-1000000001 why(0,0,0)=-1000000001 who:0:10:10 tree:(0v1) beat(0,1)=-1 wonBy(0,0)=-1 why(0,0,0)=-1");
        Script.edge("4: a refused call changes nothing: MEMBERS", "who:4:32:70:44:06 bought(0,6)=0 member(6,10)=-1 member(0,0)=-1 bought(0,7)=-1 bought(1,0)=-1 becomes(0,60)=-1 becomes(0,43)=-1 becomes(0,1)=-1 wish(0,0,10)=-1 wish(0,7,0)=-1",
                "doubted(0,0,10)=-1 doubted(0,7,0)=-1 sure(0,101)=-1 set(0,8)=-1 set(1,2)=-1 set(2,1)=-1 becomes(0,20)=4 bought(0,1)=-3 restore()=-3");
        Script.edge("4: a refused call changes nothing: SHELVES", "member(0,10)=0 bytes:0:1,2,3 bytes:1:4,5 keep(2,1,0)=0 put(0,3,9)=-13 put(2,0,9)=-12 put(3,0,9)=-11 copy(0,0,1,0,3)=-13 copy(0,0,1,1,2)=-13 copy(0,0,2,0,1)=-12",
                "copy(0,0,3,0,1)=-11 copy(0,1,0,2,2)=-13 row(0,0,121)=-1 row(0,0,-1)=-14 row(0,3,1)=-1 keep(0,1,1)=-1 keep(0,2,0)=-1 keep(2,1,-1)=-1 tree(0)=-100 tree(2)=-12 tree(3)=-11");
        Script.edge("4: a refused call changes nothing: TREES", "text:0:(0v1) tree(0)=0 text:0:(0v4) tree(0)=-103 fault(0)=3 tree(1)=-11 count(4)=1 text:0:(1v0) tree(0)=1 of(1,2)=1");
    }
}
