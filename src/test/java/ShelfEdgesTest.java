/** Boundary cases that the document names in section 1 (SHELVES) and in promises 41 to 47, a test a sentence. */
public final class ShelfEdgesTest {
    private static final String[] FAR = {"8", "-1", "min", "max"};

    public static void main(String[] args) {
        shelves();
        bits();
        refusals();
        keeping();
        rows();
        elements();
        copying();
        failures();
        Checks.end();
    }

    private static void shelves() {
        Script.edge("1: SHELVES 0 .. 7 each hold nothing (at first)", Script.upTo("heft(#)=-11 toss(#)=-11 put(#,0,0)=-11", 0, 7),
                Script.upTo("element(#,0)=throws.IllegalStateException", 0, 7));
        Script.edge("1: SHELVES 0 .. 7: each is one of its own", "member(0,10)=0", Script.upTo("row(#,2,1)=0 put(#,0,#)=0", 0, 7), "keep(3,1,0)=0",
                "element(0,0)=0 element(2,0)=2 heft(3)=1 element(4,0)=4 element(7,0)=7");
        Script.edge("1: SHELVES hold a MEMBER (as then)",
                "member(4,20)=0 keep(0,1,0)=0 bought(0,6)=0 becomes(0,50)=4 heft(0)=3 toss(0)=100 keep(1,1,0)=0 heft(1)=1 toss(1)=0");
        Script.edge("1: a SORT: 0 bytes, 1 shorts, 2 ints", "row(0,0,1)=0 row(0,1,1)=0 row(0,2,1)=0 row(0,3,1)=-1",
                Script.each("row(0,#,1)=-1", "-1", "min", "max"), "put(0,0,max)=0 element(0,0)=2147483647");
        Script.edge("1: a ROW has 0 .. 120 elements: none",
                Script.upTo("row(#,#,0)=0 put(#,0,1)=-13 element(#,0)=throws.IllegalStateException", 0, 2));
        Script.edge("1: a ROW has 0 .. 120 elements: 120", "row(0,0,120)=0 row(1,1,120)=0 row(2,2,120)=0",
                Script.upTo("put(#,119,7)=0 element(#,119)=7 put(#,120,7)=-13 element(#,120)=throws.IllegalStateException", 0, 2));
        Script.edge("1: a ROW has 0 .. 120 elements: 121 are too many",
                "row(0,2,1)=0 put(0,0,5)=0", Script.each("row(0,0,#)=-1", "121", "122", "max"), "element(0,0)=5");
        Script.edge("1: elements are 0 at first, in a SHELF that was full before too",
                "row(0,2,3)=0 put(0,0,1)=0 put(0,1,2)=0 put(0,2,3)=0 row(0,1,3)=0 element(0,0)=0 element(0,1)=0 element(0,2)=0",
                "put(0,2,9)=0 row(0,1,2)=0 row(0,1,3)=0 element(0,2)=0");
    }

    private static void bits() {
        Script.edge("1: what is put in keeps its lowest bits: bytes go round at 127 and -128", "row(0,0,8)=0",
                "put(0,0,127)=0 put(0,1,128)=0 put(0,2,255)=0 put(0,3,256)=0 put(0,4,-128)=0 put(0,5,-129)=0 put(0,6,max)=0 put(0,7,min)=0",
                "element(0,0)=127 element(0,1)=-128 element(0,2)=-1 element(0,3)=0 element(0,4)=-128 element(0,5)=127 element(0,6)=-1 element(0,7)=0");
        Script.edge("1: what is put in keeps its lowest bits: shorts go round at 32767 and -32768", "row(0,1,8)=0",
                "put(0,0,32767)=0 put(0,1,32768)=0 put(0,2,65535)=0 put(0,3,65536)=0 put(0,4,-32768)=0 put(0,5,-32769)=0 put(0,6,max)=0 put(0,7,min)=0",
                "element(0,0)=32767 element(0,1)=-32768 element(0,2)=-1 element(0,3)=0 element(0,4)=-32768 element(0,5)=32767 element(0,6)=-1 element(0,7)=0");
        Script.edge("1: what is put in keeps its lowest bits: ints keep all", "row(0,2,4)=0 put(0,0,max)=0 put(0,1,min)=0 put(0,2,-1)=0 put(0,3,32768)=0",
                "element(0,0)=2147483647 element(0,1)=-2147483648 element(0,2)=-1 element(0,3)=32768");
    }

    private static String onShelf0(String because) {
        return Script.each("#=" + because, "fault(0)", "tree(0)", "order(0,false)", "order(0,true)", "falseVote(0,0)", "usual(0)");
    }

    private static void refusals() {
        Script.edge("1: -11 nothing is held where something is wanted", "tree:0", onShelf0("-11"),
                "put(0,0,1)=-11 copy(0,0,0,0,0)=-11 heft(0)=-11 toss(0)=-11");
        Script.edge("1: -11: nothing is held again", "tree:0 row(0,0,7)=0 keep(0,0,0)=0", onShelf0("-11"), "put(0,0,1)=-11 heft(0)=-11",
                "member(0,10)=0 keep(0,1,0)=0 keep(0,0,0)=0", onShelf0("-11"), "put(0,0,1)=-11 toss(0)=-11");
        Script.edge("1: -12 it is of another kind: a MEMBER", "tree:0 member(0,10)=0 keep(0,1,0)=0", onShelf0("-12"), "put(0,0,1)=-12 copy(0,0,0,0,0)=-12");
        Script.edge("1: -12 it is of another kind: a ROW", "row(0,0,1)=0 heft(0)=-12 toss(0)=-12 row(0,2,0)=0 heft(0)=-12 toss(0)=-12");
        Script.edge("1: -12 it is of another kind: no ROW of bytes", "tree:0 row(0,1,7)=0", onShelf0("-12"), "row(0,2,7)=0", onShelf0("-12"));
        Script.edge("1: -13 a place that isn't there", "row(0,0,2)=0 put(0,1,1)=0 put(0,2,1)=-13", Script.each("put(0,#,1)=-13", "-1", "min", "max"),
                "element(0,1)=1");
        Script.edge("1: -14 a size below 0", "row(0,2,1)=0 put(0,0,6)=0 row(0,0,-1)=-14 row(0,1,min)=-14 element(0,0)=6");
        Script.edge("1: -15 a FAILURE that is none", "member(3,90)=0 member(5,10)=1 keep(0,1,0)=0 keep(1,1,1)=0 toss(0)=-15 toss(1)=-15");
    }

    private static void keeping() {
        Script.edge("41: keep, what = 0 nothing (the others do not matter)",
                "row(0,0,1)=0 keep(0,0,-1)=0 heft(0)=-11 row(0,0,1)=0 keep(0,0,max)=0 heft(0)=-11 keep(0,0,min)=0 heft(0)=-11");
        Script.edge("41: keep, no such SHELF", "member(0,10)=0", Script.each("keep(#,0,0)=-1 keep(#,1,0)=-1", FAR), "keep(7,1,0)=0");
        Script.edge("41: keep, what 0 or 1", "member(0,10)=0 row(0,0,1)=0", Script.each("keep(0,#,0)=-1", "2", "-1", "min", "max"), "element(0,0)=0");
        Script.edge("41: keep, no such MEMBER", "row(0,0,1)=0 keep(0,1,0)=-1 member(0,10)=0 keep(0,1,1)=-1",
                Script.each("keep(0,1,#)=-1", "-1", "min", "max"), "element(0,0)=0 keep(0,1,0)=0");
    }

    private static void rows() {
        Script.edge("42: row, no such SHELF", Script.each("row(#,0,1)=-1", FAR), "row(7,0,1)=0");
        Script.edge("42: row, -1 ahead of -14", "row(8,0,-1)=-1 row(0,3,-1)=-1 row(0,-1,min)=-1 row(0,0,-1)=-14 heft(0)=-11");
        Script.edge("42: row, in place of a MEMBER or another ROW",
                "member(0,10)=0 keep(0,1,0)=0 row(0,0,-1)=-14 heft(0)=1 row(0,0,2)=0 heft(0)=-12 row(0,2,1)=0 put(0,1,0)=-13");
        Script.edge("43: put, no such SHELF", Script.each("put(#,0,1)=-1", FAR), "row(7,0,1)=0 put(7,0,1)=0");
        Script.edge("43: put, -11 and -12 ahead of -13", "put(0,-1,1)=-11 member(0,10)=0 keep(0,1,0)=0 put(0,-1,1)=-12 row(0,1,0)=0 put(0,0,1)=-13");
    }

    private static void elements() {
        String state = "throws.IllegalStateException";
        String argument = "throws.IllegalArgumentException";
        Script.edge("44: element, IllegalArgumentException: no such SHELF", Script.each("element(#,0)=" + argument, FAR));
        Script.edge("44: element, IllegalStateException: no ROW",
                "element(0,0)=" + state, "member(0,10)=0 keep(0,1,0)=0 element(0,0)=" + state, "row(0,0,1)=0 element(0,0)=0 keep(0,0,0)=0 element(0,0)=" + state);
        Script.edge("44: element, IllegalStateException: no such place",
                "row(0,1,3)=0 element(0,2)=0", Script.each("element(0,#)=" + state, "3", "-1", "120", "min", "max"));
        Script.edge("44: element, no such SHELF ahead of no such place", "row(0,1,3)=0 element(8,3)=" + argument, "element(-1,-1)=" + argument);
    }

    private static void copying() {
        Script.edge("45: copy, no such SHELF", "row(0,0,2)=0", Script.each("copy(#,0,0,0,1)=-1 copy(0,0,#,0,1)=-1", FAR));
        Script.edge("45: copy, -11 (either)", "bytes:0:1,2 copy(0,0,1,0,1)=-11 copy(1,0,0,0,1)=-11 copy(1,0,1,0,1)=-11 element(0,0)=1");
        Script.edge("45: copy, -12 (no ROWS of one SORT)", "member(0,10)=0 keep(3,1,0)=0 bytes:0:1 row(1,1,1)=0 row(2,2,1)=0",
                "copy(0,0,1,0,1)=-12 copy(1,0,0,0,1)=-12 copy(0,0,2,0,1)=-12 copy(2,0,1,0,1)=-12 copy(3,0,0,0,1)=-12 copy(0,0,3,0,1)=-12 copy(3,0,3,0,0)=-12",
                "copy(0,0,1,0,0)=-12");
        Script.edge("45: copy, -13: places that are not there", "bytes:0:1,2,3 bytes:1:4,5",
                "copy(0,0,1,0,3)=-13 copy(1,0,0,0,3)=-13 copy(0,2,1,0,2)=-13 copy(0,0,1,1,2)=-13 copy(0,-1,1,0,1)=-13 copy(0,0,1,-1,1)=-13",
                "copy(0,3,1,0,1)=-13 copy(0,0,1,2,1)=-13 element(1,0)=4 element(1,1)=5");
        Script.edge("45: copy, -13 (n below 0, too)", "bytes:0:1,2,3 bytes:1:4,5 copy(0,1,1,1,-1)=-13 copy(0,3,1,2,-1)=-13 copy(0,0,1,0,min)=-13");
        Script.edge("45: copy, -13: numbers so great that sums of them go round", "bytes:0:1,2,3 bytes:1:4,5",
                "copy(0,1,1,0,max)=-13 copy(0,max,1,0,max)=-13 copy(0,max,1,0,1)=-13 copy(0,0,1,max,1)=-13 copy(0,min,1,0,min)=-13 copy(0,min,1,min,0)=-13",
                "copy(0,0,1,1,max)=-13 copy(0,2147483646,1,0,2)=-13");
        Script.edge("45: copy (n 0 at the end is well)", "bytes:0:1,2,3 bytes:1:4,5 copy(0,3,1,2,0)=0 copy(0,0,1,2,0)=0 copy(0,3,1,0,0)=0 copy(0,4,1,0,0)=-13",
                "copy(0,0,1,3,0)=-13 copy(0,-1,1,0,0)=-13 row(2,0,0)=0 copy(2,0,2,0,0)=0 copy(2,1,2,0,0)=-13");
        Script.edge("45: copy, all of a ROW", "bytes:0:1,2,3 row(1,0,3)=0 copy(0,0,1,0,3)=3 element(1,0)=1 element(1,2)=3",
                "row(2,2,120)=0 row(3,2,120)=0 put(2,119,min)=0 copy(2,0,3,0,120)=120 element(3,119)=-2147483648 copy(2,0,3,0,121)=-13 copy(2,1,3,0,120)=-13");
        Script.edge("45: copy, within one ROW", "bytes:0:1,2,3,4 copy(0,0,0,1,3)=3 element(0,0)=1 element(0,1)=1 element(0,2)=2 element(0,3)=3",
                "copy(0,1,0,0,3)=3 element(0,0)=1 element(0,1)=2 element(0,2)=3 element(0,3)=3 copy(0,0,0,0,4)=4 element(0,3)=3");
        Script.edge("45: copy, -1 ahead of -11 ahead of -12 ahead of -13", "member(0,10)=0 keep(1,1,0)=0 bytes:0:1",
                "copy(8,0,2,0,1)=-1 copy(2,0,8,0,1)=-1 copy(1,0,2,0,1)=-11 copy(2,0,1,0,-1)=-11 copy(0,9,1,0,1)=-12 copy(1,0,0,0,-1)=-12");
    }

    private static void failures() {
        Script.edge("46: heft, no such SHELF", "member(0,10)=0 keep(7,1,0)=0", Script.each("heft(#)=-1", FAR), "heft(7)=1");
        Script.edge("46: heft, 0 of a MIXED one with 1 VOICE", "member(5,10)=0 keep(0,1,0)=0 heft(0)=0");
        Script.edge("47: toss, no such SHELF", "member(0,10)=0 keep(7,1,0)=0", Script.each("toss(#)=-1", FAR), "toss(7)=0");
        Script.edge("47: toss, the MEMBER's number, 0 too", "member(0,10)=0 member(1,10)=1 member(2,15)=2 keep(0,1,0)=0 keep(1,1,1)=0 keep(2,1,2)=0",
                "toss(0)=0 toss(1)=1 toss(2)=2");
        Script.edge("47: toss, of BOUGHT ones 100 and the END more", "member(4,10)=0 keep(0,1,0)=0 toss(0)=100 bought(0,6)=0 toss(0)=100 keep(0,1,0)=0 toss(0)=106",
                Script.upTo("member(4,10)=#", 1, 8), "bought(8,6)=0 keep(1,1,8)=0 toss(1)=114");
        Script.edge("47: toss, -15: PARTY ones have none", "member(3,10)=0 member(3,92)=1 keep(0,1,0)=0 keep(1,1,1)=0 toss(0)=-15 toss(1)=-15");
        Script.edge("47: toss, -15: MIXED ones with 1 VOICE have none, with 2 they have one",
                "member(5,10)=0 member(5,20)=1 member(5,90)=2 keep(0,1,0)=0 keep(1,1,1)=0 keep(2,1,2)=0 toss(0)=-15 toss(1)=1 toss(2)=2");
    }
}
