/** Boundary cases that the document names in section 1 (ENDS, MEMBERS) and in promises 1 to 9, a test a sentence. */
public final class MemberEdgesTest {
    private static final String FAR = "-1 min max";

    public static void main(String[] args) {
        ends();
        members();
        told();
        hefts();
        newObject();
        setting();
        telling();
        asking();
        Checks.end();
    }

    private static String nine() {
        return Script.upTo("member(0,10)=#", 0, 8);
    }

    private static String far(String call) {
        return Script.each(call, FAR.split(" "));
    }

    private static void ends() {
        Script.edge("1: ENDS: told how many: 1 .. 7",
                "set(0,1)=3 set(0,7)=1 set(0,8)=-1 set(0,0)=-1", far("set(0,#)=-1"), "count(0)=7 set(0,2)=7 count(0)=2");
        Script.edge("1: ENDS: 3 at first", "count(0)=3 reach(false)=1 best()=0 first(2,false)=-4 first(3,false)=-1");
        Script.edge("1: ENDS 0 .. 6 are there or not: those that are not have WISHES too",
                "set(0,1)=3 who:0:10:5555550 wish(0,6,1)=0 beat(6,0)=1 stands(0,6)=6 beat(6,7)=-1000000001");
    }

    private static void members() {
        Script.edge("1: MEMBERS 0 .. 8: a tenth has no room", nine(), "member(0,10)=-2 member(5,99)=-1 count(2)=9");
        Script.edge("1: MEMBERS 0 .. 8: the last one is 8", nine(),
                "wish(8,0,1)=5 wish(9,0,1)=-1 about(8,1)=1 about(9,1)=-1 keep(0,1,8)=0 keep(0,1,9)=-1");
        Script.edge("1: MEMBERS as they come: none at first", "count(2)=0 about(0,0)=-1 wish(0,0,0)=-1 member(0,10)=0 about(0,0)=0");
        Script.edge("1: KINDS 0 .. 5", "member(0,10)=0 member(5,10)=1 member(6,10)=-1", far("member(#,10)=-1"), "count(2)=2 about(1,0)=5");
        Script.edge("1: VOICES 1 .. 9", "member(0,10)=0 member(0,90)=1 about(0,1)=1 about(1,1)=9 member(0,100)=-1 member(0,0)=-1",
                "member(2,5)=-1 member(3,2)=-1 count(2)=2 count(3)=10");
        Script.edge("1: NUMBER of SOME how many steps, 0 .. 5",
                "member(2,10)=0 member(2,15)=1 about(0,2)=0 about(1,2)=5 member(2,16)=-1 member(2,19)=-1 count(2)=2");
        Script.edge("1: NUMBER of PARTY the party, 0 .. 2",
                "member(3,10)=0 member(3,12)=1 about(0,2)=0 about(1,2)=2 member(3,13)=-1 member(3,19)=-1 count(2)=2");
        Script.edge("1: NUMBER of BOUGHT the party, 0 .. 2",
                "member(4,10)=0 member(4,12)=1 about(0,2)=0 about(1,2)=2 member(4,13)=-1 member(4,19)=-1 count(2)=2");
        Script.edge("1: NUMBER else 0", "member(0,11)=-1 member(1,11)=-1 member(5,11)=-1 member(0,19)=-1 member(1,95)=-1 count(2)=0",
                "member(0,10)=0 member(1,10)=1 member(5,10)=2 about(0,2)=0 about(1,2)=0 about(2,2)=0");
        Script.edge("1: WISHES: for each END 0 .. 9", "member(0,10)=0 wish(0,0,0)=5 wish(0,0,9)=0 wish(0,0,10)=-1", far("wish(0,0,#)=-1"),
                "wish(0,0,9)=9");
        Script.edge("1: WISHES: 5 at first", "member(0,10)=0", Script.upTo("wish(0,#,0)=5", 0, 6));
        Script.edge("1: WISHES: the lesser the better", "member(0,10)=0 wish(0,0,9)=5 wish(0,1,8)=5 beat(0,1)=-1 wish(0,0,0)=9 beat(0,1)=1",
                "wish(0,1,0)=8 beat(0,1)=0");
        Script.edge("1: DOUBTED WISHES likewise 0 .. 9", "member(0,10)=0 doubted(0,6,0)=5 doubted(0,6,9)=0 doubted(0,6,10)=-1",
                far("doubted(0,6,#)=-1"), "doubted(0,6,9)=9");
        Script.edge("1: DOUBTED WISHES likewise 5 at first", "member(0,10)=0", Script.upTo("doubted(0,#,0)=5", 0, 6));
        Script.edge("1: a CHANCE 0 .. 100", "member(0,10)=0 sure(0,100)=0 about(0,4)=100 sure(0,101)=-1", far("sure(0,#)=-1"),
                "sure(0,0)=100 about(0,4)=0");
        Script.edge("1: a CHANCE: 0 at first", "member(0,10)=0 about(0,4)=0 sure(0,1)=0 member(0,10)=1 about(1,4)=0");
    }

    private static void told() {
        Script.edge("3: told 10 times VOICES and NUMBER: below 0 it is nothing, nor far above",
                far("member(2,#)=-1"), Script.each("member(2,#)=-1", "-10", "-15", "-95", "110", "1010", "2147483615"), "count(2)=0");
        Script.edge("5: told 10 times KIND and NUMBER: below 0 it is nothing, nor far above",
                "member(0,10)=0", far("becomes(0,#)=-1"), Script.each("becomes(0,#)=-1", "-10", "-20", "-2", "60", "70", "2147483610"), "about(0,0)=0");
    }

    private static void hefts() {
        Script.edge("1: HEFT of PLAIN its VOICES: 1, 9", "member(0,10)=0 member(0,90)=1 about(0,3)=1 about(1,3)=9");
        Script.edge("1: HEFT of DEEP 1 more: 2, 10", "member(1,10)=0 member(1,90)=1 about(0,3)=2 about(1,3)=10");
        Script.edge("1: HEFT of SOME as a DEEP, and its steps more: 0 and 5 steps",
                "member(2,10)=0 member(2,15)=1 member(2,95)=2 about(0,3)=2 about(1,3)=7 about(2,3)=15");
        Script.edge("1: HEFT of PARTY twice a PLAIN's: 2, 18", "member(3,12)=0 member(3,90)=1 about(0,3)=2 about(1,3)=18");
        Script.edge("1: HEFT of BOUGHT a PARTY's less 1: 1, 17", "member(4,12)=0 member(4,90)=1 about(0,3)=1 about(1,3)=17");
        Script.edge("1: HEFT of MIXED half of a PLAIN's (cut): 0, 1, 1, 4",
                "member(5,10)=0 member(5,20)=1 member(5,30)=2 member(5,90)=3 about(0,3)=0 about(1,3)=1 about(2,3)=1 about(3,3)=4");
    }

    private static void newObject() {
        Script.edge("1: a new object: 3 ENDS, CHAIR 0", "count(0)=3 count(1)=0 stands(2,1)=1");
        Script.edge("1: a new object: no MEMBERS, no TREES", "count(2)=0 count(3)=0 count(4)=0 count(5)=0 count(6)=0 run(0)=-1 about(0,0)=-1");
    }

    private static void setting() {
        Script.edge("2: set, what 0 or 1", "set(2,1)=-1", far("set(#,1)=-1"), "count(0)=3 count(1)=0");
        Script.edge("2: set, CHAIR 0 or 1", "set(1,1)=0 set(1,1)=1 set(1,2)=-1", far("set(1,#)=-1"), "count(1)=1 set(1,0)=1 count(1)=0");
        Script.edge("2: set answers what it was", "set(0,5)=3 set(0,5)=5 set(0,6)=5 set(1,0)=0 set(1,1)=0 set(1,0)=1");
    }

    private static void telling() {
        Script.edge("3: member, -1 ahead of -2", nine(), "member(-1,10)=-1 member(0,9)=-1 member(0,11)=-1 member(0,10)=-2 member(4,92)=-2");
        Script.edge("4: bought, 0 .. 6", "member(4,10)=0 bought(0,6)=0 bought(0,7)=-1", far("bought(0,#)=-1"), "bought(0,0)=6");
        Script.edge("4: bought, 0 at first", "member(4,12)=0 bought(0,0)=0 member(0,10)=1 becomes(1,40)=0 bought(1,3)=0");
        Script.edge("4: bought, an END that is not there", "set(0,1)=3 member(4,10)=0 bought(0,6)=0 bought(0,5)=6");
        Script.edge("4: bought, -3: it is none", "member(0,10)=0 member(1,10)=1 member(2,10)=2 member(3,10)=3 member(5,10)=4",
                Script.upTo("bought(#,0)=-3", 0, 4));
        Script.edge("4: bought, -1 ahead of -3", "member(0,10)=0 bought(0,7)=-1 bought(0,-1)=-1 bought(1,0)=-1", far("bought(#,0)=-1"));
        Script.edge("5: becomes, the END for which it is BOUGHT stays",
                "member(4,11)=0 bought(0,6)=0 becomes(0,0)=4 bought(0,2)=-3 becomes(0,30)=0 becomes(0,42)=3 bought(0,6)=6 becomes(0,40)=4 bought(0,0)=6");
        Script.edge("5: becomes, KINDS 0 .. 5 and their NUMBERS",
                "member(0,10)=0 becomes(0,10)=0 becomes(0,25)=1 becomes(0,32)=2 becomes(0,42)=3 becomes(0,50)=4 becomes(0,0)=5",
                Script.each("becomes(0,#)=-1", "1", "11", "26", "33", "43", "51", "60"), "about(0,0)=0 about(0,2)=0");
        Script.edge("5: becomes, the KIND that it is already", "member(2,14)=0 becomes(0,20)=2 about(0,2)=0 becomes(0,20)=2 about(0,1)=1");
        Script.edge("5: becomes, VOICES, WISHES and CHANCE are as they were",
                "who:4:90:01:77:23 becomes(0,0)=4 about(0,1)=9 about(0,4)=77 wish(0,0,0)=0 wish(0,1,1)=1 doubted(0,0,2)=2 doubted(0,1,3)=3");
        Script.edge("5: becomes, no such MEMBER", "becomes(0,0)=-1 member(0,10)=0 becomes(1,0)=-1", far("becomes(#,0)=-1"));
        Script.edge("6: wish, an END 0 .. 6", "member(0,10)=0 wish(0,6,1)=5 wish(0,7,1)=-1", far("wish(0,#,1)=-1"));
        Script.edge("6: wish, no such MEMBER", "wish(0,0,1)=-1 member(0,10)=0 wish(1,0,1)=-1", far("wish(#,0,1)=-1"));
        Script.edge("6: wish answers what it was", "member(0,10)=0 wish(0,0,5)=5 wish(0,0,9)=5 wish(0,0,9)=9 wish(0,0,0)=9 doubted(0,0,5)=5");
        Script.edge("7: doubted, an END 0 .. 6", "member(0,10)=0 doubted(0,6,1)=5 doubted(0,7,1)=-1", far("doubted(0,#,1)=-1"));
        Script.edge("7: doubted, no such MEMBER", "doubted(0,0,1)=-1 member(0,10)=0 doubted(1,0,1)=-1", far("doubted(#,0,1)=-1"));
        Script.edge("7: doubted answers what it was", "member(0,10)=0 doubted(0,0,5)=5 doubted(0,0,9)=5 doubted(0,0,0)=9 wish(0,0,5)=5");
        Script.edge("8: sure, no such MEMBER", "sure(0,1)=-1 member(0,10)=0 sure(1,1)=-1", far("sure(#,1)=-1"));
        Script.edge("8: sure answers what it was", "member(0,10)=0 sure(0,1)=0 sure(0,1)=1 sure(0,99)=1 sure(0,101)=-1 sure(0,0)=99");
    }

    private static void asking() {
        Script.edge("9: about, what 0 .. 4", "who:2:34:0:60:0 about(0,0)=2 about(0,1)=3 about(0,2)=4 about(0,3)=8 about(0,4)=60 about(0,5)=-1",
                far("about(0,#)=-1"));
        Script.edge("9: about, no such MEMBER", "about(0,0)=-1 member(0,10)=0 about(1,0)=-1", far("about(#,0)=-1"));
    }
}
