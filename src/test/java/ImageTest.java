/** Promises 38 to 40: the image, what is told. */
public final class ImageTest {
    public static void main(String[] args) {
        Checks.test("promise 38: image", ImageTest::image);
        Checks.test("promise 39: restore", ImageTest::restore);
        Checks.test("promise 39: restore, all that there is", ImageTest::restoreAll);
        Checks.test("promise 39: restore, but not shelves", ImageTest::shelvesStay);
        Checks.test("promise 39: restore, members and trees that are told again", ImageTest::toldAgain);
        Checks.test("promise 40: count", ImageTest::count);
        Checks.end();
    }

    private static void image() {
        QuestionDesk x = new QuestionDesk();
        Checks.due("nobody", x.image(), 0);
        x.member(0, 10);
        x.member(0, 10);
        Checks.due("two", x.image(), 2);
        Checks.due("nothing changes", x.count(2), 2);
    }

    private static void restore() {
        QuestionDesk x = new QuestionDesk();
        Checks.due("none", x.restore(), -3);
        x.member(0, 10);
        Checks.due("none", x.restore(), -3);
        Checks.due("nothing changed", x.count(2), 1);
        x.image();
        x.member(0, 10);
        Checks.due("one", x.restore(), 1);
        Checks.due("one", x.count(2), 1);
        x.member(0, 10);
        x.member(0, 10);
        Checks.due("the image stays", x.restore(), 1);
        x.member(0, 30);
        x.image();
        x.wish(1, 0, 1);
        Checks.due("a new image in place of it", x.restore(), 2);
        Checks.due("as then", x.about(1, 1), 3);
        Checks.due("as then", x.wish(1, 0, 0), 5);
    }

    private static void restoreAll() {
        QuestionDesk x = new QuestionDesk();
        x.set(0, 5);
        x.set(1, 1);
        x.member(4, 32);
        x.bought(0, 6);
        x.wish(0, 2, 7);
        x.doubted(0, 3, 8);
        x.sure(0, 44);
        Desks.tree(x, "(0v4)");
        x.image();
        x.set(0, 2);
        x.set(1, 0);
        x.bought(0, 1);
        x.becomes(0, 25);
        x.wish(0, 2, 1);
        x.doubted(0, 3, 1);
        x.sure(0, 1);
        x.member(0, 10);
        Desks.tree(x, "((0v1)v1)");
        Checks.due("restore", x.restore(), 1);
        int[] due = {5, 1, 1, 3, 1, 1, 5};
        for (int what = 0; what < 7; what++) {
            Checks.due("count " + what, x.count(what), due[what]);
        }
        int[] about = {4, 3, 2, 5, 44};
        for (int what = 0; what < 5; what++) {
            Checks.due("about " + what, x.about(0, what), about[what]);
        }
        Checks.due("wish", x.wish(0, 2, 0), 7);
        Checks.due("doubted", x.doubted(0, 3, 0), 8);
        Checks.due("bought", x.bought(0, 0), 6);
        Checks.due("tree", x.of(0, 1), 17);
        Checks.due("no other tree", x.of(1, 0), -1);
        Checks.due("what was changed behind the image is not in it", x.restore(), 1);
        Checks.due("wish", x.wish(0, 2, 0), 7);
        Checks.due("doubted", x.doubted(0, 3, 0), 8);
        Checks.due("bought", x.bought(0, 0), 6);
    }

    private static void shelvesStay() {
        QuestionDesk x = new QuestionDesk();
        x.member(1, 30);
        x.row(0, 1, 2);
        x.put(0, 1, 77);
        x.image();
        x.put(0, 1, 78);
        x.becomes(0, 50);
        x.keep(1, 1, 0);
        x.keep(2, 0, 0);
        x.restore();
        Checks.due("the row as it was last", x.element(0, 1), 78);
        Checks.due("the member as it was kept", x.heft(1), 1);
        Checks.due("the member as it is", x.about(0, 3), 4);
    }

    private static void toldAgain() {
        QuestionDesk x = new QuestionDesk();
        Desks.tree(x, "0");
        x.image();
        Desks.tree(x, "(1v2)");
        x.member(3, 12);
        x.wish(0, 4, 1);
        x.doubted(0, 4, 1);
        x.sure(0, 50);
        x.becomes(0, 40);
        x.bought(0, 5);
        x.restore();
        Checks.due("a tree in its place", Desks.tree(x, "2"), 1);
        Checks.due("the new one", x.run(1), 2);
        Checks.due("a member in its place", x.member(4, 10), 0);
        Checks.due("wish at first", x.wish(0, 4, 0), 5);
        Checks.due("doubted at first", x.doubted(0, 4, 0), 5);
        Checks.due("chance at first", x.about(0, 4), 0);
        Checks.due("bought for at first", x.bought(0, 0), 0);
    }

    private static void count() {
        QuestionDesk x = new QuestionDesk();
        x.set(0, 6);
        x.set(1, 1);
        int[] kinds = {0, 1, 2, 3, 4, 5, 5};
        int[] told = {30, 30, 34, 31, 32, 30, 10};
        for (int m = 0; m < 7; m++) {
            x.member(kinds[m], told[m]);
        }
        Desks.tree(x, "((0v1)v{0>1:(2v3)/4})");
        Desks.tree(x, "5");
        Desks.tree(x, "(5v5)");
        int[] due = {6, 1, 7, 19, 3, 4, 3 + 4 + 8 + 6 + 5 + 1 + 0};
        for (int what = 0; what < 7; what++) {
            Checks.due("count " + what, x.count(what), due[what]);
        }
        Checks.due("others", x.count(7), -1);
        Checks.due("others", x.count(-1), -1);
        Checks.due("others", x.count(Integer.MIN_VALUE), -1);
    }
}
