/** Short ways to set a desk up. */
final class Desks {
    private Desks() {
    }

    /** A text as a row of bytes on a shelf. */
    static void text(QuestionDesk x, int d, String text) {
        Checks.due("row", x.row(d, 0, text.length()), 0);
        for (int i = 0; i < text.length(); i++) {
            Checks.due("put", x.put(d, i, text.charAt(i)), 0);
        }
    }

    /** Numbers as a row of bytes on a shelf. */
    static void bytes(QuestionDesk x, int d, int... numbers) {
        Checks.due("row", x.row(d, 0, numbers.length), 0);
        for (int i = 0; i < numbers.length; i++) {
            Checks.due("put", x.put(d, i, numbers[i]), 0);
        }
    }

    static int tree(QuestionDesk x, String text) {
        text(x, 7, text);
        return x.tree(7);
    }

    /** A member, with a digit for its wish for each end from 0 on. */
    static int member(QuestionDesk x, int kind, int told, String wishes) {
        int m = x.member(kind, told);
        wishes(x, m, wishes);
        return m;
    }

    static void wishes(QuestionDesk x, int m, String wishes) {
        for (int end = 0; end < wishes.length(); end++) {
            x.wish(m, end, wishes.charAt(end) - '0');
        }
    }

    static void doubts(QuestionDesk x, int m, int chance, String wishes) {
        x.sure(m, chance);
        for (int end = 0; end < wishes.length(); end++) {
            x.doubted(m, end, wishes.charAt(end) - '0');
        }
    }

    /** Three plain ones of one voice among whom 0 beats 1, 1 beats 2, 2 beats 0. */
    static QuestionDesk round() {
        QuestionDesk x = new QuestionDesk();
        member(x, 0, 10, "012");
        member(x, 0, 10, "201");
        member(x, 0, 10, "120");
        return x;
    }
}
