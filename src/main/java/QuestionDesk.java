import java.util.Arrays;

/**
 * A chamber that settles everything two by two, and a desk that asks what comes of it.
 * The words in capitals are those of the document; README.md says how to use the class.
 */
public final class QuestionDesk {
    private static final int ENDS = 7;
    private static final int MEMBERS = 9;
    private static final int TREES = 12;
    private static final int SHELVES = 8;
    private static final int LONGEST_ROW = 120;
    private static final int DEEPEST_TREE = 6;
    private static final int MOST_STEPS = 5;
    private static final int PARTIES = 3;
    private static final int MOST_DOUBTED = 6;
    private static final int FIRST_ENDS = 3;
    private static final int FIRST_WISH = 5;
    private static final int WORST_WISH = 9;
    private static final int SURE_CHANCE = 100;

    private static final int PLAIN = 0;
    private static final int DEEP = 1;
    private static final int SOME = 2;
    private static final int PARTY = 3;
    private static final int BOUGHT = 4;
    private static final int MIXED = 5;
    private static final int[] MOST_NUMBER = {0, 0, 5, 2, 2, 0};

    private static final int NO_SUCH = -1;
    private static final int NO_ROOM = -2;
    private static final int NOT_NOW = -3;
    private static final int NONE = -4;
    private static final int FAULTY = -100;
    private static final int HOLDS_NOTHING = -11;
    private static final int OTHER_KIND = -12;
    private static final int NO_PLACE = -13;
    private static final int SIZE_BELOW_0 = -14;
    private static final int NO_FAILURE = -15;
    private static final int NO_SUCH_AMONG_SIGNED = -1000000001;
    private static final int NO_REFUSAL = 0;

    private static final int NO_FAULT = -1;
    private static final int QUESTION = 7;
    private static final int CHOICE = 8;

    // A text of 120 bytes has at most 30 ENDS and 29 ( or {; KILLERS and SHIELDS put four parts more on top.
    private static final int SLOTS = 64;
    private static final int MOST_ORDERS = 5040;
    private static final int MOST_CHAINS = 128;

    private static final int NOTHING = 0;
    private static final int A_MEMBER = 1;
    private static final int A_ROW = 2;
    private static final int A_ROW_OF_BYTES = 3;
    private static final int BYTES = 0;
    private static final int SHORTS = 1;
    private static final int INTS = 2;

    private static final int LIKED_ENDS = 3;
    private static final int LIKINGS = 6;
    private static final int MOST_CHAMBERS = 216;
    // Behind one another for the likings 012, 021, 102, 120, 201, 210: the place of END 0, of 1, of 2.
    private static final int[] LIKING_PLACES = {0, 1, 2, 0, 2, 1, 1, 0, 2, 2, 0, 1, 1, 2, 0, 2, 1, 0};
    private static final int[] FIRST_TWO_CHANGED = {2, 4, 0, 5, 1, 3};
    private static final int[] LAST_TWO_CHANGED = {1, 0, 3, 2, 5, 4};

    private final Chamber now = new Chamber();
    private final Chamber picture = new Chamber();
    private boolean pictured;
    private final Shelf[] shelves = new Shelf[SHELVES];
    private final Reader reader = new Reader();
    private final Hall hall = new Hall();
    private final Orders orders = new Orders();
    private final Plots plots = new Plots(now, hall);
    private final Laws laws = new Laws(hall);

    public QuestionDesk() {
        for (int d = 0; d < SHELVES; d++) {
            shelves[d] = new Shelf();
        }
    }

    // ---- ends, members

    public int set(int what, int n) {
        if (what == 0 && within(n, 1, ENDS)) {
            int was = now.ends;
            now.ends = n;
            return was;
        }
        if (what == 1 && within(n, 0, 1)) {
            int was = now.chair;
            now.chair = n;
            return was;
        }
        return NO_SUCH;
    }

    public int member(int kind, int told) {
        if (told < 0 || !within(told / 10, 1, 9) || !fits(kind, told % 10)) {
            return NO_SUCH;
        }
        if (now.size >= MEMBERS) {
            return NO_ROOM;
        }
        int which = now.size;
        now.members[which].begin(which, kind, told / 10, told % 10);
        now.size = which + 1;
        return which;
    }

    public int bought(int member, int end) {
        Member m = now.memberAt(member);
        if (m == null || !isEnd(end)) {
            return NO_SUCH;
        }
        if (m.kind != BOUGHT) {
            return NOT_NOW;
        }
        int was = m.end;
        m.end = end;
        return was;
    }

    public int becomes(int member, int told) {
        Member m = now.memberAt(member);
        if (m == null || told < 0 || !fits(told / 10, told % 10)) {
            return NO_SUCH;
        }
        int was = m.kind;
        m.kind = told / 10;
        m.number = told % 10;
        return was;
    }

    public int wish(int member, int end, int n) {
        return changeWish(member, end, n, false);
    }

    public int doubted(int member, int end, int n) {
        return changeWish(member, end, n, true);
    }

    public int sure(int member, int n) {
        Member m = now.memberAt(member);
        if (m == null || !within(n, 0, SURE_CHANCE)) {
            return NO_SUCH;
        }
        int was = m.chance;
        m.chance = n;
        return was;
    }

    public int about(int member, int what) {
        Member m = now.memberAt(member);
        if (m == null) {
            return NO_SUCH;
        }
        switch (what) {
            case 0: return m.kind;
            case 1: return m.voices;
            case 2: return m.number;
            case 3: return m.weight();
            case 4: return m.chance;
            default: return NO_SUCH;
        }
    }

    // ---- trees

    public int fault(int d) {
        Shelf shelf = shelfAt(d);
        int refusal = refusalOf(shelf, A_ROW_OF_BYTES);
        if (shelf == null || refusal != NO_REFUSAL) {
            return refusal;
        }
        int place = reader.faultOf(shelf.cells, shelf.size, now.ends);
        return place == NO_FAULT ? NONE : place;
    }

    public int tree(int d) {
        Shelf shelf = shelfAt(d);
        if (shelf == null) {
            return NO_SUCH;
        }
        if (now.trees >= TREES) {
            return NO_ROOM;
        }
        int refusal = refusalOf(shelf, A_ROW_OF_BYTES);
        if (refusal != NO_REFUSAL) {
            return refusal;
        }
        int place = reader.faultOf(shelf.cells, shelf.size, now.ends);
        if (place != NO_FAULT) {
            return FAULTY - place;
        }
        int which = now.trees;
        now.told[which] = reader.treeRead();
        now.trees = which + 1;
        return which;
    }

    public int of(int tree, int what) {
        Tree t = now.treeAt(tree);
        if (t == null) {
            return NO_SUCH;
        }
        switch (what) {
            case 0: return t.questions;
            case 1: return t.standing;
            case 2:
                hall.seat(now);
                hall.settle(t);
                return hall.names[0];
            default: return NO_SUCH;
        }
    }

    // ---- beating, running

    public int beat(int x, int y) {
        if (!isEnd(x) || !isEnd(y)) {
            return NO_SUCH_AMONG_SIGNED;
        }
        hall.seat(now);
        return hall.margin(x, y);
    }

    public int stands(int x, int y) {
        if (!isEnd(x) || !isEnd(y)) {
            return NO_SUCH;
        }
        hall.seat(now);
        return hall.better(x, y);
    }

    public int run(int tree) {
        Tree t = now.treeAt(tree);
        if (t == null) {
            return NO_SUCH;
        }
        hall.seat(now);
        return hall.settle(t);
    }

    public int ask(int tree, int q, int what) {
        Tree t = now.treeAt(tree);
        if (t == null || !within(q, 0, t.questions - 1) || !within(what, 0, 2)) {
            return NO_SUCH;
        }
        hall.seat(now);
        hall.settle(t);
        int node = t.nodeOf(q);
        if (what == 0) {
            return hall.won[node];
        }
        return hall.comes[what == 1 ? node + 1 : t.second[node]];
    }

    public int wonBy(int tree, int q) {
        Tree t = now.treeAt(tree);
        if (t == null || !within(q, 0, t.questions - 1)) {
            return NO_SUCH_AMONG_SIGNED;
        }
        hall.seat(now);
        hall.settle(t);
        return hall.leads[t.nodeOf(q)];
    }

    public int why(int tree, int q, int member) {
        Tree t = now.treeAt(tree);
        if (t == null || !within(q, 0, t.questions - 1) || now.memberAt(member) == null) {
            return NO_SUCH_AMONG_SIGNED;
        }
        hall.seat(now);
        hall.settle(t);
        int node = t.nodeOf(q);
        return hall.voteIn(node + 1, t.second[node], member);
    }

    public int ifAll(int tree, int kind) {
        Tree t = now.treeAt(tree);
        if (t == null || !within(kind, PLAIN, DEEP)) {
            return NO_SUCH;
        }
        return comesIfAll(t, kind);
    }

    public int parts(int tree) {
        Tree t = now.treeAt(tree);
        if (t == null) {
            return NO_SUCH;
        }
        comesIfAll(t, PLAIN);
        hall.rememberWinners(t);
        comesIfAll(t, DEEP);
        int node = hall.firstOtherWinner(t);
        return node == NONE ? NONE : t.questionsAhead(node);
    }

    // ---- orders

    public int order(int d, boolean deep) {
        Shelf shelf = shelfAt(d);
        int refusal = refusalOf(shelf, A_ROW_OF_BYTES);
        if (shelf == null || refusal != NO_REFUSAL) {
            return refusal;
        }
        weighOrders();
        if (!orders.lineUp(shelf.cells, shelf.size)) {
            return NO_PLACE;
        }
        return orders.comesOf(shelf.size, deep);
    }

    public int reach(boolean deep) {
        weighOrders();
        return orders.reachBits(deep);
    }

    public int first(int end, boolean deep) {
        if (!isThere(end)) {
            return NO_SUCH;
        }
        weighOrders();
        return orders.firstFor(end, deep);
    }

    public int best() {
        weighOrders();
        return orders.beatsAll();
    }

    public int top(int what) {
        if (!within(what, 0, 1)) {
            return NO_SUCH;
        }
        weighOrders();
        return what == 0 ? orders.topBits() : orders.uncoveredBits();
    }

    // ---- killers, telling, chances

    public int killers(int tree) {
        Tree t = now.treeAt(tree);
        if (t == null) {
            return NO_SUCH;
        }
        hall.seat(now);
        hall.settle(t);
        return hall.killerBits(t.nodes, now.ends);
    }

    public int shields(int tree, int end) {
        Tree t = now.treeAt(tree);
        if (t == null || !isThere(end)) {
            return NO_SUCH;
        }
        hall.seat(now);
        hall.settle(t);
        if ((hall.killerBits(t.nodes, now.ends) >> end & 1) == 0) {
            return NOT_NOW;
        }
        return hall.shieldBits(t.nodes, end, now.ends);
    }

    public int tell(int tree, int end) {
        Tree t = now.treeAt(tree);
        if (t == null || !isEnd(end)) {
            return NO_SUCH;
        }
        return plots.fewestOf(plots.plainOnes(), DEEP, t, end);
    }

    public int falseVote(int tree, int d) {
        Tree t = now.treeAt(tree);
        Shelf shelf = shelfAt(d);
        if (t == null || shelf == null) {
            return NO_SUCH;
        }
        int refusal = refusalOf(shelf, A_ROW_OF_BYTES);
        if (refusal != NO_REFUSAL) {
            return refusal;
        }
        if (!shelf.holdsWishes()) {
            return NO_PLACE;
        }
        return plots.firstGaining(t, shelf.cells);
    }

    public long chance(int tree, int end) {
        Tree t = now.treeAt(tree);
        if (t == null || !isEnd(end)) {
            return NO_SUCH;
        }
        return plots.chanceOf(t, end);
    }

    public int boughtOff(int tree, int end) {
        Tree t = now.treeAt(tree);
        if (t == null || !isEnd(end)) {
            return NO_SUCH;
        }
        return plots.fewestOf(plots.allOnes(), BOUGHT, t, end);
    }

    public int bestLie(int tree, int member, int what) {
        Tree t = now.treeAt(tree);
        if (t == null || now.memberAt(member) == null || !within(what, 0, 1)) {
            return NO_SUCH;
        }
        plots.findLie(t, member);
        return what == 0 ? plots.lieDigits(t) : plots.lieEnd;
    }

    public int surely(int x, int y, int what) {
        if (!isEnd(x) || !isEnd(y) || !within(what, 0, 1)) {
            return NO_SUCH;
        }
        return plots.beatsIn(x, y, what == 0) ? 1 : 0;
    }

    public int ring(int i) {
        if (!within(i, 0, ENDS - 1)) {
            return NO_SUCH;
        }
        weighOrders();
        return orders.ringAt(i);
    }

    public int usual(int d) {
        Shelf shelf = shelfAt(d);
        int refusal = refusalOf(shelf, A_ROW_OF_BYTES);
        if (shelf == null || refusal != NO_REFUSAL) {
            return refusal;
        }
        if (shelf.size < now.ends) {
            return NO_PLACE;
        }
        return orders.byRanks(shelf.cells, now.ends);
    }

    public int breach(int tree, int law, int m, boolean deep) {
        Tree t = now.treeAt(tree);
        if (t == null || !within(law, 0, 2) || !within(m, 1, 3)) {
            return NO_SUCH;
        }
        if ((t.standing | t.asked) >= 1 << LIKED_ENDS) {
            return NOT_NOW;
        }
        laws.assemble(m, deep ? DEEP : PLAIN, now.chair);
        laws.reckonEnds(t);
        return laws.firstBreach(law);
    }

    public int finds(int tree, int end) {
        Tree t = now.treeAt(tree);
        if (t == null || !isEnd(end)) {
            return NO_SUCH;
        }
        int plain = comesIfAll(t, PLAIN) == end ? 1 : 0;
        int deep = comesIfAll(t, DEEP) == end ? 2 : 0;
        return plain + deep;
    }

    // ---- the image, what is told

    public int image() {
        picture.takeOver(now);
        pictured = true;
        return now.size;
    }

    public int restore() {
        if (!pictured) {
            return NOT_NOW;
        }
        now.takeOver(picture);
        return now.size;
    }

    public int count(int what) {
        switch (what) {
            case 0: return now.ends;
            case 1: return now.chair;
            case 2: return now.size;
            case 3: return now.allVoices();
            case 4: return now.trees;
            case 5: return now.allQuestions();
            case 6: return now.allWeight();
            default: return NO_SUCH;
        }
    }

    // ---- shelves

    public int keep(int d, int what, int k) {
        Shelf shelf = shelfAt(d);
        if (shelf == null || !within(what, 0, 1)) {
            return NO_SUCH;
        }
        if (what == 0) {
            shelf.holds = NOTHING;
            return 0;
        }
        Member m = now.memberAt(k);
        if (m == null) {
            return NO_SUCH;
        }
        shelf.member.takeOver(m);
        shelf.holds = A_MEMBER;
        return 0;
    }

    public int row(int d, int sort, int n) {
        Shelf shelf = shelfAt(d);
        if (shelf == null || !within(sort, BYTES, INTS) || n > LONGEST_ROW) {
            return NO_SUCH;
        }
        if (n < 0) {
            return SIZE_BELOW_0;
        }
        shelf.beginRow(sort, n);
        return 0;
    }

    public int put(int d, int i, int v) {
        Shelf shelf = shelfAt(d);
        int refusal = refusalOf(shelf, A_ROW);
        if (shelf == null || refusal != NO_REFUSAL) {
            return refusal;
        }
        if (!within(i, 0, shelf.size - 1)) {
            return NO_PLACE;
        }
        shelf.cells[i] = shelf.lowestBits(v);
        return 0;
    }

    public long element(int d, int i) throws IllegalArgumentException, IllegalStateException {
        Shelf shelf = shelfAt(d);
        if (shelf == null) {
            throw new IllegalArgumentException("no such shelf");
        }
        if (refusalOf(shelf, A_ROW) != NO_REFUSAL) {
            throw new IllegalStateException("no row");
        }
        if (!within(i, 0, shelf.size - 1)) {
            throw new IllegalStateException("no such place");
        }
        return shelf.cells[i];
    }

    public int copy(int d, int i, int e, int j, int n) {
        Shelf from = shelfAt(d);
        Shelf to = shelfAt(e);
        if (from == null || to == null) {
            return NO_SUCH;
        }
        if (from.holds == NOTHING || to.holds == NOTHING) {
            return HOLDS_NOTHING;
        }
        if (from.holds != A_ROW || to.holds != A_ROW || from.sort != to.sort) {
            return OTHER_KIND;
        }
        if (!from.hasPlaces(i, n) || !to.hasPlaces(j, n)) {
            return NO_PLACE;
        }
        System.arraycopy(from.cells, i, to.cells, j, n);
        return n;
    }

    public int heft(int d) {
        Shelf shelf = shelfAt(d);
        int refusal = refusalOf(shelf, A_MEMBER);
        if (shelf == null || refusal != NO_REFUSAL) {
            return refusal;
        }
        return shelf.member.weight();
    }

    public int toss(int d) {
        Shelf shelf = shelfAt(d);
        int refusal = refusalOf(shelf, A_MEMBER);
        if (shelf == null || refusal != NO_REFUSAL) {
            return refusal;
        }
        Member m = shelf.member;
        try {
            m.fail();
        } catch (UnsupportedOperationException sold) {
            return 100 + m.end + m.which;
        } catch (IllegalStateException own) {
            return m.which;
        }
        return NO_FAILURE;
    }

    private static boolean within(int n, int least, int most) {
        return n >= least && n <= most;
    }

    private static boolean isEnd(int end) {
        return within(end, 0, ENDS - 1);
    }

    private static boolean fits(int kind, int number) {
        return within(kind, PLAIN, MIXED) && within(number, 0, MOST_NUMBER[kind]);
    }

    private boolean isThere(int end) {
        return within(end, 0, now.ends - 1);
    }

    private int changeWish(int member, int end, int n, boolean doubted) {
        Member m = now.memberAt(member);
        if (m == null || !isEnd(end) || !within(n, 0, WORST_WISH)) {
            return NO_SUCH;
        }
        int[] told = doubted ? m.doubts : m.wishes;
        int was = told[end];
        told[end] = n;
        return was;
    }

    private Shelf shelfAt(int d) {
        return within(d, 0, SHELVES - 1) ? shelves[d] : null;
    }

    private static int refusalOf(Shelf shelf, int wanted) {
        if (shelf == null) {
            return NO_SUCH;
        }
        if (shelf.holds == NOTHING) {
            return HOLDS_NOTHING;
        }
        return shelf.isA(wanted) ? NO_REFUSAL : OTHER_KIND;
    }

    private int comesIfAll(Tree t, int kind) {
        hall.seat(now);
        hall.makeAll(kind);
        return hall.settle(t);
    }

    private void weighOrders() {
        hall.seat(now);
        orders.weigh(hall, now.ends);
    }

    /** One who votes, with all that is told of it; also what a SHELF keeps of one. */
    private static final class Member {
        int which;
        int kind;
        int voices;
        int number;
        int end;
        int chance;
        final int[] wishes = new int[ENDS];
        final int[] doubts = new int[ENDS];

        void begin(int place, int newKind, int newVoices, int newNumber) {
            which = place;
            kind = newKind;
            voices = newVoices;
            number = newNumber;
            end = 0;
            chance = 0;
            Arrays.fill(wishes, FIRST_WISH);
            Arrays.fill(doubts, FIRST_WISH);
        }

        void takeOver(Member other) {
            which = other.which;
            kind = other.kind;
            voices = other.voices;
            number = other.number;
            end = other.end;
            chance = other.chance;
            tellWishes(other.wishes);
            System.arraycopy(other.doubts, 0, doubts, 0, ENDS);
        }

        void tellWishes(int[] told) {
            System.arraycopy(told, 0, wishes, 0, ENDS);
        }

        int weight() {
            switch (kind) {
                case DEEP: return voices + 1;
                case SOME: return voices + 1 + number;
                case PARTY: return 2 * voices;
                case BOUGHT: return 2 * voices - 1;
                case MIXED: return voices / 2;
                default: return voices;
            }
        }

        /** 1 towards x, -1 towards y, 0 if both are liked alike. */
        int leaning(int x, int y) {
            if (wishes[x] == wishes[y]) {
                return 0;
            }
            return wishes[x] < wishes[y] ? 1 : -1;
        }

        boolean ofParty() {
            return kind == PARTY || kind == BOUGHT;
        }

        void fail() {
            if (kind == BOUGHT) {
                throw new UnsupportedOperationException("bought");
            }
            if (kind == PARTY || kind == MIXED && voices == 1) {
                return;
            }
            throw new IllegalStateException("failed");
        }
    }

    /** Holds nothing, a MEMBER as it was when it was kept, or a ROW; room for each is there from the start. */
    private static final class Shelf {
        int holds;
        int sort;
        int size;
        final Member member = new Member();
        final int[] cells = new int[LONGEST_ROW];

        void beginRow(int newSort, int n) {
            holds = A_ROW;
            sort = newSort;
            size = n;
            Arrays.fill(cells, 0);
        }

        int lowestBits(int v) {
            switch (sort) {
                case BYTES: return (byte) v;
                case SHORTS: return (short) v;
                default: return v;
            }
        }

        boolean isA(int wanted) {
            return wanted == A_ROW_OF_BYTES ? holds == A_ROW && sort == BYTES : holds == wanted;
        }

        boolean hasPlaces(int from, int n) {
            return within(from, 0, size) && within(n, 0, size - from);
        }

        boolean holdsWishes() {
            if (size != ENDS) {
                return false;
            }
            for (int x = 0; x < ENDS; x++) {
                if (!within(cells[x], 0, WORST_WISH)) {
                    return false;
                }
            }
            return true;
        }
    }

    /** All that THE IMAGE is of. */
    private static final class Chamber {
        int ends = FIRST_ENDS;
        int chair;
        int size;
        int trees;
        final Member[] members = new Member[MEMBERS];
        final Tree[] told = new Tree[TREES];

        Chamber() {
            for (int m = 0; m < MEMBERS; m++) {
                members[m] = new Member();
            }
        }

        Member memberAt(int m) {
            return within(m, 0, size - 1) ? members[m] : null;
        }

        Tree treeAt(int t) {
            return within(t, 0, trees - 1) ? told[t] : null;
        }

        void takeOver(Chamber other) {
            ends = other.ends;
            chair = other.chair;
            size = other.size;
            trees = other.trees;
            for (int m = 0; m < size; m++) {
                members[m].takeOver(other.members[m]);
            }
            // A TREE never changes once it is told, so both may hold the same one.
            for (int t = 0; t < trees; t++) {
                told[t] = other.told[t];
            }
        }

        int allVoices() {
            int sum = 0;
            for (int m = 0; m < size; m++) {
                sum += members[m].voices;
            }
            return sum;
        }

        int allWeight() {
            int sum = 0;
            for (int m = 0; m < size; m++) {
                sum += members[m].weight();
            }
            return sum;
        }

        int allQuestions() {
            int sum = 0;
            for (int t = 0; t < trees; t++) {
                sum += told[t].questions;
            }
            return sum;
        }
    }

    /**
     * A TREE as its parts in the order in which they begin, the whole of it being part 0:
     * the first part of a QUESTION or CHOICE is the next one, and parts come behind what they are parts of.
     */
    private static final class Tree {
        final int nodes;
        final int[] what;
        final int[] second;
        final int[] pairs;
        final int questions;
        final int standing;
        final int asked;

        Tree(int nodes, int[] what, int[] second, int[] pairs) {
            this.nodes = nodes;
            this.what = what;
            this.second = second;
            this.pairs = pairs;
            int asks = 0;
            int stood = 0;
            int compared = 0;
            for (int node = 0; node < nodes; node++) {
                if (what[node] == QUESTION) {
                    asks++;
                } else if (what[node] == CHOICE) {
                    compared |= 1 << pairs[node] / ENDS | 1 << pairs[node] % ENDS;
                } else {
                    stood |= 1 << what[node];
                }
            }
            questions = asks;
            standing = stood;
            asked = compared;
        }

        int nodeOf(int q) {
            int left = q;
            for (int node = 0; node < nodes; node++) {
                if (what[node] == QUESTION) {
                    if (left == 0) {
                        return node;
                    }
                    left--;
                }
            }
            return 0;
        }

        int questionsAhead(int place) {
            int sum = 0;
            for (int node = 0; node < place; node++) {
                if (what[node] == QUESTION) {
                    sum++;
                }
            }
            return sum;
        }
    }

    /** Reads a text as a TREE; wherever it can't go on, it stands at the FAULT. */
    private static final class Reader {
        private int[] text;
        private int size;
        private int ends;
        private int at;
        private int nodes;
        // Each part takes a byte at least, so no text has more parts than bytes.
        private final int[] what = new int[LONGEST_ROW];
        private final int[] second = new int[LONGEST_ROW];
        private final int[] pairs = new int[LONGEST_ROW];

        int faultOf(int[] bytes, int length, int endsThere) {
            text = bytes;
            size = length;
            ends = endsThere;
            at = 0;
            nodes = 0;
            boolean whole = readPart(0);
            return whole && at == size ? NO_FAULT : at;
        }

        Tree treeRead() {
            return new Tree(nodes, Arrays.copyOf(what, nodes), Arrays.copyOf(second, nodes),
                    Arrays.copyOf(pairs, nodes));
        }

        private boolean readPart(int depth) {
            if (at >= size) {
                return false;
            }
            if (text[at] == '(') {
                return depth < DEEPEST_TREE && readQuestion(depth);
            }
            if (text[at] == '{') {
                return depth < DEEPEST_TREE && readChoice(depth);
            }
            int end = readEnd();
            if (end < 0) {
                return false;
            }
            addNode(end);
            return true;
        }

        private boolean readQuestion(int depth) {
            int node = addNode(QUESTION);
            if (!readSign('(') || !readPart(depth + 1) || !readSign('v')) {
                return false;
            }
            second[node] = nodes;
            return readPart(depth + 1) && readSign(')');
        }

        private boolean readChoice(int depth) {
            int node = addNode(CHOICE);
            if (!readSign('{') || !readPair(node) || !readPart(depth + 1) || !readSign('/')) {
                return false;
            }
            second[node] = nodes;
            return readPart(depth + 1) && readSign('}');
        }

        private boolean readPair(int node) {
            int x = readEnd();
            if (x < 0 || !readSign('>')) {
                return false;
            }
            int y = readEnd();
            if (y < 0) {
                return false;
            }
            pairs[node] = x * ENDS + y;
            return readSign(':');
        }

        private int readEnd() {
            if (at >= size || !within(text[at] - '0', 0, ends - 1)) {
                return NO_SUCH;
            }
            int end = text[at] - '0';
            at++;
            return end;
        }

        private boolean readSign(char sign) {
            if (at >= size || text[at] != sign) {
                return false;
            }
            at++;
            return true;
        }

        private int addNode(int kind) {
            int node = nodes;
            what[node] = kind;
            second[node] = 0;
            pairs[node] = 0;
            nodes++;
            return node;
        }
    }

    /** The MEMBERS as they are supposed to be for one reckoning, and what comes of each part of a TREE with them. */
    private static final class Hall {
        int size;
        private int chair;
        private int steps;
        final Member[] seats = new Member[MEMBERS];
        final int[] names = new int[SLOTS];
        final int[] comes = new int[SLOTS];
        final int[] won = new int[SLOTS];
        final int[] leads = new int[SLOTS];
        private final int[] standing = new int[SLOTS];
        private final int[] seen = new int[(MOST_STEPS + 1) * SLOTS];
        private final int[] lines = new int[PARTIES];
        private final int[] wonBefore = new int[SLOTS];

        Hall() {
            for (int m = 0; m < MEMBERS; m++) {
                seats[m] = new Member();
            }
        }

        void seat(Chamber chamber) {
            size = chamber.size;
            chair = chamber.chair;
            steps = 0;
            for (int m = 0; m < size; m++) {
                seats[m].takeOver(chamber.members[m]);
                if (seats[m].kind == SOME) {
                    steps = Math.max(steps, seats[m].number);
                }
            }
        }

        /** New MEMBERS of one VOICE in place of those who were seated. */
        void seatOthers(int members, int kind, int newChair) {
            size = members;
            chair = newChair;
            steps = 0;
            for (int m = 0; m < size; m++) {
                seats[m].begin(m, kind, 1, 0);
            }
        }

        void makeAll(int kind) {
            for (int m = 0; m < size; m++) {
                seats[m].kind = kind;
            }
        }

        int margin(int x, int y) {
            int by = 0;
            for (int m = 0; m < size; m++) {
                by += seats[m].voices * seats[m].leaning(x, y);
            }
            return by;
        }

        boolean beats(int x, int y) {
            return x != y && better(x, y) == x;
        }

        int better(int x, int y) {
            if (x == y) {
                return x;
            }
            int by = margin(x, y);
            return by == 0 ? chairsOf(x, y) : by > 0 ? x : y;
        }

        private int chairsOf(int x, int y) {
            return chair == 0 ? Math.min(x, y) : Math.max(x, y);
        }

        int settle(Tree tree) {
            // Parts come behind what they are parts of, so backwards all parts are known in time.
            for (int node = tree.nodes - 1; node >= 0; node--) {
                int what = tree.what[node];
                if (what == QUESTION) {
                    settleQuestion(node, node + 1, tree.second[node]);
                } else if (what == CHOICE) {
                    int pair = tree.pairs[node];
                    settleChoice(node, node + 1, tree.second[node], beats(pair / ENDS, pair % ENDS));
                } else {
                    settleEnd(node, what);
                }
            }
            return comes[0];
        }

        private void settleEnd(int node, int end) {
            names[node] = end;
            comes[node] = end;
            standing[node] = 1 << end;
            for (int d = 0; d <= steps; d++) {
                seen[d * SLOTS + node] = end;
            }
        }

        private void settleChoice(int node, int a, int b, boolean firstTaken) {
            int taken = firstTaken ? a : b;
            names[node] = names[taken];
            comes[node] = comes[taken];
            standing[node] = standing[a] | standing[b];
            for (int d = 0; d <= steps; d++) {
                seen[d * SLOTS + node] = seen[d * SLOTS + taken];
            }
        }

        private void settleQuestion(int node, int a, int b) {
            names[node] = names[a];
            standing[node] = standing[a] | standing[b];
            leads[node] = votesFor(a, b);
            won[node] = leads[node] > 0 || leads[node] == 0 && chairsOf(names[a], names[b]) == names[a] ? 0 : 1;
            comes[node] = comes[won[node] == 0 ? a : b];
            seen[node] = names[node];
            for (int d = 1; d <= steps; d++) {
                int before = (d - 1) * SLOTS;
                seen[d * SLOTS + node] = better(seen[before + a], seen[before + b]);
            }
        }

        private int votesFor(int a, int b) {
            drawLines(a, b);
            int sum = 0;
            for (int m = 0; m < size; m++) {
                sum += voteOf(seats[m], a, b);
            }
            return sum;
        }

        int voteIn(int a, int b, int m) {
            drawLines(a, b);
            return voteOf(seats[m], a, b);
        }

        private void drawLines(int a, int b) {
            Arrays.fill(lines, 0);
            for (int m = 0; m < size; m++) {
                Member one = seats[m];
                if (one.ofParty()) {
                    lines[one.number] += one.voices * one.leaning(names[a], names[b]);
                }
            }
            for (int p = 0; p < PARTIES; p++) {
                lines[p] = Integer.signum(lines[p]);
            }
        }

        private int voteOf(Member one, int a, int b) {
            switch (one.kind) {
                case DEEP:
                    return one.voices * one.leaning(comes[a], comes[b]);
                case SOME:
                    int from = one.number * SLOTS;
                    return one.voices * one.leaning(seen[from + a], seen[from + b]);
                case PARTY:
                    return one.voices * lines[one.number];
                case BOUGHT:
                    return one.voices * sideOfBought(one, a, b);
                case MIXED:
                    int half = one.voices / 2;
                    return half * one.leaning(names[a], names[b])
                            + (one.voices - half) * one.leaning(comes[a], comes[b]);
                default:
                    return one.voices * one.leaning(names[a], names[b]);
            }
        }

        private int sideOfBought(Member one, int a, int b) {
            int inFirst = standing[a] >> one.end & 1;
            int inSecond = standing[b] >> one.end & 1;
            return inFirst == inSecond ? lines[one.number] : inFirst - inSecond;
        }

        void rememberWinners(Tree tree) {
            System.arraycopy(won, 0, wonBefore, 0, tree.nodes);
        }

        int firstOtherWinner(Tree tree) {
            for (int node = 0; node < tree.nodes; node++) {
                if (tree.what[node] == QUESTION && won[node] != wonBefore[node]) {
                    return node;
                }
            }
            return NONE;
        }

        /** Puts ( part v x ) on top of a settled part, in two free slots, and says in which it stands. */
        private int putAgainst(int part, int free, int x) {
            settleEnd(free, x);
            settleQuestion(free + 1, part, free);
            return free + 1;
        }

        int killerBits(int free, int ends) {
            int bits = 0;
            for (int x = 0; x < ends; x++) {
                if (comes[putAgainst(0, free, x)] != comes[0]) {
                    bits |= 1 << x;
                }
            }
            return bits;
        }

        int shieldBits(int free, int killer, int ends) {
            int attacked = putAgainst(0, free, killer);
            int bits = 0;
            for (int z = 0; z < ends; z++) {
                if (comes[putAgainst(attacked, attacked + 1, z)] == comes[0]) {
                    bits |= 1 << z;
                }
            }
            return bits;
        }
    }

    /** ORDERS of ENDS, and what can be said of the ENDS by who BEATS whom alone. */
    private static final class Orders {
        private int ends;
        private int all;
        private final int[] over = new int[ENDS];
        private final int[] line = new int[ENDS];
        private final int[] peaks = new int[MOST_CHAINS];

        void weigh(Hall hall, int endsThere) {
            ends = endsThere;
            all = (1 << ends) - 1;
            Arrays.fill(over, 0);
            for (int x = 0; x < ends; x++) {
                for (int y = x + 1; y < ends; y++) {
                    int winner = hall.better(x, y);
                    int loser = x + y - winner;
                    over[winner] |= 1 << loser;
                }
            }
        }

        /** The next row by numbers of the same ENDS from a place on; false behind the last one. */
        static boolean nextRow(int[] row, int from, int size) {
            int turn = size - 2;
            while (turn >= from && row[turn] > row[turn + 1]) {
                turn--;
            }
            if (turn < from) {
                return false;
            }
            int next = size - 1;
            while (next > turn + 1 && row[next] < row[turn]) {
                next--;
            }
            change(row, turn, next);
            for (int i = turn + 1, j = size - 1; i < j; i++, j--) {
                change(row, i, j);
            }
            return true;
        }

        private static void change(int[] row, int i, int j) {
            int held = row[i];
            row[i] = row[j];
            row[j] = held;
        }

        /** The ENDS of a set in a row, the least first; how many. */
        static int spread(int bits, int[] row) {
            int size = 0;
            for (int x = 0; x < ENDS; x++) {
                if ((bits >> x & 1) == 1) {
                    row[size] = x;
                    size++;
                }
            }
            return size;
        }

        static int digits(int[] row, int size) {
            int sum = 0;
            for (int i = size - 1; i >= 0; i--) {
                sum = sum * 8 + row[i];
            }
            return sum;
        }

        boolean lineUp(int[] cells, int size) {
            if (size < 2 || size > ends) {
                return false;
            }
            int met = 0;
            for (int i = 0; i < size; i++) {
                if (!within(cells[i], 0, ends - 1) || (met >> cells[i] & 1) == 1) {
                    return false;
                }
                met |= 1 << cells[i];
                line[i] = cells[i];
            }
            return true;
        }

        int comesOf(int size, boolean deep) {
            return deep ? comesDeep(size) : comesPlain(size);
        }

        private int comesPlain(int size) {
            int stood = line[0];
            for (int i = 1; i < size; i++) {
                if ((over[line[i]] >> stood & 1) == 1) {
                    stood = line[i];
                }
            }
            return stood;
        }

        // From behind, an END changes what comes only if it BEATS all that would come behind it:
        // where it loses to one of these, those ahead of that one, each beating all behind it, take over in turn.
        private int comesDeep(int size) {
            int coming = line[size - 1];
            int chain = 1 << coming;
            for (int i = size - 2; i >= 0; i--) {
                if ((over[line[i]] & chain) == chain) {
                    coming = line[i];
                    chain |= 1 << coming;
                }
            }
            return coming;
        }

        // With PLAIN ones an END comes of some ORDER just if it reaches all by BEATING:
        // behind one another on such ways, the farthest first, each takes the place of the last.
        int reachBits(boolean deep) {
            return deep ? peakBits() : topBits();
        }

        // With DEEP ones an END comes of some ORDER just if it is the peak of a chain (each BEATS all below it)
        // that no END BEATS whole: the chain goes to the end of the ORDER, and nothing ahead of it joins.
        private int peakBits() {
            int bits = 0;
            for (int chain = 1; chain <= all; chain++) {
                peaks[chain] = peakOf(chain);
                if (peaks[chain] != NONE && !isBeatenWhole(chain)) {
                    bits |= 1 << peaks[chain];
                }
            }
            return bits;
        }

        private int peakOf(int chain) {
            for (int x = 0; x < ends; x++) {
                int rest = chain & ~(1 << x);
                if (rest != chain && (over[x] & rest) == rest && (rest == 0 || peaks[rest] != NONE)) {
                    return x;
                }
            }
            return NONE;
        }

        private boolean isBeatenWhole(int chain) {
            for (int x = 0; x < ends; x++) {
                if ((over[x] & chain) == chain) {
                    return true;
                }
            }
            return false;
        }

        int firstFor(int end, boolean deep) {
            if ((reachBits(deep) >> end & 1) == 0) {
                return NONE;
            }
            int size = spread(all, line);
            for (int round = 0; round < MOST_ORDERS; round++) {
                if (comesOf(size, deep) == end) {
                    return digits(line, size);
                }
                if (!nextRow(line, 0, size)) {
                    return NONE;
                }
            }
            return NONE;
        }

        int beatsAll() {
            for (int x = 0; x < ends; x++) {
                if ((over[x] | 1 << x) == all) {
                    return x;
                }
            }
            return NONE;
        }

        int topBits() {
            int bits = 0;
            for (int x = 0; x < ends; x++) {
                if (reachedFrom(x) == all) {
                    bits |= 1 << x;
                }
            }
            return bits;
        }

        private int reachedFrom(int x) {
            int reached = 1 << x;
            for (int step = 0; step < ends; step++) {
                for (int y = 0; y < ends; y++) {
                    if ((reached >> y & 1) == 1) {
                        reached |= over[y];
                    }
                }
            }
            return reached;
        }

        int uncoveredBits() {
            int bits = 0;
            for (int x = 0; x < ends; x++) {
                if (!isBeatenWhole(over[x] | 1 << x)) {
                    bits |= 1 << x;
                }
            }
            return bits;
        }

        int ringAt(int i) {
            int size = spread(topBits(), line);
            if (size < 3 || i >= size) {
                return NONE;
            }
            for (int round = 0; round < MOST_ORDERS; round++) {
                if (isRing(size)) {
                    return line[i];
                }
                if (!nextRow(line, 1, size)) {
                    return NONE;
                }
            }
            return NONE;
        }

        private boolean isRing(int size) {
            for (int i = 0; i < size; i++) {
                int next = i + 1 < size ? line[i + 1] : line[0];
                if ((over[line[i]] >> next & 1) == 0) {
                    return false;
                }
            }
            return true;
        }

        int byRanks(int[] ranks, int endsThere) {
            int left = (1 << endsThere) - 1;
            for (int i = 0; i < endsThere; i++) {
                line[i] = greatestOf(left, ranks, endsThere);
                left &= ~(1 << line[i]);
            }
            return digits(line, endsThere);
        }

        private static int greatestOf(int left, int[] ranks, int endsThere) {
            int found = 0;
            boolean any = false;
            for (int x = 0; x < endsThere; x++) {
                if ((left >> x & 1) == 1 && (!any || ranks[x] > ranks[found])) {
                    found = x;
                    any = true;
                }
            }
            return found;
        }
    }

    /** What comes if some MEMBERS were told, bought, lied, or wish what is doubted. */
    private static final class Plots {
        private final Chamber chamber;
        private final Hall hall;
        private final int[] doubtful = new int[MOST_DOUBTED];
        private final int[] line = new int[ENDS];
        private final int[] lie = new int[ENDS];
        private final int[] others = new int[ENDS];
        private final int[] merged = new int[ENDS];
        int lieEnd;

        Plots(Chamber chamber, Hall hall) {
            this.chamber = chamber;
            this.hall = hall;
        }

        int plainOnes() {
            int plain = 0;
            for (int m = 0; m < chamber.size; m++) {
                if (chamber.members[m].kind == PLAIN) {
                    plain |= 1 << m;
                }
            }
            return plain;
        }

        int allOnes() {
            return (1 << chamber.size) - 1;
        }

        /** The fewest of some MEMBERS that have to become of a KIND (as BOUGHT ones for the END, of party 0). */
        int fewestOf(int allowed, int kind, Tree tree, int end) {
            hall.seat(chamber);
            int most = Integer.bitCount(allowed);
            for (int many = 0; many <= most; many++) {
                for (int set = 0; set <= allowed; set++) {
                    if ((set & ~allowed) == 0 && Integer.bitCount(set) == many) {
                        makeOfKind(set, kind, end);
                        if (hall.settle(tree) == end) {
                            return set;
                        }
                    }
                }
            }
            return NONE;
        }

        private void makeOfKind(int set, int kind, int end) {
            for (int m = 0; m < chamber.size; m++) {
                Member own = chamber.members[m];
                Member seat = hall.seats[m];
                boolean chosen = (set >> m & 1) == 1;
                seat.kind = chosen ? kind : own.kind;
                seat.number = chosen ? 0 : own.number;
                seat.end = chosen ? end : own.end;
            }
        }

        int firstGaining(Tree tree, int[] told) {
            hall.seat(chamber);
            int honest = hall.settle(tree);
            for (int m = 0; m < chamber.size; m++) {
                int[] own = chamber.members[m].wishes;
                hall.seats[m].tellWishes(told);
                int got = hall.settle(tree);
                hall.seats[m].tellWishes(own);
                if (own[got] < own[honest]) {
                    return m;
                }
            }
            return NONE;
        }

        private int seatDoubtful() {
            hall.seat(chamber);
            int size = 0;
            for (int m = 0; m < chamber.size && size < MOST_DOUBTED; m++) {
                if (chamber.members[m].chance > 0) {
                    doubtful[size] = m;
                    size++;
                }
            }
            return size;
        }

        /** Seats one of the cases (the bits say whose DOUBTED WISHES are the true ones), and says its weight. */
        private long suppose(int bits, int size) {
            long weight = 1;
            for (int i = 0; i < size; i++) {
                Member own = chamber.members[doubtful[i]];
                boolean doubted = (bits >> i & 1) == 1;
                hall.seats[doubtful[i]].tellWishes(doubted ? own.doubts : own.wishes);
                weight *= doubted ? own.chance : SURE_CHANCE - own.chance;
            }
            return weight;
        }

        long chanceOf(Tree tree, int end) {
            int size = seatDoubtful();
            long sum = 0;
            for (int bits = 0; bits < 1 << size; bits++) {
                long weight = suppose(bits, size);
                if (weight > 0 && hall.settle(tree) == end) {
                    sum += weight;
                }
            }
            return sum;
        }

        boolean beatsIn(int x, int y, boolean everyCase) {
            int size = seatDoubtful();
            for (int bits = 0; bits < 1 << size; bits++) {
                suppose(bits, size);
                if (hall.beats(x, y) != everyCase) {
                    return !everyCase;
                }
            }
            return everyCase;
        }

        private int there() {
            return (1 << chamber.ends) - 1;
        }

        /** ENDS that are there and whose liking can matter to what comes of a TREE. */
        private int mattering(Tree tree) {
            return (tree.standing | tree.asked) & there();
        }

        // Only ENDS that matter are put into each order: the others change nothing,
        // and where they go so that the lie is the first by numbers is found behind it.
        void findLie(Tree tree, int member) {
            hall.seat(chamber);
            int[] own = chamber.members[member].wishes;
            int[] told = hall.seats[member].wishes;
            Arrays.fill(told, WORST_WISH);
            int size = Orders.spread(mattering(tree), line);
            int hoped = leastWish(own, tree.standing);
            int least = WORST_WISH + 1;
            for (int round = 0; round < MOST_ORDERS; round++) {
                for (int i = 0; i < size; i++) {
                    told[line[i]] = i;
                }
                int end = hall.settle(tree);
                if (own[end] < least) {
                    least = own[end];
                    lieEnd = end;
                    System.arraycopy(line, 0, lie, 0, size);
                }
                if (least == hoped || !Orders.nextRow(line, 0, size)) {
                    return;
                }
            }
        }

        private static int leastWish(int[] wishes, int bits) {
            int least = WORST_WISH;
            for (int x = 0; x < ENDS; x++) {
                if ((bits >> x & 1) == 1) {
                    least = Math.min(least, wishes[x]);
                }
            }
            return least;
        }

        /** The lie that was found, with all other ENDS that are there as far ahead as lets the least END go first. */
        int lieDigits(Tree tree) {
            int lieSize = Integer.bitCount(mattering(tree));
            int otherSize = Orders.spread(there() & ~mattering(tree), others);
            int fromLie = 0;
            int fromOthers = 0;
            for (int i = 0; i < chamber.ends; i++) {
                boolean lieNext = fromOthers >= otherSize || fromLie < lieSize && lie[fromLie] < others[fromOthers];
                if (lieNext) {
                    merged[i] = lie[fromLie];
                    fromLie++;
                } else {
                    merged[i] = others[fromOthers];
                    fromOthers++;
                }
            }
            return Orders.digits(merged, chamber.ends);
        }
    }

    /** LAWS, over all small chambers. */
    private static final class Laws {
        private final Hall hall;
        private int size;
        private int chambers;
        private final int[] ends = new int[MOST_CHAMBERS];

        Laws(Hall hall) {
            this.hall = hall;
        }

        void assemble(int members, int kind, int chair) {
            size = members;
            hall.seatOthers(members, kind, chair);
            chambers = 1;
            for (int m = 0; m < size; m++) {
                chambers *= LIKINGS;
            }
        }

        // Of all chambers ahead of the LAWS, as these look at the same ones again and again.
        void reckonEnds(Tree tree) {
            for (int chamber = 0; chamber < chambers; chamber++) {
                like(chamber);
                ends[chamber] = hall.settle(tree);
            }
        }

        int firstBreach(int law) {
            for (int chamber = 0; chamber < chambers; chamber++) {
                boolean broken = law == 0 ? missesBest(chamber) : isBrokenByOne(law, chamber);
                if (broken) {
                    return chamber;
                }
            }
            return NONE;
        }

        private boolean missesBest(int chamber) {
            like(chamber);
            for (int x = 0; x < LIKED_ENDS; x++) {
                if (hall.beats(x, (x + 1) % LIKED_ENDS) && hall.beats(x, (x + 2) % LIKED_ENDS)) {
                    return ends[chamber] != x;
                }
            }
            return false;
        }

        private boolean isBrokenByOne(int law, int chamber) {
            int unit = 1;
            int left = chamber;
            for (int m = size - 1; m >= 0; m--) {
                int liking = left % LIKINGS;
                int others = chamber - liking * unit;
                if (law == 1 ? fallsWhenLifted(others, unit, liking) : gainsByLying(others, unit, liking)) {
                    return true;
                }
                unit *= LIKINGS;
                left /= LIKINGS;
            }
            return false;
        }

        private boolean fallsWhenLifted(int others, int unit, int liking) {
            int end = ends[others + liking * unit];
            int place = LIKING_PLACES[liking * LIKED_ENDS + end];
            if (place == 0) {
                return false;
            }
            int lifted = place == 1 ? FIRST_TWO_CHANGED[liking] : LAST_TWO_CHANGED[liking];
            return ends[others + lifted * unit] != end;
        }

        private boolean gainsByLying(int others, int unit, int liking) {
            int own = liking * LIKED_ENDS;
            int honest = LIKING_PLACES[own + ends[others + liking * unit]];
            for (int told = 0; told < LIKINGS; told++) {
                if (LIKING_PLACES[own + ends[others + told * unit]] < honest) {
                    return true;
                }
            }
            return false;
        }

        private void like(int chamber) {
            int left = chamber;
            for (int m = size - 1; m >= 0; m--) {
                System.arraycopy(LIKING_PLACES, left % LIKINGS * LIKED_ENDS, hall.seats[m].wishes, 0, LIKED_ENDS);
                left /= LIKINGS;
            }
        }
    }
}
