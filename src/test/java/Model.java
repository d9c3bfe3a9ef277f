import java.util.ArrayList;
import java.util.List;

/**
 * The document read as literally as can be, without a thought for speed: what ModelTest holds the desk against.
 * It shares nothing with the class: trees are objects, orders are tried one by one, all sets are tried.
 */
final class Model {
    static final class Person {
        int number, kind, voices, value, end, chance;
        int[] wishes = {5, 5, 5, 5, 5, 5, 5};
        int[] doubts = {5, 5, 5, 5, 5, 5, 5};

        Person twin() {
            Person p = new Person();
            p.number = number;
            p.kind = kind;
            p.voices = voices;
            p.value = value;
            p.end = end;
            p.chance = chance;
            p.wishes = wishes.clone();
            p.doubts = doubts.clone();
            return p;
        }

        int heft() {
            int plain = voices;
            int deep = plain + 1;
            int party = 2 * plain;
            return new int[] {plain, deep, deep + value, party, party - 1, plain / 2}[kind];
        }

        int likes(int x, int y) {
            return Integer.compare(wishes[y], wishes[x]);
        }
    }

    static final class Node {
        char type;
        int end, x, y;
        Node a, b;

        static Node leaf(int end) {
            Node n = new Node();
            n.type = 'e';
            n.end = end;
            return n;
        }

        static Node question(Node a, Node b) {
            Node n = new Node();
            n.type = '(';
            n.a = a;
            n.b = b;
            return n;
        }

        int ends() {
            return type == 'e' ? 1 << end : a.ends() | b.ends();
        }

        int asked() {
            return type == 'e' ? 0 : a.asked() | b.asked() | (type == '{' ? 1 << x | 1 << y : 0);
        }

        void questions(List<Node> into) {
            if (type == 'e') {
                return;
            }
            if (type == '(') {
                into.add(this);
            }
            a.questions(into);
            b.questions(into);
        }

        List<Node> questions() {
            List<Node> all = new ArrayList<>();
            questions(all);
            return all;
        }
    }

    static final class Thing {
        Person person;
        int sort;
        long[] cells;
    }

    int ends = 3, chair = 0;
    List<Person> people = new ArrayList<>();
    List<Node> trees = new ArrayList<>();
    Model taken;
    Thing[] shelves = new Thing[8];

    // ---- the state

    private void stateFrom(Model m) {
        ends = m.ends;
        chair = m.chair;
        people = new ArrayList<>();
        for (Person p : m.people) {
            people.add(p.twin());
        }
        trees = new ArrayList<>(m.trees);
    }

    private Model twin() {
        Model m = new Model();
        m.stateFrom(this);
        return m;
    }

    private boolean person(int m) {
        return m >= 0 && m < people.size();
    }

    private boolean hasTree(int t) {
        return t >= 0 && t < trees.size();
    }

    private static boolean end(int e) {
        return e >= 0 && e <= 6;
    }

    private boolean there(int e) {
        return e >= 0 && e < ends;
    }

    private static boolean valueFits(int kind, int value) {
        switch (kind) {
            case 2: return value >= 0 && value <= 5;
            case 3: case 4: return value >= 0 && value <= 2;
            case 0: case 1: case 5: return value == 0;
            default: return false;
        }
    }

    int set(int what, int n) {
        int was;
        if (what == 0 && n >= 1 && n <= 7) {
            was = ends;
            ends = n;
            return was;
        }
        if (what == 1 && (n == 0 || n == 1)) {
            was = chair;
            chair = n;
            return was;
        }
        return -1;
    }

    int member(int kind, int told) {
        if (told < 10 || told > 99 || !valueFits(kind, told % 10)) {
            return -1;
        }
        if (people.size() == 9) {
            return -2;
        }
        Person p = new Person();
        p.number = people.size();
        p.kind = kind;
        p.voices = told / 10;
        p.value = told % 10;
        people.add(p);
        return p.number;
    }

    int bought(int m, int e) {
        if (!person(m) || !end(e)) {
            return -1;
        }
        Person p = people.get(m);
        if (p.kind != 4) {
            return -3;
        }
        int was = p.end;
        p.end = e;
        return was;
    }

    int becomes(int m, int told) {
        if (!person(m) || told < 0 || told > 59 || !valueFits(told / 10, told % 10)) {
            return -1;
        }
        Person p = people.get(m);
        int was = p.kind;
        p.kind = told / 10;
        p.value = told % 10;
        return was;
    }

    int wish(int m, int e, int n) {
        if (!person(m) || !end(e) || n < 0 || n > 9) {
            return -1;
        }
        int was = people.get(m).wishes[e];
        people.get(m).wishes[e] = n;
        return was;
    }

    int doubted(int m, int e, int n) {
        if (!person(m) || !end(e) || n < 0 || n > 9) {
            return -1;
        }
        int was = people.get(m).doubts[e];
        people.get(m).doubts[e] = n;
        return was;
    }

    int sure(int m, int n) {
        if (!person(m) || n < 0 || n > 100) {
            return -1;
        }
        int was = people.get(m).chance;
        people.get(m).chance = n;
        return was;
    }

    int about(int m, int what) {
        if (!person(m) || what < 0 || what > 4) {
            return -1;
        }
        Person p = people.get(m);
        return new int[] {p.kind, p.voices, p.value, p.heft(), p.chance}[what];
    }

    // ---- texts: what may come next stands on a stack

    private static String bytes(Thing t) {
        StringBuilder s = new StringBuilder();
        for (long c : t.cells) {
            s.append((char) (c & 255));
        }
        return s.toString();
    }

    private int faultIn(String s) {
        List<String> due = new ArrayList<>();
        due.add("T0");
        for (int i = 0; i < s.length(); i++) {
            if (due.isEmpty()) {
                return i;
            }
            char c = s.charAt(i);
            String next = due.remove(due.size() - 1);
            boolean digit = c >= '0' && c < '0' + ends;
            if (next.equals("E")) {
                if (!digit) {
                    return i;
                }
            } else if (next.startsWith("T")) {
                int depth = Integer.parseInt(next.substring(1));
                String inner = "T" + (depth + 1);
                if (c == '(' && depth < 6) {
                    due.addAll(List.of(")", inner, "v", inner));
                } else if (c == '{' && depth < 6) {
                    due.addAll(List.of("}", inner, "/", inner, ":", "E", ">", "E"));
                } else if (!digit) {
                    return i;
                }
            } else if (c != next.charAt(0)) {
                return i;
            }
        }
        return due.isEmpty() ? -4 : s.length();
    }

    /** Of a text without a fault. */
    private static Node parse(String s) {
        if (s.length() == 1) {
            return Node.leaf(s.charAt(0) - '0');
        }
        Node n = new Node();
        n.type = s.charAt(0);
        int from = 1;
        if (n.type == '{') {
            n.x = s.charAt(1) - '0';
            n.y = s.charAt(3) - '0';
            from = 5;
        }
        int depth = 0;
        int i = from;
        // The sign between the parts is the first one outside of any bracket.
        for (; depth != 0 || s.charAt(i) != (n.type == '(' ? 'v' : '/'); i++) {
            char c = s.charAt(i);
            depth += c == '(' || c == '{' ? 1 : c == ')' || c == '}' ? -1 : 0;
        }
        n.a = parse(s.substring(from, i));
        n.b = parse(s.substring(i + 1, s.length() - 1));
        return n;
    }

    private int byteRow(int d) {
        if (shelves[d] == null) {
            return -11;
        }
        return shelves[d].person != null || shelves[d].sort != 0 ? -12 : 0;
    }

    private static boolean shelf(int d) {
        return d >= 0 && d <= 7;
    }

    int fault(int d) {
        if (!shelf(d)) {
            return -1;
        }
        return byteRow(d) != 0 ? byteRow(d) : faultIn(bytes(shelves[d]));
    }

    int tree(int d) {
        if (!shelf(d)) {
            return -1;
        }
        if (trees.size() == 12) {
            return -2;
        }
        if (byteRow(d) != 0) {
            return byteRow(d);
        }
        int fault = faultIn(bytes(shelves[d]));
        if (fault != -4) {
            return -100 - fault;
        }
        trees.add(parse(bytes(shelves[d])));
        return trees.size() - 1;
    }

    int of(int t, int what) {
        if (!hasTree(t) || what < 0 || what > 2) {
            return -1;
        }
        Node n = trees.get(t);
        return what == 0 ? n.questions().size() : what == 1 ? n.ends() : name(n);
    }

    // ---- beating, running

    private int by(int x, int y) {
        int sum = 0;
        for (Person p : people) {
            if (p.wishes[x] < p.wishes[y]) {
                sum += p.voices;
            }
            if (p.wishes[x] > p.wishes[y]) {
                sum -= p.voices;
            }
        }
        return sum;
    }

    private boolean beats(int x, int y) {
        if (x == y) {
            return false;
        }
        int by = by(x, y);
        return by > 0 || by == 0 && (chair == 0 && x < y || chair == 1 && x > y);
    }

    private Node taken(Node n) {
        return beats(n.x, n.y) ? n.a : n.b;
    }

    private int name(Node n) {
        return n.type == 'e' ? n.end : n.type == '(' ? name(n.a) : name(taken(n));
    }

    private int comes(Node n) {
        if (n.type == 'e') {
            return n.end;
        }
        if (n.type == '{') {
            return comes(taken(n));
        }
        return wins(n) == 0 ? comes(n.a) : comes(n.b);
    }

    private int sees(Node n, int d) {
        if (n.type == 'e') {
            return n.end;
        }
        if (d == 0) {
            return name(n);
        }
        if (n.type == '{') {
            return sees(taken(n), d);
        }
        int x = sees(n.a, d - 1);
        int y = sees(n.b, d - 1);
        return x == y || beats(x, y) ? x : y;
    }

    private int wins(Node n) {
        int lead = lead(n);
        if (lead != 0) {
            return lead > 0 ? 0 : 1;
        }
        int x = name(n.a);
        int y = name(n.b);
        return x == y || (chair == 0 ? x < y : x > y) ? 0 : 1;
    }

    private int lead(Node n) {
        int x = comes(n.a);
        int y = comes(n.b);
        int sum = 0;
        for (Person p : people) {
            sum += vote(p, n, x, y);
        }
        return sum;
    }

    private int partyVote(Person p, Node n) {
        int sum = 0;
        for (Person o : people) {
            if ((o.kind == 3 || o.kind == 4) && o.value == p.value) {
                sum += o.voices * o.likes(name(n.a), name(n.b));
            }
        }
        return sum > 0 ? p.voices : sum < 0 ? -p.voices : 0;
    }

    private int vote(Person p, Node n, int x, int y) {
        int plain = p.likes(name(n.a), name(n.b));
        int deep = p.likes(x, y);
        switch (p.kind) {
            case 0: return p.voices * plain;
            case 1: return p.voices * deep;
            case 2: return p.voices * p.likes(sees(n.a, p.value), sees(n.b, p.value));
            case 3: return partyVote(p, n);
            case 4:
                boolean inA = (n.a.ends() & 1 << p.end) != 0;
                boolean inB = (n.b.ends() & 1 << p.end) != 0;
                return inA && !inB ? p.voices : inB && !inA ? -p.voices : partyVote(p, n);
            default: return p.voices / 2 * plain + (p.voices - p.voices / 2) * deep;
        }
    }

    int beat(int x, int y) {
        return end(x) && end(y) ? by(x, y) : -1000000001;
    }

    int stands(int x, int y) {
        return !end(x) || !end(y) ? -1 : x == y || beats(x, y) ? x : y;
    }

    int run(int t) {
        return hasTree(t) ? comes(trees.get(t)) : -1;
    }

    private Node question(int t, int q) {
        if (!hasTree(t)) {
            return null;
        }
        List<Node> all = trees.get(t).questions();
        return q >= 0 && q < all.size() ? all.get(q) : null;
    }

    int ask(int t, int q, int what) {
        Node n = question(t, q);
        if (n == null || what < 0 || what > 2) {
            return -1;
        }
        return what == 0 ? wins(n) : comes(what == 1 ? n.a : n.b);
    }

    int wonBy(int t, int q) {
        Node n = question(t, q);
        return n == null ? -1000000001 : lead(n);
    }

    int why(int t, int q, int m) {
        Node n = question(t, q);
        return n == null || !person(m) ? -1000000001 : vote(people.get(m), n, comes(n.a), comes(n.b));
    }

    private Model all(int kind) {
        Model m = twin();
        for (Person p : m.people) {
            p.kind = kind;
            p.value = 0;
        }
        return m;
    }

    int ifAll(int t, int kind) {
        return !hasTree(t) || kind < 0 || kind > 1 ? -1 : all(kind).comes(trees.get(t));
    }

    int parts(int t) {
        if (!hasTree(t)) {
            return -1;
        }
        List<Node> asked = trees.get(t).questions();
        for (int q = 0; q < asked.size(); q++) {
            if (all(0).wins(asked.get(q)) != all(1).wins(asked.get(q))) {
                return q;
            }
        }
        return -4;
    }

    // ---- orders

    private int comesOf(int[] order, boolean deep) {
        if (deep) {
            return d(order, order[0], 1);
        }
        int x = order[0];
        for (int i = 1; i < order.length; i++) {
            x = stands(x, order[i]);
        }
        return x;
    }

    private int d(int[] order, int x, int i) {
        if (i >= order.length) {
            return x;
        }
        return stands(d(order, x, i + 1), d(order, order[i], i + 1));
    }

    int order(int d, boolean deep) {
        if (!shelf(d)) {
            return -1;
        }
        if (byteRow(d) != 0) {
            return byteRow(d);
        }
        long[] cells = shelves[d].cells;
        int[] order = new int[cells.length];
        for (int i = 0; i < cells.length; i++) {
            order[i] = (int) cells[i];
            if (!there(order[i])) {
                return -13;
            }
            for (int j = 0; j < i; j++) {
                if (order[i] == order[j]) {
                    return -13;
                }
            }
        }
        return order.length < 2 ? -13 : comesOf(order, deep);
    }

    /** All orders of some ends by numbers, the first ahead. */
    static List<int[]> orders(List<Integer> of) {
        List<int[]> all = new ArrayList<>();
        if (of.isEmpty()) {
            all.add(new int[0]);
        }
        for (Integer head : of) {
            List<Integer> rest = new ArrayList<>(of);
            rest.remove(head);
            for (int[] tail : orders(rest)) {
                int[] one = new int[of.size()];
                one[0] = head;
                System.arraycopy(tail, 0, one, 1, tail.length);
                all.add(one);
            }
        }
        return all;
    }

    private List<Integer> some(int bits) {
        List<Integer> list = new ArrayList<>();
        for (int x = 0; x < 7; x++) {
            if ((bits & 1 << x) != 0) {
                list.add(x);
            }
        }
        return list;
    }

    private List<int[]> ordersThere() {
        return orders(some((1 << ends) - 1));
    }

    private static int code(int[] order) {
        int sum = 0;
        int unit = 1;
        for (int x : order) {
            sum += x * unit;
            unit *= 8;
        }
        return sum;
    }

    int reach(boolean deep) {
        int bits = 0;
        for (int[] o : ordersThere()) {
            bits |= 1 << comesOf(o, deep);
        }
        return bits;
    }

    int first(int e, boolean deep) {
        if (!there(e)) {
            return -1;
        }
        for (int[] o : ordersThere()) {
            if (comesOf(o, deep) == e) {
                return code(o);
            }
        }
        return -4;
    }

    int best() {
        for (int x = 0; x < ends; x++) {
            int beaten = 0;
            for (int y = 0; y < ends; y++) {
                beaten += beats(x, y) ? 1 : 0;
            }
            if (beaten == ends - 1) {
                return x;
            }
        }
        return -4;
    }

    private boolean reaches(int x, int y, int steps) {
        if (x == y) {
            return true;
        }
        for (int z = 0; z < ends && steps > 0; z++) {
            if (beats(x, z) && reaches(z, y, steps - 1)) {
                return true;
            }
        }
        return false;
    }

    int top(int what) {
        if (what != 0 && what != 1) {
            return -1;
        }
        int bits = 0;
        for (int x = 0; x < ends; x++) {
            boolean in = true;
            for (int y = 0; y < ends; y++) {
                in &= what == 0 ? reaches(x, y, ends) : !covers(y, x);
            }
            bits |= in ? 1 << x : 0;
        }
        return bits;
    }

    private boolean covers(int y, int x) {
        boolean covers = beats(y, x);
        for (int z = 0; z < ends; z++) {
            covers &= !beats(x, z) || beats(y, z);
        }
        return covers;
    }

    // ---- killers, telling, chances

    private boolean kills(Node n, int x) {
        return comes(Node.question(n, Node.leaf(x))) != comes(n);
    }

    int killers(int t) {
        if (!hasTree(t)) {
            return -1;
        }
        int bits = 0;
        for (int x = 0; x < ends; x++) {
            bits |= kills(trees.get(t), x) ? 1 << x : 0;
        }
        return bits;
    }

    int shields(int t, int x) {
        if (!hasTree(t) || !there(x)) {
            return -1;
        }
        Node n = trees.get(t);
        if (!kills(n, x)) {
            return -3;
        }
        int bits = 0;
        for (int z = 0; z < ends; z++) {
            Node whole = Node.question(Node.question(n, Node.leaf(x)), Node.leaf(z));
            bits |= comes(whole) == comes(n) ? 1 << z : 0;
        }
        return bits;
    }

    private int fewest(int t, int e, boolean buy) {
        if (!hasTree(t) || !end(e)) {
            return -1;
        }
        int found = -4;
        for (int set = 0; set < 1 << people.size(); set++) {
            Model m = twin();
            boolean may = true;
            for (Person p : m.people) {
                if ((set & 1 << p.number) != 0) {
                    may &= buy || p.kind == 0;
                    p.kind = buy ? 4 : 1;
                    p.value = 0;
                    p.end = e;
                }
            }
            if (may && (found < 0 || Integer.bitCount(set) < Integer.bitCount(found)) && m.comes(trees.get(t)) == e) {
                found = set;
            }
        }
        return found;
    }

    int tell(int t, int e) {
        return fewest(t, e, false);
    }

    int boughtOff(int t, int e) {
        return fewest(t, e, true);
    }

    int falseVote(int t, int d) {
        if (!hasTree(t) || !shelf(d)) {
            return -1;
        }
        if (byteRow(d) != 0) {
            return byteRow(d);
        }
        long[] cells = shelves[d].cells;
        if (cells.length != 7) {
            return -13;
        }
        int[] told = new int[7];
        for (int i = 0; i < 7; i++) {
            told[i] = (int) cells[i];
            if (told[i] < 0 || told[i] > 9) {
                return -13;
            }
        }
        for (Person p : people) {
            Model m = twin();
            m.people.get(p.number).wishes = told.clone();
            if (p.wishes[m.comes(trees.get(t))] < p.wishes[comes(trees.get(t))]) {
                return p.number;
            }
        }
        return -4;
    }

    private static final class Case {
        Model model;
        long weight;
    }

    private List<Case> cases() {
        List<Case> all = new ArrayList<>();
        Case one = new Case();
        one.model = twin();
        one.weight = 1;
        all.add(one);
        int met = 0;
        for (Person p : people) {
            if (p.chance == 0 || met == 6) {
                continue;
            }
            met++;
            List<Case> next = new ArrayList<>();
            for (Case c : all) {
                Case so = new Case();
                so.model = c.model.twin();
                so.weight = c.weight * (100 - p.chance);
                next.add(so);
                Case other = new Case();
                other.model = c.model.twin();
                other.model.people.get(p.number).wishes = p.doubts.clone();
                other.weight = c.weight * p.chance;
                next.add(other);
            }
            all = next;
        }
        return all;
    }

    long chance(int t, int e) {
        if (!hasTree(t) || !end(e)) {
            return -1;
        }
        long sum = 0;
        for (Case c : cases()) {
            sum += c.model.comes(trees.get(t)) == e ? c.weight : 0;
        }
        return sum;
    }

    int bestLie(int t, int m, int what) {
        if (!hasTree(t) || !person(m) || what < 0 || what > 1) {
            return -1;
        }
        int[] found = null;
        int foundEnd = -1;
        int[] own = people.get(m).wishes;
        for (int[] o : ordersThere()) {
            Model lied = twin();
            int[] told = {9, 9, 9, 9, 9, 9, 9};
            for (int i = 0; i < o.length; i++) {
                told[o[i]] = i;
            }
            lied.people.get(m).wishes = told;
            int e = lied.comes(trees.get(t));
            if (found == null || own[e] < own[foundEnd]) {
                found = o;
                foundEnd = e;
            }
        }
        return what == 0 ? code(found) : foundEnd;
    }

    int surely(int x, int y, int what) {
        if (!end(x) || !end(y) || what < 0 || what > 1) {
            return -1;
        }
        boolean all = true;
        boolean any = false;
        for (Case c : cases()) {
            boolean is = c.model.beats(x, y);
            all &= is;
            any |= is;
        }
        return (what == 0 ? all : any) ? 1 : 0;
    }

    int ring(int i) {
        if (i < 0 || i > 6) {
            return -1;
        }
        List<Integer> top = some(top(0));
        if (top.size() < 3 || i >= top.size()) {
            return -4;
        }
        for (int[] o : orders(top)) {
            boolean is = o[0] == top.get(0);
            for (int k = 0; k < o.length; k++) {
                is &= beats(o[k], o[(k + 1) % o.length]);
            }
            if (is) {
                return o[i];
            }
        }
        throw new IllegalStateException("a ring there is always");
    }

    int usual(int d) {
        if (!shelf(d)) {
            return -1;
        }
        if (byteRow(d) != 0) {
            return byteRow(d);
        }
        long[] ranks = shelves[d].cells;
        if (ranks.length < ends) {
            return -13;
        }
        List<Integer> line = some((1 << ends) - 1);
        line.sort((x, y) -> ranks[x] != ranks[y] ? Long.compare(ranks[y], ranks[x]) : x - y);
        int[] order = new int[ends];
        for (int i = 0; i < ends; i++) {
            order[i] = line.get(i);
        }
        return code(order);
    }

    private static final String[] LIKINGS = {"012", "021", "102", "120", "201", "210"};

    private Model chamber(String[] likings, boolean deep) {
        Model m = new Model();
        m.chair = chair;
        for (String liking : likings) {
            m.member(deep ? 1 : 0, 10);
            for (int e = 0; e < 3; e++) {
                m.wish(m.people.size() - 1, e, liking.indexOf('0' + e));
            }
        }
        return m;
    }

    private boolean breaks(Node n, int law, String[] likings, boolean deep) {
        Model m = chamber(likings, deep);
        int e = m.comes(n);
        if (law == 0) {
            m.ends = 3;
            return m.best() >= 0 && m.best() != e;
        }
        for (int k = 0; k < likings.length; k++) {
            String own = likings[k];
            int at = own.indexOf('0' + e);
            for (String told : LIKINGS) {
                String[] changed = likings.clone();
                changed[k] = told;
                int got = chamber(changed, deep).comes(n);
                if (law == 2 && own.indexOf('0' + got) < at) {
                    return true;
                }
                if (law == 1 && at > 0) {
                    char[] lifted = own.toCharArray();
                    lifted[at] = lifted[at - 1];
                    lifted[at - 1] = (char) ('0' + e);
                    if (told.equals(new String(lifted)) && got != e) {
                        return true;
                    }
                }
            }
        }
        return false;
    }

    int breach(int t, int law, int m, boolean deep) {
        if (!hasTree(t) || law < 0 || law > 2 || m < 1 || m > 3) {
            return -1;
        }
        Node n = trees.get(t);
        if (((n.ends() | n.asked()) & ~7) != 0) {
            return -3;
        }
        int many = m == 1 ? 6 : m == 2 ? 36 : 216;
        for (int c = 0; c < many; c++) {
            String[] likings = new String[m];
            int rest = c;
            for (int k = m - 1; k >= 0; k--) {
                likings[k] = LIKINGS[rest % 6];
                rest /= 6;
            }
            if (breaks(n, law, likings, deep)) {
                return c;
            }
        }
        return -4;
    }

    int finds(int t, int e) {
        if (!hasTree(t) || !end(e)) {
            return -1;
        }
        return (ifAll(t, 0) == e ? 1 : 0) + (ifAll(t, 1) == e ? 2 : 0);
    }

    // ---- the image, what is told

    int image() {
        taken = twin();
        return people.size();
    }

    int restore() {
        if (taken == null) {
            return -3;
        }
        stateFrom(taken);
        return people.size();
    }

    int count(int what) {
        int voices = 0;
        int heft = 0;
        int questions = 0;
        for (Person p : people) {
            voices += p.voices;
            heft += p.heft();
        }
        for (Node n : trees) {
            questions += n.questions().size();
        }
        int[] all = {ends, chair, people.size(), voices, trees.size(), questions, heft};
        return what < 0 || what > 6 ? -1 : all[what];
    }

    // ---- shelves

    int keep(int d, int what, int k) {
        if (!shelf(d) || what != 0 && (what != 1 || !person(k))) {
            return -1;
        }
        shelves[d] = null;
        if (what == 1) {
            shelves[d] = new Thing();
            shelves[d].person = people.get(k).twin();
        }
        return 0;
    }

    int row(int d, int sort, int n) {
        if (!shelf(d) || sort < 0 || sort > 2 || n > 120) {
            return -1;
        }
        if (n < 0) {
            return -14;
        }
        shelves[d] = new Thing();
        shelves[d].sort = sort;
        shelves[d].cells = new long[n];
        return 0;
    }

    int put(int d, int i, int v) {
        if (!shelf(d)) {
            return -1;
        }
        Thing t = shelves[d];
        if (t == null) {
            return -11;
        }
        if (t.person != null) {
            return -12;
        }
        if (i < 0 || i >= t.cells.length) {
            return -13;
        }
        t.cells[i] = t.sort == 0 ? (byte) v : t.sort == 1 ? (short) v : v;
        return 0;
    }

    /** The element, or in place of an exception a number that no element is. */
    static final long ARGUMENT = Long.MIN_VALUE;
    static final long STATE = Long.MIN_VALUE + 1;

    long element(int d, int i) {
        if (!shelf(d)) {
            return ARGUMENT;
        }
        Thing t = shelves[d];
        return t == null || t.person != null || i < 0 || i >= t.cells.length ? STATE : t.cells[i];
    }

    int copy(int d, int i, int e, int j, int n) {
        if (!shelf(d) || !shelf(e)) {
            return -1;
        }
        Thing a = shelves[d];
        Thing b = shelves[e];
        if (a == null || b == null) {
            return -11;
        }
        if (a.person != null || b.person != null || a.sort != b.sort) {
            return -12;
        }
        if (n < 0 || i < 0 || j < 0 || (long) i + n > a.cells.length || (long) j + n > b.cells.length) {
            return -13;
        }
        long[] were = a.cells.clone();
        for (int k = 0; k < n; k++) {
            b.cells[j + k] = were[i + k];
        }
        return n;
    }

    int heft(int d) {
        if (!shelf(d)) {
            return -1;
        }
        Thing t = shelves[d];
        return t == null ? -11 : t.person == null ? -12 : t.person.heft();
    }

    int toss(int d) {
        if (!shelf(d)) {
            return -1;
        }
        Thing t = shelves[d];
        if (t == null || t.person == null) {
            return t == null ? -11 : -12;
        }
        Person p = t.person;
        if (p.kind == 3 || p.kind == 5 && p.voices == 1) {
            return -15;
        }
        return p.kind == 4 ? p.number + 100 + p.end : p.number;
    }
}
