import java.util.Random;

/** Long runs of calls by numbers, each answer held against the model's; the same runs each time. */
public final class ModelTest {
    private static final int CALLS = 512;
    private final Random dice;
    private final QuestionDesk desk = new QuestionDesk();
    private final Model model = new Model();
    private final StringBuilder log = new StringBuilder();
    /** How much one of the runs is about big trees and many ends, as these are slow for the model. */
    private final boolean big;
    private final int wild;
    private int calls = 0;

    private ModelTest(int seed, boolean big, int wild) {
        dice = new Random(seed);
        this.big = big;
        this.wild = wild;
    }

    public static void main(String[] args) {
        int runs = args.length > 0 ? Integer.parseInt(args[0]) : 600;
        int from = args.length > 1 ? Integer.parseInt(args[1]) : 0;
        for (int part = 0; part < 10; part++) {
            final int first = from + part * runs / 10;
            final int last = from + (part + 1) * runs / 10;
            Checks.test("runs " + first + " .. " + (last - 1) + " against the model", () -> {
                for (int seed = first; seed < last; seed++) {
                    new ModelTest(seed, seed % 20 == 7, seed % 5 == 0 ? 12 : 60).go(seed);
                }
            });
        }
        Checks.end();
    }

    private void go(int seed) {
        if (big) {
            same("set", desk.set(0, 7), model.set(0, 7));
        }
        int people = dice.nextInt(big ? 6 : 10);
        for (int i = 0; i < people; i++) {
            newMember();
        }
        for (int i = 0; i < 3; i++) {
            newTree();
        }
        while (calls < CALLS - 130) {
            if (!step()) {
                System.out.println("seed " + seed + ":" + log);
                return;
            }
        }
    }

    private boolean same(String call, long got, long want) {
        calls++;
        log.append(' ').append(call).append("=").append(got);
        if (got != want) {
            Checks.due(call, got, want);
            return false;
        }
        return true;
    }

    private int pick(int least, int most) {
        int roll = dice.nextInt(wild);
        if (roll == 0) {
            int[] odd = {least - 1, most + 1, -1, Integer.MIN_VALUE, Integer.MAX_VALUE, most + 2, -100};
            return odd[dice.nextInt(odd.length)];
        }
        return least + dice.nextInt(most - least + 1);
    }

    private int who() {
        return pick(0, Math.max(0, model.people.size() - 1));
    }

    private int which() {
        return pick(0, Math.max(0, model.trees.size() - 1));
    }

    private int shelf() {
        return dice.nextInt(3) == 0 ? pick(0, 7) : pick(0, 2);
    }

    private int told(int kind, boolean voices) {
        int most = kind == 2 ? 5 : kind == 3 || kind == 4 ? 2 : 0;
        return 10 * (voices ? pick(1, dice.nextInt(3) == 0 ? 9 : 3) : kind) + pick(0, most);
    }

    private boolean newMember() {
        int kind = dice.nextInt(3) == 0 ? 0 : pick(0, 5);
        int told = told(kind, true);
        boolean fine = same("member(" + kind + ", " + told + ")", desk.member(kind, told), model.member(kind, told));
        int m = model.people.size() - 1;
        for (int e = 0; e < (big ? 7 : Math.max(3, model.ends)); e++) {
            int n = dice.nextInt(10);
            fine &= same("wish(" + m + ", " + e + ", " + n + ")", desk.wish(m, e, n), model.wish(m, e, n));
        }
        return fine;
    }

    private String randomTree(int depth, int budget) {
        int end = dice.nextInt(model.ends);
        int roll = dice.nextInt(10);
        if (depth == 6 || budget < 5 || roll == 0 || roll < 4 && depth > 1) {
            return String.valueOf(end);
        }
        if (roll < 8 || budget < 12) {
            String a = randomTree(depth + 1, (budget - 3) / 2);
            return "(" + a + "v" + randomTree(depth + 1, budget - 3 - a.length()) + ")";
        }
        String a = randomTree(depth + 1, (budget - 7) / 2);
        return "{" + end + ">" + dice.nextInt(model.ends) + ":" + a + "/" + randomTree(depth + 1, budget - 7 - a.length()) + "}";
    }

    private String randomText() {
        StringBuilder s = new StringBuilder(randomTree(0, big ? 50 : 10 + dice.nextInt(30)));
        int roll = dice.nextInt(8);
        String signs = "(){}v>:/0123456789 ";
        if (roll == 0) {
            s.setLength(dice.nextInt(s.length() + 1));
        } else if (roll == 1) {
            s.setCharAt(dice.nextInt(s.length()), signs.charAt(dice.nextInt(signs.length())));
        } else if (roll == 2) {
            s.insert(dice.nextInt(s.length() + 1), signs.charAt(dice.nextInt(signs.length())));
        }
        return s.toString();
    }

    private boolean newTree() {
        String text = randomText();
        int d = dice.nextInt(2);
        boolean fine = same("row(" + d + ", 0, " + text.length() + ")", desk.row(d, 0, text.length()), model.row(d, 0, text.length()));
        for (int i = 0; i < text.length(); i++) {
            desk.put(d, i, text.charAt(i));
            model.put(d, i, text.charAt(i));
        }
        log.append(" [").append(text).append("]");
        fine &= same("fault(" + d + ")", desk.fault(d), model.fault(d));
        return fine && same("tree(" + d + ")", desk.tree(d), model.tree(d));
    }

    private boolean newRow() {
        int d = shelf();
        int sort = dice.nextInt(4) == 0 ? pick(0, 2) : 0;
        int n = dice.nextInt(3) == 0 ? 7 : dice.nextInt(4) == 0 ? pick(0, 120) : model.ends;
        boolean fine = same("row(" + d + ", " + sort + ", " + n + ")", desk.row(d, sort, n), model.row(d, sort, n));
        java.util.List<Integer> order = new java.util.ArrayList<>(java.util.List.of(0, 1, 2, 3, 4, 5, 6).subList(0, model.ends));
        java.util.Collections.shuffle(order, dice);
        for (int i = 0; i < n && i < 7 && fine; i++) {
            int v = dice.nextInt(40) == 0 ? dice.nextInt() : i < order.size() && dice.nextInt(20) > 0 ? order.get(i) : dice.nextInt(10);
            fine = same("put(" + d + ", " + i + ", " + v + ")", desk.put(d, i, v), model.put(d, i, v));
        }
        return fine;
    }

    private long element(int d, int i) {
        try {
            return desk.element(d, i);
        } catch (IllegalArgumentException e) {
            return Model.ARGUMENT;
        } catch (IllegalStateException e) {
            return Model.STATE;
        }
    }

    private boolean step() {
        int roll = dice.nextInt(52);
        if (roll < 9) {
            return stateStep(roll);
        }
        if (roll < 22) {
            return runStep(roll);
        }
        if (roll < 38) {
            return orderStep(roll);
        }
        return shelfStep(roll);
    }

    private boolean stateStep(int roll) {
        int m = who();
        int e = pick(0, 6);
        int n = pick(0, 9);
        switch (roll) {
            case 0: {
                int what = pick(0, 1);
                int v = what == 0 ? pick(1, 7) : pick(0, 1);
                if (!big && v == 7) {
                    v = 5;
                }
                return same("set(" + what + ", " + v + ")", desk.set(what, v), model.set(what, v));
            }
            case 1: return dice.nextInt(4) > 0 || newMember();
            case 2: return same("bought(" + m + ", " + e + ")", desk.bought(m, e), model.bought(m, e));
            case 3: {
                int kind = pick(0, 5);
                int told = told(kind, false);
                return same("becomes(" + m + ", " + told + ")", desk.becomes(m, told), model.becomes(m, told));
            }
            case 4: return same("wish(" + m + ", " + e + ", " + n + ")", desk.wish(m, e, n), model.wish(m, e, n));
            case 5:
            case 6: return same("doubted(" + m + ", " + e + ", " + n + ")", desk.doubted(m, e, n), model.doubted(m, e, n));
            case 7: {
                int c = pick(0, 100);
                return same("sure(" + m + ", " + c + ")", desk.sure(m, c), model.sure(m, c));
            }
            default: {
                int what = pick(0, 4);
                return same("about(" + m + ", " + what + ")", desk.about(m, what), model.about(m, what));
            }
        }
    }

    private boolean runStep(int roll) {
        int t = which();
        int q = pick(0, 4);
        int m = who();
        int x = pick(0, 6);
        int y = pick(0, 6);
        int what = pick(0, 2);
        switch (roll) {
            case 9: return dice.nextInt(3) > 0 || newTree();
            case 10: return same("of(" + t + ", " + what + ")", desk.of(t, what), model.of(t, what));
            case 11: return same("beat(" + x + ", " + y + ")", desk.beat(x, y), model.beat(x, y));
            case 12: return same("stands(" + x + ", " + y + ")", desk.stands(x, y), model.stands(x, y));
            case 13:
            case 14: return same("run(" + t + ")", desk.run(t), model.run(t));
            case 15: return same("ask(" + t + ", " + q + ", " + what + ")", desk.ask(t, q, what), model.ask(t, q, what));
            case 16: return same("wonBy(" + t + ", " + q + ")", desk.wonBy(t, q), model.wonBy(t, q));
            case 17:
            case 18: return same("why(" + t + ", " + q + ", " + m + ")", desk.why(t, q, m), model.why(t, q, m));
            case 19: {
                int kind = pick(0, 1);
                return same("ifAll(" + t + ", " + kind + ")", desk.ifAll(t, kind), model.ifAll(t, kind));
            }
            case 20: return same("parts(" + t + ")", desk.parts(t), model.parts(t));
            default: return same("finds(" + t + ", " + x + ")", desk.finds(t, x), model.finds(t, x));
        }
    }

    private boolean orderStep(int roll) {
        int t = which();
        int d = shelf();
        int m = who();
        int x = pick(0, 6);
        int y = pick(0, 6);
        int what = pick(0, 1);
        boolean deep = dice.nextBoolean();
        boolean rarely = dice.nextInt(big ? 20 : 3) == 0;
        switch (roll) {
            case 22: return same("order(" + d + ", " + deep + ")", desk.order(d, deep), model.order(d, deep));
            case 23: return same("reach(" + deep + ")", desk.reach(deep), model.reach(deep));
            case 24: return same("first(" + x + ", " + deep + ")", desk.first(x, deep), model.first(x, deep));
            case 25: return same("best()", desk.best(), model.best());
            case 26: return same("top(" + what + ")", desk.top(what), model.top(what));
            case 27: return same("killers(" + t + ")", desk.killers(t), model.killers(t));
            case 28: {
                int e = pick(0, model.ends - 1);
                return same("shields(" + t + ", " + e + ")", desk.shields(t, e), model.shields(t, e));
            }
            case 29: return same("tell(" + t + ", " + x + ")", desk.tell(t, x), model.tell(t, x));
            case 30: return same("falseVote(" + t + ", " + d + ")", desk.falseVote(t, d), model.falseVote(t, d));
            case 31: return same("chance(" + t + ", " + x + ")", desk.chance(t, x), model.chance(t, x));
            case 32: return !rarely || same("boughtOff(" + t + ", " + x + ")", desk.boughtOff(t, x), model.boughtOff(t, x));
            case 33: return !rarely || same("bestLie(" + t + ", " + m + ", " + what + ")", desk.bestLie(t, m, what), model.bestLie(t, m, what));
            case 34: return same("surely(" + x + ", " + y + ", " + what + ")", desk.surely(x, y, what), model.surely(x, y, what));
            case 35: return same("ring(" + x + ")", desk.ring(x), model.ring(x));
            case 36: return same("usual(" + d + ")", desk.usual(d), model.usual(d));
            default: {
                int law = pick(0, 2);
                int many = rarely ? pick(1, 3) : pick(1, 2);
                return same("breach(" + t + ", " + law + ", " + many + ", " + deep + ")",
                        desk.breach(t, law, many, deep), model.breach(t, law, many, deep));
            }
        }
    }

    private boolean shelfStep(int roll) {
        int d = shelf();
        int e = shelf();
        int i = pick(0, 7);
        int j = pick(0, 7);
        int n = pick(0, 5);
        int what = pick(0, 6);
        int k = who();
        switch (roll) {
            case 38: return dice.nextInt(4) > 0 || same("image()", desk.image(), model.image());
            case 39: return dice.nextInt(6) > 0 || same("restore()", desk.restore(), model.restore());
            case 40:
            case 41: return same("count(" + what + ")", desk.count(what), model.count(what));
            case 42: {
                int put = pick(0, 1);
                return same("keep(" + d + ", " + put + ", " + k + ")", desk.keep(d, put, k), model.keep(d, put, k));
            }
            case 43:
            case 44: return newRow();
            case 45: return same("put(" + d + ", " + i + ", " + k + ")", desk.put(d, i, k), model.put(d, i, k));
            case 46:
            case 47: return same("element(" + d + ", " + i + ")", element(d, i), model.element(d, i));
            case 48: {
                int f = dice.nextInt(4) == 0 ? d : e;
                return same("copy(" + d + ", " + i + ", " + f + ", " + j + ", " + n + ")", desk.copy(d, i, f, j, n), model.copy(d, i, f, j, n));
            }
            case 49: return same("heft(" + d + ")", desk.heft(d), model.heft(d));
            case 50: return same("toss(" + d + ")", desk.toss(d), model.toss(d));
            default: {
                int v = dice.nextInt();
                return same("put(" + d + ", " + i + ", " + v + ")", desk.put(d, i, v), model.put(d, i, v));
            }
        }
    }
}
