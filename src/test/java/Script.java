import java.lang.reflect.InvocationTargetException;
import java.lang.reflect.Method;
import java.util.HashMap;
import java.util.Map;
import java.util.Set;

/**
 * A run of calls on a new desk, written as a text: calls with the answers that are due, blanks between them.
 * <pre>
 *   set(0,7)=3   element(8,0)=throws.IllegalArgumentException   (min, max: the least and the greatest int)
 *   who:0:10:012          a MEMBER (kind, told) with a WISH for each END from 0 on; its number is the next one
 *   who:0:10:012:50:210   and with a CHANCE and DOUBTED WISHES
 *   round                 three PLAIN ones: 0 beats 1, 1 beats 2, 2 beats 0, each by 1
 *   text:0:(0v1)          a text on a SHELF (_ stands for a blank)
 *   tree:(0v1)            a text on SHELF 7, told as a TREE; its number is the next one
 *   bytes:0:1,-2,3        a ROW of bytes on a SHELF
 * </pre>
 * A twin gets just the calls that are there to change something and are not refused: at the end
 * both must look alike, so no refused call, and no call that only asks, has changed anything.
 */
final class Script {
    private static final int MOST_CALLS = 512;
    private static final Set<String> CHANGING = Set.of("set", "member", "bought", "becomes", "wish", "doubted", "sure",
            "tree", "image", "restore", "keep", "row", "put", "copy");
    private static final Map<String, Method> FACE = new HashMap<>();

    static {
        for (Method m : QuestionDesk.class.getDeclaredMethods()) {
            if (java.lang.reflect.Modifier.isPublic(m.getModifiers()) && !m.isSynthetic()) {
                FACE.put(m.getName(), m);
            }
        }
    }

    private final QuestionDesk desk = new QuestionDesk();
    private final QuestionDesk twin = new QuestionDesk();
    private int calls = 0;
    private int looks = 0;
    private int people = 0;
    private int trees = 0;
    private int peopleThen = 0;
    private int treesThen = 0;

    /** A test of its own: a sentence of the document, and a run that would go otherwise if it didn't hold. */
    static void edge(String sentence, String... run) {
        Checks.test(sentence, () -> run(run));
    }

    static void run(String... parts) {
        Script s = new Script();
        s.go(parts);
        Checks.holds("too few calls are left to look at the desk: " + s.calls, s.calls <= MOST_CALLS / 2);
        String got = s.look(s.desk);
        String want = s.look(s.twin);
        Checks.holds("a call left a trace:\n  " + got + "\n  " + want, got.equals(want));
    }

    /** A test of its own by a run that takes all 512 calls itself, or so many that few are left to look at the desk. */
    static void longEdge(String sentence, int calls, String... run) {
        Checks.test(sentence, () -> {
            Script s = new Script();
            s.go(run);
            Checks.due("calls", s.calls, calls);
            Checks.holds("more than 512 calls", s.calls <= MOST_CALLS);
        });
    }

    /** The call once for each of the values in place of its #. */
    static String each(String call, String... values) {
        StringBuilder s = new StringBuilder();
        for (String value : values) {
            s.append(call.replace("#", value)).append(' ');
        }
        return s.toString();
    }

    /** The call for each number from the least to the most in place of its #. */
    static String upTo(String call, int least, int most) {
        StringBuilder s = new StringBuilder();
        for (int i = least; i <= most; i++) {
            s.append(call.replace("#", String.valueOf(i))).append(' ');
        }
        return s.toString();
    }

    /** ENDS as digits to the base 8, the first one the lowest. */
    static int row8(int... ends) {
        int sum = 0;
        for (int i = ends.length - 1; i >= 0; i--) {
            sum = 8 * sum + ends[i];
        }
        return sum;
    }

    private void go(String... parts) {
        for (String part : parts) {
            for (String step : part.trim().split("\\s+")) {
                if (!step.isEmpty()) {
                    step(step);
                }
            }
        }
    }

    private void step(String step) {
        String[] told = step.split(":", step.startsWith("text:") ? 3 : step.startsWith("tree:") ? 2 : -1);
        switch (told[0]) {
            case "round":
                go("who:0:10:012 who:0:10:201 who:0:10:120");
                break;
            case "who":
                member(told);
                break;
            case "text":
                text(told[1], told[2].replace('_', ' '));
                break;
            case "tree":
                text("7", told[1]);
                due("tree(7)", String.valueOf(trees));
                break;
            case "bytes":
                bytes(told[1], told[2].split(","));
                break;
            default:
                int at = step.lastIndexOf('=');
                due(step.substring(0, at), step.substring(at + 1));
        }
    }

    private void member(String[] told) {
        int m = people;
        due("member(" + told[1] + "," + told[2] + ")", String.valueOf(m));
        for (int e = 0; e < told[3].length(); e++) {
            due("wish(" + m + "," + e + "," + told[3].charAt(e) + ")", "5");
        }
        if (told.length > 4) {
            due("sure(" + m + "," + told[4] + ")", "0");
            for (int e = 0; e < told[5].length(); e++) {
                due("doubted(" + m + "," + e + "," + told[5].charAt(e) + ")", "5");
            }
        }
    }

    private void text(String d, String text) {
        due("row(" + d + ",0," + text.length() + ")", "0");
        for (int i = 0; i < text.length(); i++) {
            due("put(" + d + "," + i + "," + (int) text.charAt(i) + ")", "0");
        }
    }

    private void bytes(String d, String[] numbers) {
        due("row(" + d + ",0," + numbers.length + ")", "0");
        for (int i = 0; i < numbers.length; i++) {
            due("put(" + d + "," + i + "," + numbers[i] + ")", "0");
        }
    }

    private void due(String call, String want) {
        calls++;
        String got = answer(desk, call);
        if (!got.equals(want)) {
            Checks.fail(call + " answered " + got + ", due is " + want);
        }
        String name = call.substring(0, call.indexOf('('));
        if (CHANGING.contains(name) && !want.startsWith("-")) {
            answer(twin, call);
            keepCount(name);
        }
    }

    private void keepCount(String name) {
        switch (name) {
            case "member":
                people++;
                break;
            case "tree":
                trees++;
                break;
            case "image":
                peopleThen = people;
                treesThen = trees;
                break;
            case "restore":
                people = peopleThen;
                trees = treesThen;
                break;
            default:
        }
    }

    private static String answer(QuestionDesk x, String call) {
        int open = call.indexOf('(');
        Method m = FACE.get(call.substring(0, open));
        String inside = call.substring(open + 1, call.length() - 1);
        String[] words = inside.isEmpty() ? new String[0] : inside.split(",");
        Object[] told = new Object[words.length];
        for (int i = 0; i < words.length; i++) {
            told[i] = m.getParameterTypes()[i] == boolean.class ? (Object) Boolean.valueOf(words[i]) : number(words[i]);
        }
        try {
            return String.valueOf(m.invoke(x, told));
        } catch (InvocationTargetException e) {
            return "throws." + e.getCause().getClass().getSimpleName();
        } catch (IllegalAccessException e) {
            throw new IllegalStateException(e);
        }
    }

    private static Integer number(String word) {
        return word.equals("min") ? Integer.MIN_VALUE : word.equals("max") ? Integer.MAX_VALUE : Integer.valueOf(word);
    }

    /** What can be seen of a desk with the calls that are left; to see it changes it. */
    private String look(QuestionDesk x) {
        looks = MOST_CALLS - calls;
        StringBuilder s = new StringBuilder();
        chamber(s, x);
        for (int d = 0; d < 8; d++) {
            seen(s, x, "heft(" + d + ")");
            seen(s, x, "toss(" + d + ")");
            for (int i = 0; i < 3; i++) {
                seen(s, x, "element(" + d + "," + i + ")");
            }
            seen(s, x, "put(" + d + ",0,123456789)");
            seen(s, x, "element(" + d + ",0)");
        }
        members(s, x);
        seen(s, x, "restore()");
        chamber(s, x);
        members(s, x);
        return s.toString();
    }

    private void chamber(StringBuilder s, QuestionDesk x) {
        for (int what = 0; what < 7; what++) {
            seen(s, x, "count(" + what + ")");
        }
        for (int t = 0; t < Math.max(trees, treesThen); t++) {
            seen(s, x, "of(" + t + ",1)");
            seen(s, x, "run(" + t + ")");
        }
    }

    private void members(StringBuilder s, QuestionDesk x) {
        for (int m = 0; m < Math.max(people, peopleThen); m++) {
            for (int what = 0; what < 5; what++) {
                seen(s, x, "about(" + m + "," + what + ")");
            }
            for (int e = 0; e < 7; e++) {
                seen(s, x, "wish(" + m + "," + e + ",0)");
                seen(s, x, "doubted(" + m + "," + e + ",0)");
            }
            seen(s, x, "becomes(" + m + ",40)");
            seen(s, x, "bought(" + m + ",0)");
        }
    }

    private void seen(StringBuilder s, QuestionDesk x, String call) {
        if (looks > 0) {
            looks--;
            s.append(call).append('=').append(answer(x, call)).append(' ');
        }
    }
}
