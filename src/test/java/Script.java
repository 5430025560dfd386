import java.lang.reflect.InvocationTargetException;
import java.lang.reflect.Method;
import java.util.ArrayList;
import java.util.Arrays;
import java.util.HashMap;
import java.util.List;
import java.util.Map;
import java.util.regex.Matcher;
import java.util.regex.Pattern;

/**
 * Runs of calls on new objects, told a row each:
 * <pre>
 *   quarters(2) = 1              the answer is 1 (BAD, STATE, FULL, NONE, MIN and MAX are known)
 *   alter(0, 0, 4) ! BAD         the answer is BAD, and nothing that can be seen is changed by the call
 *   hand(1)                      whatever the answer is
 *   33 x quarters(30)            so many times
 *   feed "slump 1"               these bytes come behind the tape; a byte that has no sign here is written as <9>
 *   told "plain 1 1;"            a text that is taken
 *   say "plain 1 1;" = 1         a text and its answer
 *   fault 3 at 8 "plain 1 21;"   a text that is refused, its fault and the place
 * </pre>
 */
final class Script {
    /** What later calls answer is free, so no run of a test may go farther. */
    private static final int MOST_CALLS = 512;
    private static final Pattern CALL = Pattern.compile("(?:(\\d+) x )?(\\w+)\\((.*?)\\)(?: ([=!]) (\\S+))?");
    private static final Pattern TOLD = Pattern.compile("(feed|told|say|fault (\\d) at (\\d+)) \"(.*)\"(?: ([=!]) (\\S+))?");
    private static final Map<String, Method> FACE = face();

    record Row(String name, int[] args, char relation, long due) {
        @Override public String toString() {
            String list = Arrays.toString(args);
            return name + "(" + list.substring(1, list.length() - 1) + ")";
        }
    }

    /** An object in use: counts its calls. */
    private static final class Use {
        private final LastPenny object = new LastPenny();
        private final List<String> answers = new ArrayList<>();
        private int calls;

        long call(Row row) {
            if (++calls > MOST_CALLS) throw new IllegalStateException("more than " + MOST_CALLS + " calls, at " + row);
            Method m = FACE.get(row.name);
            if (m == null || m.getParameterCount() != row.args.length) throw new IllegalStateException("no such call: " + row);
            Object[] boxed = Arrays.stream(row.args).boxed().toArray();
            try {
                return ((Number) m.invoke(object, boxed)).longValue();
            } catch (InvocationTargetException e) {
                throw new IllegalStateException(row + " threw " + e.getCause());
            } catch (IllegalAccessException e) {
                throw new IllegalStateException(row + " can't be called");
            }
        }

        long call(String name, int... args) { return call(new Row(name, args, ' ', 0)); }

        int look(String name, int... args) {
            Row row = new Row(name, args, ' ', 0);
            long answer = call(row);
            answers.add(row + " = " + answer);
            return (int) answer;
        }
    }

    private Script() { }

    private static Map<String, Method> face() {
        Map<String, Method> map = new HashMap<>();
        for (Method m : LastPenny.class.getMethods()) {
            if (m.getDeclaringClass() == LastPenny.class) map.put(m.getName(), m);
        }
        return map;
    }

    static List<Row> rows(String script) {
        List<Row> rows = new ArrayList<>();
        for (String line : script.split("\n")) {
            String row = line.strip();
            Matcher call = CALL.matcher(row), told = TOLD.matcher(row);
            if (row.isEmpty() || row.startsWith("//")) continue;
            if (told.matches()) addTold(rows, told);
            else if (call.matches()) addCall(rows, call);
            else throw new IllegalStateException("no row: " + row);
        }
        return rows;
    }

    private static void addCall(List<Row> rows, Matcher m) {
        int times = m.group(1) == null ? 1 : Integer.parseInt(m.group(1));
        int[] args = m.group(3).isBlank() ? new int[0] : Arrays.stream(m.group(3).split(",")).mapToInt(Script::number).toArray();
        for (int i = 0; i < times; i++) rows.add(row(m.group(2), args, m.group(4), m.group(5)));
    }

    private static void addTold(List<Row> rows, Matcher m) {
        addBytes(rows, m.group(4));
        if (m.group(1).equals("told")) rows.add(new Row("text", new int[0], '>', 0));
        if (m.group(1).equals("say")) rows.add(row("text", new int[0], m.group(5), m.group(6)));
        if (m.group(2) != null) {
            rows.add(new Row("text", new int[0], '!', -10 - Integer.parseInt(m.group(3))));
            rows.add(new Row("fault", new int[0], '=', Integer.parseInt(m.group(2))));
        }
    }

    private static void addBytes(List<Row> rows, String text) {
        Matcher m = Pattern.compile("<(\\d+)>|(.)").matcher(text);
        while (m.find()) {
            int c = m.group(1) != null ? Integer.parseInt(m.group(1)) : m.group(2).charAt(0);
            rows.add(new Row("feed", new int[] {c}, '>', 0));
        }
    }

    private static Row row(String name, int[] args, String relation, String due) {
        return relation == null ? new Row(name, args, ' ', 0) : new Row(name, args, relation.charAt(0), number(due));
    }

    private static int number(String word) {
        return switch (word.strip()) {
            case "BAD" -> -1;
            case "STATE" -> -2;
            case "FULL" -> -3;
            case "NONE" -> -4;
            case "MIN" -> Integer.MIN_VALUE;
            case "MAX" -> Integer.MAX_VALUE;
            default -> Integer.parseInt(word.strip());
        };
    }

    /** What is not as the rows say. */
    static List<String> wrongs(List<Row> rows) {
        List<String> wrong = new ArrayList<>();
        Use use = new Use();
        for (int i = 0; i < rows.size(); i++) {
            Row row = rows.get(i);
            long answer = use.call(row);
            boolean right = row.relation == ' ' || (row.relation == '>' ? answer >= 0 : answer == row.due);
            if (!right) wrong.add(row + " (call " + (i + 1) + ") answered " + answer + ", due is " + row.due);
            if (row.relation == '!') {
                String changed = change(rows.subList(0, i), row);
                if (changed != null) wrong.add(row + " (call " + (i + 1) + ") is refused, but changed " + changed);
            }
        }
        return wrong;
    }

    static long answer(List<Row> ahead, Row row) {
        return after(ahead).call(row);
    }

    private static Use after(List<Row> rows) {
        Use use = new Use();
        for (Row row : rows) use.call(row);
        return use;
    }

    /** What a refused call changes, found by a twin on which it is not made; null if nothing. */
    static String change(List<Row> ahead, Row refused) {
        boolean text = refused.name.equals("text");
        Use with = after(ahead), without = after(ahead);
        with.call(refused);
        // A refused text empties the tape and leaves a fault, as told: all else must stay.
        if (text) without.call("end", 0);
        List<String> seen = look(with, !text), due = look(without, !text);
        for (int i = 0; i < Math.max(seen.size(), due.size()); i++) {
            String s = i < seen.size() ? seen.get(i) : "nothing", d = i < due.size() ? due.get(i) : "nothing";
            if (!s.equals(d)) return s + ", without it " + d;
        }
        return null;
    }

    /** All that can be seen of an object, which is used up by it. */
    private static List<String> look(Use use, boolean withFault) {
        if (withFault) use.look("fault");
        use.look("torn");
        lookAtCounty(use);
        lookAtSeen(use);
        lookAtSheets(use);
        for (int k = 0; k < 2; k++) {
            if (use.look("back", k) >= 0) lookAtCounty(use);
        }
        use.look("text");
        lookAtCounty(use);
        return use.answers;
    }

    private static void lookAtCounty(Use use) {
        int people = use.look("rule", 0);
        for (int what = 1; what < 4; what++) use.look("rule", what);
        int gifts = use.look("rule", 6);
        for (int p = 0; p < people; p++) for (int what = 0; what < 4; what++) use.look("one", p, what);
        for (int i = 0; i < gifts; i++) for (int what = 0; what < 4; what++) use.look("gift", i, what);
        for (int what = 0; what < 5; what++) use.look("count", what);
    }

    private static void lookAtSeen(Use use) {
        int people = (int) use.call("rule", 0);
        for (int left = (int) use.call("count", 0) - 1; left >= 0; left--) {
            for (int p = 0; p < people; p++) use.look("trades", p);
            use.look("forget", left);
        }
    }

    private static void lookAtSheets(Use use) {
        for (int k = 0; k < 4; k++) {
            for (int lane = 0; lane < 3; lane++) {
                use.look("read", k, lane, 0, 1);
                use.look("torn");
                use.look("rule", 4);
            }
            for (int i : new int[] {0, 1, 2, 39}) use.look("lay", k, i, 0);
        }
    }
}
