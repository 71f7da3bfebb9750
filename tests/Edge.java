import java.lang.reflect.Method;
import java.util.ArrayList;
import java.util.HashMap;
import java.util.List;
import java.util.Map;
import java.util.Set;

/**
 * A sentence of the document that names a boundary: its calls on a new object, a row each, and the
 * answers that the sentence asks for.
 *
 * <p>A row is "call(1, 2) = 3", where the answer may be INVALID, ILLEGAL, FULL or NONE;
 * "29 times skip()" looks at no answer, "scenes a310-100!7 b200!5" inserts scenes behind all others,
 * "text a1!1" appends characters.
 *
 * <p>Beside the answers, each sentence is run with and without its refused calls and its calls that
 * only look: all that can be seen behind them has to be the same. No object is called more often
 * than the document allows.
 */
final class Edge {
    private static final int MOST_CALLS = 512;
    private static final Set<String> ACTIONS = Set.of("insert", "remove", "change", "setWeek", "setNumber",
            "ask", "set", "unset", "mend", "print", "skip", "take", "restore", "read");
    private static final Set<String> CHANGING = Set.of("undo", "append", "clearText");
    private static final Map<String, Integer> CONSTANTS = Map.of("INVALID", Check.INVALID,
            "ILLEGAL", Check.ILLEGAL, "FULL", Check.FULL, "NONE", Check.NONE);
    private static final Map<String, Method> METHODS = methods();

    private static final int BEHIND = -77;

    private final CliffSerial x = new CliffSerial();
    private int made = 0;
    private int states = 0;

    private record Call(String name, int[] arguments, Integer due) {
        boolean isRefused() {
            return due != null && isError(name, due);
        }

        boolean onlyLooks() {
            return !ACTIONS.contains(name) && !CHANGING.contains(name);
        }

        String told() {
            String list = java.util.Arrays.toString(arguments);
            return name + "(" + list.substring(1, list.length() - 1) + ")";
        }
    }

    private interface Probe {
        String look(Edge edge);
    }

    private Edge() {
    }

    static void due(String sentence, String... rows) {
        List<Call> calls = parse(rows);
        Edge edge = new Edge();
        for (Call call : calls) {
            int got = edge.make(call);
            if (call.due() != null) {
                Check.due("\"" + sentence + "\": " + call.told(), got, call.due());
            }
        }
        Check.due("\"" + sentence + "\": states in the history", edge.call("count", 19), edge.states);
        List<Call> fewer = new ArrayList<>();
        for (Call call : calls) {
            if (!call.isRefused() && !call.onlyLooks()) {
                fewer.add(call);
            }
        }
        Probe[] probes = {Edge::face, Edge::pastStates, Edge::textAndSlots};
        for (Probe probe : probes) {
            String with = probe.look(new Edge().makeAll(calls));
            String without = probe.look(new Edge().makeAll(fewer));
            Check.holds("\"" + sentence + "\": refused calls and looks change nothing", with.equals(without));
        }
    }

    /** A new object behind some rows. */
    static Edge behind(String... rows) {
        return new Edge().makeAll(parse(rows));
    }

    /** The answer of a call; it counts among the calls of the object. */
    int call(String name, int... arguments) {
        made++;
        if (made > MOST_CALLS) {
            throw new IllegalStateException("more calls than the document allows: " + name);
        }
        Object[] boxed = new Object[arguments.length];
        for (int i = 0; i < boxed.length; i++) {
            boxed[i] = arguments[i];
        }
        try {
            return (int) METHODS.get(name).invoke(x, boxed);
        } catch (ReflectiveOperationException thrown) {
            throw new IllegalStateException(name, thrown);
        }
    }

    private Edge makeAll(List<Call> calls) {
        for (Call call : calls) {
            make(call);
        }
        return this;
    }

    private int make(Call call) {
        int[] arguments = call.arguments().clone();
        if (call.name().equals("insert") && arguments[0] == BEHIND) {
            arguments[0] = call("count", 0);
            int got = call("insert", arguments);
            Check.due("insert behind all others", got, arguments[0] + 1);
            states = Math.min(6, states + 1);
            return got;
        }
        int got = call(call.name(), arguments);
        if (!isError(call.name(), got)) {
            states = ACTIONS.contains(call.name()) ? Math.min(6, states + 1)
                    : call.name().equals("undo") ? states - 1 : states;
        }
        return got;
    }

    private static boolean isError(String name, int answer) {
        return answer == Check.INVALID || answer == Check.ILLEGAL || answer == Check.FULL
                || (name.equals("read") && answer < 0);
    }

    // ---- what can be seen

    static String face(Edge edge) {
        StringBuilder seen = new StringBuilder();
        edge.counts(seen, 20);
        int scenes = edge.call("count", 0);
        for (int scene = 0; scene < scenes; scene++) {
            for (int what = 0; what <= 6; what++) {
                seen.append(edge.call("scene", scene, what)).append(' ');
            }
        }
        for (int week = 0; week < 30; week++) {
            for (int what = 0; what <= 4; what++) {
                seen.append(edge.call("week", week, what)).append(' ');
            }
        }
        return seen.toString();
    }

    private static String pastStates(Edge edge) {
        StringBuilder seen = new StringBuilder();
        for (int i = 0; i < 7; i++) {
            seen.append(edge.call("undo")).append(' ');
            edge.counts(seen, 20);
            edge.strands(seen);
        }
        return seen.toString();
    }

    private static String textAndSlots(Edge edge) {
        StringBuilder seen = new StringBuilder();
        seen.append(edge.call("read")).append(' ');
        edge.strands(seen);
        for (int slot = 0; slot < 2; slot++) {
            seen.append(edge.call("restore", slot)).append(' ');
            edge.counts(seen, 20);
            edge.strands(seen);
        }
        return seen.toString();
    }

    private void counts(StringBuilder seen, int last) {
        for (int what = 0; what <= last; what++) {
            seen.append(call("count", what)).append(' ');
        }
    }

    private void strands(StringBuilder seen) {
        for (int strand = 0; strand < 6; strand++) {
            seen.append(call("strand", strand, 1)).append(' ');
        }
    }

    // ---- rows

    private static Map<String, Method> methods() {
        Map<String, Method> methods = new HashMap<>();
        for (Method method : CliffSerial.class.getDeclaredMethods()) {
            if (java.lang.reflect.Modifier.isPublic(method.getModifiers())) {
                methods.put(method.getName(), method);
            }
        }
        return methods;
    }

    private static List<Call> parse(String[] rows) {
        List<Call> calls = new ArrayList<>();
        for (String row : rows) {
            if (row.startsWith("text ")) {
                for (char character : row.substring(5).toCharArray()) {
                    calls.add(new Call("append", new int[] {character}, null));
                }
            } else if (row.startsWith("scenes ")) {
                for (String scene : row.substring(7).split(" ")) {
                    calls.add(behindAllOthers(scene));
                }
            } else if (row.contains(" times ")) {
                int times = Integer.parseInt(row.substring(0, row.indexOf(' ')));
                Call call = parseCall(row.substring(row.indexOf(" times ") + 7), null);
                calls.addAll(java.util.Collections.nCopies(times, call));
            } else {
                String[] parts = row.split(" = ");
                Integer due = CONSTANTS.get(parts[1]);
                calls.add(parseCall(parts[0], due != null ? due : Integer.valueOf(parts[1])));
            }
        }
        return calls;
    }

    private static Call behindAllOthers(String scene) {
        String[] numbers = scene.substring(1).split("[-!]");
        int slack = numbers.length == 3 ? Integer.parseInt(numbers[1]) : 0;
        return new Call("insert", new int[] {BEHIND, Integer.parseInt(numbers[0]), slack, scene.charAt(0) - 'a',
            Integer.parseInt(numbers[numbers.length - 1])}, null);
    }

    private static Call parseCall(String told, Integer due) {
        int open = told.indexOf('(');
        String list = told.substring(open + 1, told.indexOf(')'));
        String[] numbers = list.isEmpty() ? new String[0] : list.split(", ");
        int[] arguments = new int[numbers.length];
        for (int i = 0; i < numbers.length; i++) {
            arguments[i] = numbers[i].equals("MAX") ? Integer.MAX_VALUE
                    : numbers[i].equals("MIN") ? Integer.MIN_VALUE : Integer.parseInt(numbers[i]);
        }
        return new Call(told.substring(0, open), arguments, due);
    }
}
