/** Arguments far out of range, each of them and all at once, in objects of every kind. */
final class FarArguments {
    private static final int[] FAR = {Integer.MIN_VALUE, Integer.MAX_VALUE};

    /** A call with arguments that are in range in some state or other. */
    private record Call(String name, int... arguments) {
    }

    private static final Call[] CALLS = {
        new Call("insert", 20, 9, 3, 1, 5), new Call("remove", 19), new Call("change", 19, 3, 5),
        new Call("setWeek", 29, 1, 0), new Call("setNumber", 0, 300), new Call("ask", 0), new Call("set", 1),
        new Call("take", 0), new Call("restore", 0), new Call("append", 97), new Call("count", 0),
        new Call("scene", 0, 0), new Call("week", 0, 0), new Call("cutFrom", 1, 19), new Call("since", 0),
        new Call("strand", 0, 0), new Call("plan", 0), new Call("planned", 0, 0)};

    private FarArguments() {
    }

    static void run() {
        in("a new object");
        in("some scenes", "scenes a600-10!9 b600!8 c600!0", "take(0) = 3", "text a9!1");
        in("something is set", "scenes a600-10!9 b600!8", "ask(5) = 0", "set(1) = 595");
        in("what is set is not good", "scenes a600-10!9 b600!8", "set(1) = 600", "ask(999) = 0");
        in("some are printed", "scenes a600-10!9 b600!8", "set(1) = 600", "print() = 600", "take(1) = 1");
        in("all are printed", "scenes a600-10!9", "set(1) = 600", "print() = 600");
        in("twenty scenes", "20 times insert(0, 30, 20, 0, 0)");
        in("twenty are printed", "20 times insert(0, 30, 20, 0, 0)", "set(20) = 600", "print() = 600");
        in("all weeks have passed", "scenes a600-10!9 b600!8", "30 times skip()");
        in("a full text", "100 times append(97)");
    }

    private static void in(String state, String... rows) {
        for (int far : FAR) {
            Edge edge = Edge.behind(rows);
            for (Call call : CALLS) {
                for (int i = 0; i < call.arguments().length; i++) {
                    int[] arguments = call.arguments().clone();
                    arguments[i] = far;
                    refused(edge, state, call.name(), arguments);
                }
                int[] all = new int[call.arguments().length];
                java.util.Arrays.fill(all, far);
                refused(edge, state, call.name(), all);
            }
            int reason = edge.call("count", 2) == 30 ? Check.ILLEGAL : 1;
            Check.due(state + ": why(" + far + ")", edge.call("why", far), reason);
            Check.holds(state + ": arguments far out of range change nothing",
                    Edge.face(edge).equals(Edge.face(Edge.behind(rows))));
        }
    }

    private static void refused(Edge edge, String state, String name, int[] arguments) {
        // An instalment far behind the plan is no wrong argument: there is no such value.
        boolean behindThePlan = name.equals("planned") && arguments[0] > 0 && arguments[1] == 0;
        Check.due(state + ": " + name + java.util.Arrays.toString(arguments), edge.call(name, arguments),
                behindThePlan ? Check.NONE : Check.INVALID);
    }
}
