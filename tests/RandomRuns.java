import java.util.ArrayDeque;
import java.util.Deque;
import java.util.Map;
import java.util.TreeMap;

/** Long runs of calls, the same ones each time, on a CliffSerial and on the reference. */
final class RandomRuns {
    private static final int RUNS = 600;
    private static final int CALLS = 512;
    private static final int CLEAR = -2;
    private static final int READ = -1;
    private static final String[] NAMES = {
        "insert", "remove", "change", "setWeek", "setNumber", "ask", "set", "unset", "mend", "print", "skip",
        "take", "restore", "undo", "append", "clearText", "read", "count", "scene", "week", "why", "cutFrom",
        "since", "strand", "plan", "planned", "plans", "mostCut", "tooHigh"};

    /** How often each kind of answer came, so that the runs are known to get everywhere. */
    private static final Map<String, Integer> ANSWERS = new TreeMap<>();

    private long seed;
    private final CliffSerial x = new CliffSerial();
    private final Reference y = new Reference();
    private final Deque<String> calls = new ArrayDeque<>();
    private final Deque<Integer> written = new ArrayDeque<>();
    private final int manner;
    private final int[] a = new int[5];

    private RandomRuns(long seed) {
        this.seed = seed;
        this.manner = (int) (seed % 6);
    }

    static void run() {
        for (int seed = 1; seed <= RUNS && Check.failed < 20; seed++) {
            new RandomRuns(seed).compare();
        }
        String[] wanted = {
            "insert ok", "insert INVALID", "insert ILLEGAL", "insert FULL", "remove ok", "remove ILLEGAL",
            "remove INVALID", "change ok", "change INVALID", "change ILLEGAL", "set ok", "set ILLEGAL",
            "unset ok", "unset ILLEGAL", "mend ok", "mend ILLEGAL", "print ok", "print ILLEGAL", "skip ok",
            "skip ILLEGAL", "restore ok", "restore ILLEGAL", "undo ok", "undo ILLEGAL", "append FULL",
            "read ok", "read fault", "read INVALID", "read ILLEGAL", "read FULL", "why ok", "why ILLEGAL",
            "cutFrom ok", "cutFrom NONE", "since ok", "since NONE", "plan ok", "plan NONE", "planned ok",
            "planned NONE", "mostCut ok", "mostCut NONE", "tooHigh ok", "tooHigh NONE", "reason 0",
            "reason 1", "reason 2", "reason 3", "reason 4", "reason 5", "reason 6"};
        for (String answer : wanted) {
            Check.holds("the runs came to '" + answer + "' often enough", ANSWERS.getOrDefault(answer, 0) >= 20);
        }
    }

    private int below(int bound) {
        seed = seed * 6364136223846793005L + 1442695040888963407L;
        return (int) ((seed >>> 33) % bound);
    }

    private int between(int low, int high) {
        return low + below(high - low + 1);
    }

    /** Now and then one above or below. */
    private int mostly(int low, int high) {
        return oneIn(15) || high < low ? between(low - 1, Math.max(low, high + 1)) : between(low, high);
    }

    private boolean oneIn(int many) {
        return below(many) == 0;
    }

    private void compare() {
        for (int i = 0; i < CALLS; i++) {
            if (written.isEmpty() && oneIn(manner == 5 ? 30 : 250)) {
                write();
            }
            int call = written.isEmpty() ? choose(i) : nextWritten();
            String told = NAMES[call] + "(" + a[0] + ", " + a[1] + ", " + a[2] + ", " + a[3] + ", " + a[4] + ")";
            calls.addLast(told);
            int got = ofProgram(call);
            int want = ofReference(call);
            Check.due("random run: " + told, got, want);
            tally(call, want);
            if (got != want) {
                System.out.println("  behind " + calls);
                return;
            }
        }
    }

    private int nextWritten() {
        java.util.Arrays.fill(a, 0);
        a[0] = written.removeFirst();
        return a[0] == CLEAR ? 15 : a[0] == READ ? 16 : 14;
    }

    private static void tally(int call, int answer) {
        String kind = answer == Check.INVALID ? "INVALID" : answer == Check.ILLEGAL ? "ILLEGAL"
                : answer == Check.FULL ? "FULL" : answer == Check.NONE ? "NONE"
                : call == 16 && answer <= -1000 ? "fault" : "ok";
        ANSWERS.merge(NAMES[call] + " " + kind, 1, Integer::sum);
        if (call == 20 && kind.equals("ok")) {
            ANSWERS.merge("reason " + answer, 1, Integer::sum);
        }
    }

    /** At first many scenes and weeks are made, then all kinds of calls follow. */
    private int choose(int done) {
        int call = kind(done);
        argue(call);
        return call;
    }

    private int kind(int done) {
        if (done < 8 + manner * 2) {
            return 0;
        }
        if (done < 60 && manner != 3) {
            return oneIn(5) ? 4 : 3;
        }
        if (y.count(4) > 0 && oneIn(2)) {
            int[] whileSet = {5, 5, 3, 4, 8, 9, 9, 9, 20};
            return whileSet[below(whileSet.length)];
        }
        if (oneIn(4)) {
            return between(24, 28);
        }
        if (oneIn(5)) {
            return 6;
        }
        if (oneIn(manner == 4 ? 6 : 30)) {
            return 10;
        }
        if (manner == 3 && oneIn(3)) {
            return 13;
        }
        return below(14) < 7 ? between(17, 23) : between(0, 17);
    }

    private void argue(int call) {
        java.util.Arrays.fill(a, 0);
        int all = y.count(0);
        int printed = y.count(1);
        switch (call) {
            case 0:
                a[0] = oneIn(3) ? all : between(printed - (oneIn(9) ? 1 : 0), all + (oneIn(9) ? 1 : 0));
                a[1] = words();
                a[2] = oneIn(2) ? 0 : below(Math.max(1, a[1] + (oneIn(9) ? 1 : 0)));
                a[3] = oneIn(40) ? between(-1, 6) : below(manner == 1 ? 2 : 6);
                a[4] = oneIn(40) ? between(-1, 10) : oneIn(2) ? between(5, 9) : below(10);
                break;
            case 1:
                a[0] = between(printed - 1, all);
                break;
            case 2:
                a[0] = between(printed - (oneIn(9) ? 1 : 0), all);
                a[1] = oneIn(30) ? between(-1, 4) : below(4);
                a[2] = a[1] == 0 ? words() : a[1] == 1 ? between(-1, 200) : a[1] == 2 ? between(-1, 6) : between(-1, 10);
                break;
            case 3:
                a[0] = oneIn(20) ? between(-1, 30) : Math.min(29, y.count(2) + below(20));
                a[1] = oneIn(20) ? between(0, 5) : oneIn(3) ? between(1, 4) : manner % 2 + 1;
                a[2] = oneIn(20) ? between(-1, 1000) : oneIn(3) ? below(300) : 0;
                break;
            case 4:
                a[0] = oneIn(30) ? between(-1, 4) : below(4);
                a[1] = a[0] == 0 ? (oneIn(9) ? between(49, 1000) : between(150, 500)) : a[0] == 1 ? lowOrAny()
                        : a[0] == 2 ? between(-1, oneIn(9) ? 1000 : 500) : between(0, 10);
                break;
            case 5:
                a[0] = oneIn(20) ? between(-1, 1000) : oneIn(4) ? 0 : below(oneIn(4) ? 300 : 60);
                break;
            case 6:
                a[0] = oneIn(20) ? between(-1, 21) : firstGood();
                break;
            case 11:
            case 12:
                a[0] = oneIn(20) ? between(-1, 2) : below(2);
                break;
            case 14:
                a[0] = oneIn(4) ? between(-1, 256) : "abcdef0123456789-!;".charAt(below(19));
                break;
            case 17:
                a[0] = mostly(0, 20);
                break;
            case 18:
                a[0] = mostly(0, all - 1);
                a[1] = mostly(0, 6);
                break;
            case 19:
                a[0] = oneIn(2) ? mostly(0, 29) : Math.min(29, between(0, y.count(2)));
                a[1] = mostly(0, 4);
                break;
            case 20:
                a[0] = oneIn(20) ? between(-100, 100) : mostly(1, all - printed);
                break;
            case 21:
                a[0] = mostly(1, all - printed);
                a[1] = mostly(printed, printed + Math.max(0, a[0] - 1));
                break;
            case 22:
                a[0] = mostly(0, 5);
                break;
            case 23:
                a[0] = mostly(0, 5);
                a[1] = mostly(0, 1);
                break;
            case 24:
                a[0] = mostly(0, 4);
                break;
            case 25:
                a[0] = oneIn(20) ? Integer.MAX_VALUE : mostly(0, oneIn(3) ? 20 : 3);
                a[1] = mostly(0, 2);
                break;
            default:
                break;
        }
    }

    private int words() {
        if (oneIn(60)) {
            return between(0, 1000);
        }
        switch (manner) {
            case 0:
                return between(1, 150);
            case 2:
                return between(200, 500);
            case 5:
                return oneIn(3) ? between(1, 30) : between(100, 300);
            default:
                return oneIn(3) ? between(30, 300) : between(100, 250);
        }
    }

    private int lowOrAny() {
        return oneIn(4) ? between(-1, 10) : between(0, 5);
    }

    private int firstGood() {
        int first = between(1, 4);
        for (int scenes = first; scenes < first + 6; scenes++) {
            if (y.why(scenes) == 0) {
                return scenes;
            }
        }
        return first;
    }

    /** A text of some scenes, now and then with a fault, to be appended and read. */
    private void write() {
        StringBuilder text = new StringBuilder();
        int scenes = oneIn(9) ? 20 : between(1, 4);
        for (int i = 0; i < scenes; i++) {
            boolean tiny = scenes == 20;
            int words = tiny ? between(1, 9) : words();
            text.append(i == 0 ? "" : ";").append((char) ('a' + below(6))).append(words);
            if (!tiny && oneIn(2)) {
                text.append('-').append(between(1, oneIn(9) ? 999 : Math.max(1, words - 1)));
            }
            text.append('!').append(below(10));
        }
        if (oneIn(3)) {
            int at = below(text.length());
            text.setCharAt(at, "abf0123459-!;gA:/`".charAt(below(18)));
        }
        if (oneIn(8)) {
            text.setLength(below(text.length()));
        }
        written.addLast(CLEAR);
        for (int i = 0; i < text.length() && i < 100; i++) {
            written.addLast((int) text.charAt(i));
        }
        written.addLast(READ);
    }

    private int ofProgram(int call) {
        switch (call) {
            case 0: return x.insert(a[0], a[1], a[2], a[3], a[4]);
            case 1: return x.remove(a[0]);
            case 2: return x.change(a[0], a[1], a[2]);
            case 3: return x.setWeek(a[0], a[1], a[2]);
            case 4: return x.setNumber(a[0], a[1]);
            case 5: return x.ask(a[0]);
            case 6: return x.set(a[0]);
            case 7: return x.unset();
            case 8: return x.mend();
            case 9: return x.print();
            case 10: return x.skip();
            case 11: return x.take(a[0]);
            case 12: return x.restore(a[0]);
            case 13: return x.undo();
            case 14: return x.append(a[0]);
            case 15: return x.clearText();
            case 16: return x.read();
            case 17: return x.count(a[0]);
            case 18: return x.scene(a[0], a[1]);
            case 19: return x.week(a[0], a[1]);
            case 20: return x.why(a[0]);
            case 21: return x.cutFrom(a[0], a[1]);
            case 22: return x.since(a[0]);
            case 23: return x.strand(a[0], a[1]);
            case 24: return x.plan(a[0]);
            case 25: return x.planned(a[0], a[1]);
            case 26: return x.plans();
            case 27: return x.mostCut();
            default: return x.tooHigh();
        }
    }

    private int ofReference(int call) {
        switch (call) {
            case 0: return y.insert(a[0], a[1], a[2], a[3], a[4]);
            case 1: return y.remove(a[0]);
            case 2: return y.change(a[0], a[1], a[2]);
            case 3: return y.setWeek(a[0], a[1], a[2]);
            case 4: return y.setNumber(a[0], a[1]);
            case 5: return y.ask(a[0]);
            case 6: return y.set(a[0]);
            case 7: return y.unset();
            case 8: return y.mend();
            case 9: return y.print();
            case 10: return y.skip();
            case 11: return y.take(a[0]);
            case 12: return y.restore(a[0]);
            case 13: return y.undo();
            case 14: return y.append(a[0]);
            case 15: return y.clearText();
            case 16: return y.read();
            case 17: return y.count(a[0]);
            case 18: return y.scene(a[0], a[1]);
            case 19: return y.week(a[0], a[1]);
            case 20: return y.why(a[0]);
            case 21: return y.cutFrom(a[0], a[1]);
            case 22: return y.since(a[0]);
            case 23: return y.strand(a[0], a[1]);
            case 24: return y.plan(a[0]);
            case 25: return y.planned(a[0], a[1]);
            case 26: return y.plans();
            case 27: return y.mostCut();
            default: return y.tooHigh();
        }
    }
}
