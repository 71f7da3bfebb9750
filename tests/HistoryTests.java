import java.util.List;
import java.util.function.Consumer;

/** Promises 13 to 15. */
final class HistoryTests {
    private HistoryTests() {
    }

    static void run() {
        takeAndRestore();
        snapshotsRefuse();
        snapshotKeepsWhatIsSet();
        undoTakesSlotsBack();
        undoGoesBackOneByOne();
        everyActionIsRecorded();
        lookingRecordsNothing();
    }

    private static void takeAndRestore() {
        CliffSerial x = Make.novel("a600-100!9 b600!9");
        x.setWeek(3, 4, 7);
        x.ask(30);
        Check.due("take(0)", x.take(0), 2);
        String before = Make.looks(x);
        x.set(1);
        x.print();
        x.change(1, 3, 2);
        x.setNumber(3, 7);
        x.setWeek(3, 1, 9);
        x.skip();
        Check.due("restore(0)", x.restore(0), 2);
        Check.due("all as it was", Make.looks(x).equals(before) ? 1 : 0, 1);
        x.remove(0);
        Check.due("the snapshot stays", x.restore(0), 2);
        Check.due("all as it was again", Make.looks(x).equals(before) ? 1 : 0, 1);
        x.set(1);
        x.print();
        Check.due("take(0) in its place", x.take(0), 1);
        Check.due("one snapshot", x.count(18), 1);
        Check.due("take(1)", x.take(1), 1);
        Check.due("two snapshots", x.count(18), 2);
        x.remove(1);
        Check.due("restore(1)", x.restore(1), 1);
        Check.due("both slots stay", x.count(18), 2);
    }

    private static void snapshotsRefuse() {
        CliffSerial x = new CliffSerial();
        Check.due("take(-1)", x.take(-1), Check.INVALID);
        Check.due("take(2)", x.take(2), Check.INVALID);
        Check.due("restore(-1)", x.restore(-1), Check.INVALID);
        Check.due("restore(2)", x.restore(2), Check.INVALID);
        x.take(1);
        Check.due("slot 0 is empty", x.restore(0), Check.ILLEGAL);
        Check.due("one state", x.count(19), 1);
        Check.due("slot 1 is not", x.restore(1), 0);
        Check.due("restore is recorded", x.count(19), 2);
    }

    private static void snapshotKeepsWhatIsSet() {
        CliffSerial x = Make.novel("a600-100!9 b600!9");
        x.set(1);
        x.take(0);
        x.unset();
        Make.write(x, "xyz");
        x.restore(0);
        Check.due("set again", x.count(4), 1);
        Check.due("the text is not restored", x.count(20), 3);
        Check.due("the history is not restored", x.count(19), 6);
        Check.due("so it can be printed", x.print(), 600);
    }

    private static void undoTakesSlotsBack() {
        CliffSerial x = new CliffSerial();
        x.take(0);
        Make.add(x, "a100!1");
        x.take(0);
        x.undo();
        Check.due("the slot as before", x.restore(0), 0);
        x.undo();
        x.undo();
        x.undo();
        Check.due("the slot is empty", x.restore(0), Check.ILLEGAL);
        Check.due("no snapshot", x.count(18), 0);
    }

    private static void undoGoesBackOneByOne() {
        CliffSerial x = new CliffSerial();
        for (int i = 0; i < 8; i++) {
            x.setNumber(2, i);
        }
        Make.write(x, "abc");
        Check.due("at most six", x.count(19), 6);
        for (int left = 5; left >= 0; left--) {
            Check.due("undo", x.undo(), left);
            Check.due("states", x.count(19), left);
            Check.due("the quota before", x.count(7), left + 1);
        }
        Check.due("nothing is left", x.undo(), Check.ILLEGAL);
        Check.due("the text stays", x.count(20), 3);
        x.setNumber(2, 77);
        x.skip();
        Check.due("undo of the skip", x.undo(), 1);
        Check.due("back in week 0", x.count(2), 0);
        Check.due("with the quota", x.count(7), 77);
    }

    /** Also those that change nothing. */
    private static void everyActionIsRecorded() {
        List<Consumer<CliffSerial>> actions = List.of(
            x -> x.setNumber(1, 5), x -> x.setWeek(0, 2, 0), x -> x.ask(0), x -> x.change(0, 0, 600),
            x -> x.take(0), x -> x.restore(0), x -> x.set(1), x -> x.unset(), x -> x.set(1),
            x -> x.print(), x -> x.skip(), x -> x.remove(3), x -> x.insert(1, 600, 0, 5, 9),
            x -> { Make.write(x, "a1!0"); x.read(); });
        for (int i = 0; i < actions.size(); i++) {
            CliffSerial before = behind(actions.subList(0, i));
            CliffSerial x = behind(actions.subList(0, i + 1));
            Check.due("action " + i + " is recorded", x.count(19), Math.min(6, before.count(19) + 1));
            x.undo();
            Check.holds("action " + i + " is undone", Make.looks(before).equals(Make.looks(x)));
            actions.get(i).accept(x);
            Check.holds("action " + i + " again",
                    Make.looks(behind(actions.subList(0, i + 1))).equals(Make.looks(x)));
        }
        mendIsRecorded();
    }

    private static CliffSerial behind(List<Consumer<CliffSerial>> actions) {
        CliffSerial x = Make.novel("a600-100!9 b600-100!9 c20!9 d600!9");
        actions.forEach(action -> action.accept(x));
        return x;
    }

    private static void mendIsRecorded() {
        CliffSerial y = Make.novel("a350!9 b20!9 c600!9");
        y.set(1);
        y.setWeek(0, 3, 250);
        String before = Make.looks(y);
        Check.due("mend", y.mend(), 2);
        Check.due("mend is undone", y.undo(), 5);
        Check.holds("as it was before the mending", before.equals(Make.looks(y)));
    }

    private static void lookingRecordsNothing() {
        CliffSerial x = Make.novel("a600-100!9 b600-100!9 c20!9 d600!9");
        String before = Make.looks(x);
        x.plan(0);
        x.planned(0, 0);
        x.plans();
        x.mostCut();
        x.tooHigh();
        x.why(1);
        x.cutFrom(1, 0);
        x.since(0);
        x.strand(0, 0);
        x.append('a');
        x.clearText();
        Check.due("four inserts", x.count(19), 4);
        Check.holds("nothing is changed", before.equals(Make.looks(x)));
    }
}
