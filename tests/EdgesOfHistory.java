/** The boundaries that the document names for snapshots, undo, errors and promises 13 to 15. */
final class EdgesOfHistory {
    private EdgesOfHistory() {
    }

    static void run() {
        slots();
        keepsEverything();
        keepsEverythingBut();
        take();
        restore();
        atMostSix();
        everythingButTextAndHistory();
        everyActionIsRecorded();
        failedActions();
        undo();
        errors();
        noneIsNoError();
    }

    private static void slots() {
        Edge.due("There are two slots for snapshots, empty at first.",
                "count(18) = 0", "restore(0) = ILLEGAL", "restore(1) = ILLEGAL", "restore(-1) = INVALID",
                "restore(2) = INVALID", "take(0) = 0", "count(18) = 1", "restore(1) = ILLEGAL", "restore(0) = 0",
                "take(1) = 0", "count(18) = 2", "restore(1) = 0", "take(2) = INVALID", "take(-1) = INVALID",
                "count(18) = 2");
        Edge.due("There are two slots: each its own",
                "take(0) = 0", "scenes a600!9", "take(1) = 1", "scenes b600!9", "restore(0) = 0", "restore(1) = 1",
                "restore(0) = 0", "take(1) = 0", "restore(1) = 0");
    }

    private static void keepsEverything() {
        Edge.due("A snapshot keeps everything .. To restore it makes all this as it was.",
                "scenes a600-10!9 b600-10!8 c600-10!0", "setWeek(5, 4, 7) = 1193", "setNumber(0, 301) = 300",
                "setNumber(1, 4) = 5", "setNumber(2, 399) = 400", "setNumber(3, 3) = 2", "skip() = 399", "set(1) = 600",
                "ask(6) = 0", "print() = 594", "set(1) = 600", "ask(9) = 0", "take(0) = 2",
                "ask(0) = 9", "print() = 600", "remove(2) = 2", "setWeek(5, 1, 0) = 301", "setNumber(0, 50) = 301",
                "setNumber(1, 9) = 4", "setNumber(2, 0) = 399", "setNumber(3, 9) = 3", "skip() = 3",
                "restore(0) = 2", "count(0) = 3", "count(1) = 1", "count(2) = 2", "count(3) = 9", "count(4) = 1",
                "count(5) = 301", "count(6) = 4", "count(7) = 399", "count(8) = 3", "count(9) = 204", "count(10) = 594",
                "count(11) = 6", "count(12) = 1", "count(13) = 1", "count(14) = 2", "count(15) = 1852", "count(16) = 59",
                "count(17) = 0", "scene(0, 3) = 7", "scene(0, 4) = 6", "scene(0, 5) = 1", "scene(1, 5) = NONE",
                "scene(2, 0) = 600", "week(5, 0) = 4", "week(5, 1) = 7", "week(2, 3) = NONE", "week(1, 4) = 1");
        Edge.due("A snapshot keeps everything: each part of a scene, the sheets and the adverts of each week",
                "scenes a10-1!3 b20-2!4", "setWeek(0, 3, 7) = 893", "setWeek(29, 4, 8) = 1192", "take(1) = 2",
                "change(0, 0, 11) = 10", "change(0, 1, 0) = 1", "change(0, 2, 5) = 0", "change(0, 3, 9) = 3",
                "change(1, 0, 999) = 20", "remove(1) = 1", "setWeek(0, 1, 0) = 300", "setWeek(29, 1, 0) = 300",
                "restore(1) = 2", "scene(0, 0) = 10", "scene(0, 1) = 1", "scene(0, 2) = 0", "scene(0, 3) = 3",
                "scene(1, 0) = 20", "scene(1, 1) = 2", "scene(1, 2) = 1", "scene(1, 3) = 4", "week(0, 0) = 3",
                "week(0, 1) = 7", "week(29, 0) = 4", "week(29, 1) = 8");
        Edge.due("A snapshot keeps everything: of a new object",
                "take(1) = 0", "scenes a600!9", "set(1) = 600", "print() = 600", "restore(1) = 0", "count(0) = 0",
                "count(2) = 0", "count(17) = NONE", "week(0, 3) = NONE", "since(0) = NONE");
        Edge.due("A snapshot keeps everything: when all weeks have passed",
                "30 times skip()", "take(1) = 0", "undo() = 5", "undo() = 4", "count(2) = 29", "take(0) = 0",
                "skip() = 12000", "take(1) = 0", "restore(0) = 0", "count(2) = 29", "restore(1) = 0", "count(2) = 30",
                "skip() = ILLEGAL");
    }

    private static void keepsEverythingBut() {
        Edge.due("A snapshot keeps everything but the text",
                "text abc", "take(0) = 0", "clearText() = 3", "text a9!1", "restore(0) = 0", "count(20) = 4",
                "read() = 1");
        Edge.due("but the slots",
                "take(0) = 0", "scenes a600!9", "take(1) = 1", "restore(0) = 0", "count(18) = 2", "restore(1) = 1",
                "count(0) = 1");
        Edge.due("and the history",
                "take(0) = 0", "ask(1) = 0", "ask(2) = 1", "restore(0) = 0", "count(19) = 4", "undo() = 3",
                "count(3) = 2",
                "undo() = 2", "count(3) = 1");
    }

    private static void take() {
        Edge.due("take: Takes a snapshot, in place of one that is there.",
                "take(0) = 0", "scenes a600!9", "take(0) = 1", "count(18) = 1", "remove(0) = 0", "restore(0) = 1",
                "count(0) = 1");
        Edge.due("take: slot: 0 or 1",
                "take(-1) = INVALID", "take(2) = INVALID", "take(MAX) = INVALID", "take(MIN) = INVALID", "take(0) = 0",
                "take(1) = 0");
        Edge.due("take: Returns the number of scenes to come",
                "take(0) = 0", "scenes a600!9 b300!9 c300!9", "take(0) = 3", "set(1) = 600", "take(0) = 3",
                "print() = 600", "take(0) = 2", "set(2) = 600", "print() = 600", "take(0) = 0");
    }

    private static void restore() {
        Edge.due("restore: Restores a snapshot, which stays.",
                "scenes a600!9", "take(0) = 1", "remove(0) = 0", "restore(0) = 1", "remove(0) = 0", "restore(0) = 1",
                "count(18) = 1", "change(0, 3, 1) = 9", "restore(0) = 1", "scene(0, 3) = 9");
        Edge.due("restore: slot: 0 or 1",
                "take(0) = 0", "take(1) = 0", "restore(-1) = INVALID", "restore(2) = INVALID", "restore(MAX) = INVALID",
                "restore(MIN) = INVALID", "restore(0) = 0", "restore(1) = 0");
        Edge.due("restore: ILLEGAL_STATE if the slot is empty",
                "restore(0) = ILLEGAL", "take(1) = 0", "restore(0) = ILLEGAL", "count(19) = 1", "take(0) = 0",
                "restore(0) = 0", "undo() = 2", "undo() = 1", "restore(0) = ILLEGAL", "restore(1) = 0", "undo() = 1",
                "undo() = 0", "restore(1) = ILLEGAL");
        Edge.due("restore: Returns the number of scenes to come then",
                "scenes a600!9 b600!9", "set(1) = 600", "print() = 600", "take(0) = 1", "undo() = 4", "undo() = 3",
                "undo() = 2",
                "restore(0) = ILLEGAL", "take(0) = 2", "set(1) = 600", "print() = 600", "take(1) = 1", "restore(0) = 2",
                "restore(1) = 1");
        Edge.due("restore also when something is set or was set",
                "scenes a600!9 b600!9", "take(0) = 2", "set(1) = 600", "take(1) = 2", "restore(0) = 2", "count(4) = 0",
                "restore(1) = 2", "count(4) = 1", "insert(0, 9, 0, 0, 0) = ILLEGAL", "print() = 600");
        Edge.due("restore also when all weeks have passed",
                "scenes a600!9", "take(0) = 1", "30 times skip()", "why(1) = ILLEGAL", "restore(0) = 1", "why(1) = 0",
                "count(2) = 0", "set(1) = 600");
    }

    private static void atMostSix() {
        Edge.due("A history of at most 6 states is kept",
                "count(19) = 0", "setNumber(2, 1) = 400", "count(19) = 1", "setNumber(2, 2) = 1", "setNumber(2, 3) = 2",
                "setNumber(2, 4) = 3", "setNumber(2, 5) = 4", "count(19) = 5", "setNumber(2, 6) = 5", "count(19) = 6",
                "undo() = 5", "undo() = 4", "undo() = 3", "undo() = 2", "undo() = 1", "undo() = 0", "count(7) = 400",
                "undo() = ILLEGAL", "count(7) = 400", "count(19) = 0");
        Edge.due("when a seventh one is recorded, the oldest one is dropped",
                "setNumber(2, 1) = 400", "setNumber(2, 2) = 1", "setNumber(2, 3) = 2", "setNumber(2, 4) = 3",
                "setNumber(2, 5) = 4", "setNumber(2, 6) = 5", "setNumber(2, 7) = 6", "count(19) = 6", "undo() = 5",
                "count(7) = 6", "undo() = 4", "count(7) = 5", "undo() = 3", "count(7) = 4", "undo() = 2", "count(7) = 3",
                "undo() = 1", "count(7) = 2", "undo() = 0", "count(7) = 1", "undo() = ILLEGAL");
        Edge.due("when a seventh one is recorded, the oldest one is dropped: and again",
                "20 times ask(9)", "ask(21) = 9", "ask(22) = 21", "undo() = 5", "undo() = 4", "count(3) = 9",
                "ask(31) = 9", "ask(32) = 31", "ask(33) = 32", "count(19) = 6", "undo() = 5", "count(3) = 32",
                "undo() = 4", "count(3) = 31", "undo() = 3", "count(3) = 9", "undo() = 2", "undo() = 1", "undo() = 0",
                "undo() = ILLEGAL", "count(3) = 9");
    }

    private static void everythingButTextAndHistory() {
        Edge.due("a state is everything but the text",
                "append(97) = 1", "ask(1) = 0", "append(98) = 2", "undo() = 0", "count(20) = 2", "ask(1) = 0",
                "clearText() = 2", "undo() = 0", "count(20) = 0");
        Edge.due("a state is everything but the text: which read has made empty",
                "text a1!1", "read() = 1", "undo() = 0", "count(20) = 0", "count(0) = 0");
        Edge.due("and the history",
                "ask(1) = 0", "ask(2) = 1", "undo() = 1", "undo() = 0", "undo() = ILLEGAL", "ask(3) = 0", "undo() = 0",
                "count(3) = 0");
        Edge.due("(the slots belong to it)",
                "take(0) = 0", "scenes a600!9", "take(0) = 1", "take(1) = 1", "count(18) = 2", "undo() = 3",
                "count(18) = 1", "restore(1) = ILLEGAL", "undo() = 2", "count(18) = 1", "restore(0) = 0", "undo() = 2",
                "undo() = 1", "undo() = 0", "count(18) = 0", "restore(0) = ILLEGAL");
        Edge.due("a state is everything: each part of a scene, the sheets and the adverts of each week",
                "scenes a10-1!3 b20-2!4", "change(0, 0, 11) = 10", "undo() = 2", "scene(0, 0) = 10",
                "change(0, 1, 0) = 1", "undo() = 2", "scene(0, 1) = 1", "change(0, 2, 5) = 0", "undo() = 2",
                "scene(0, 2) = 0", "change(0, 3, 9) = 3", "undo() = 2", "scene(0, 3) = 3", "remove(0) = 1", "undo() = 2",
                "scene(0, 0) = 10", "scene(1, 0) = 20", "scene(1, 1) = 2", "scene(1, 2) = 1", "scene(1, 3) = 4",
                "setWeek(29, 1, 9) = 291", "undo() = 2", "week(29, 0) = 2", "week(29, 1) = 0", "setWeek(0, 1, 9) = 291",
                "undo() = 2", "week(0, 0) = 2", "week(0, 1) = 0");
        Edge.due("undo of a week that was printed",
                "scenes a600-10!9 b600!9", "ask(6) = 0", "set(1) = 594", "print() = 594", "undo() = 4", "count(1) = 0",
                "count(2) = 0", "count(3) = 6", "count(4) = 1", "count(9) = 0", "count(10) = 0", "count(11) = 0",
                "count(12) = 0", "count(15) = 0", "count(16) = 0", "count(17) = NONE", "scene(0, 3) = 9",
                "scene(0, 4) = 0", "scene(0, 5) = NONE", "week(0, 3) = NONE", "week(0, 4) = NONE");
    }

    private static void everyActionIsRecorded() {
        String also = "Every successful call of a method that is called an action records the state before it"
                + " (also if nothing changes by it): ";
        Edge.due(also + "change", "scenes a9!1", "change(0, 0, 9) = 9", "count(19) = 2", "undo() = 1", "count(0) = 1");
        Edge.due(also + "setWeek", "setWeek(0, 2, 0) = 600", "count(19) = 1", "undo() = 0");
        Edge.due(also + "setNumber", "setNumber(0, 300) = 300", "setNumber(1, 5) = 5", "setNumber(2, 400) = 400",
                "setNumber(3, 2) = 2", "count(19) = 4", "undo() = 3");
        Edge.due(also + "ask", "ask(0) = 0", "count(19) = 1", "undo() = 0");
        Edge.due(also + "take", "take(0) = 0", "take(0) = 0", "count(19) = 2", "undo() = 1", "count(18) = 1");
        Edge.due(also + "restore", "take(0) = 0", "restore(0) = 0", "restore(0) = 0", "count(19) = 3", "undo() = 2");
        Edge.due(also + "each of the others", "scenes a350!9 b200!9 c600!9", "count(19) = 3", "set(2) = 550",
                "count(19) = 4", "setWeek(0, 2, 51) = 549", "mend() = 1", "count(19) = 6", "undo() = 5", "count(4) = 2",
                "unset() = 2", "count(19) = 6", "undo() = 5", "count(4) = 2", "undo() = 4", "print() = 550",
                "count(19) = 5", "undo() = 4", "count(4) = 2", "unset() = 2", "undo() = 4", "undo() = 3",
                "count(4) = 0", "skip() = 400", "count(19) = 4", "remove(0) = 2", "count(19) = 5",
                "insert(0, 9, 0, 0, 0) = 3",
                "count(19) = 6", "undo() = 5", "undo() = 4", "undo() = 3", "count(2) = 0", "count(0) = 3");
    }

    private static void failedActions() {
        Edge.due("Every successful call: one that fails records nothing",
                "ask(1) = 0", "insert(1, 9, 0, 0, 0) = INVALID", "remove(0) = INVALID", "change(0, 0, 9) = INVALID",
                "setWeek(30, 1, 0) = INVALID", "setNumber(4, 1) = INVALID", "ask(1000) = INVALID", "set(1) = INVALID",
                "unset() = ILLEGAL", "mend() = ILLEGAL", "print() = ILLEGAL", "take(2) = INVALID", "restore(2) = INVALID",
                "restore(0) = ILLEGAL", "read() = -1000", "count(19) = 1", "undo() = 0", "undo() = ILLEGAL",
                "count(3) = 0");
        Edge.due("Every successful call of a method that is called an action: undo, append, clearText and looks are none",
                "scenes a600!9", "append(97) = 1", "clearText() = 1", "count(19) = 1", "plan(0) = 1", "planned(0, 0) = 1",
                "plans() = 1", "mostCut() = 0", "tooHigh() = NONE", "why(1) = 0", "cutFrom(1, 0) = 0", "since(0) = NONE",
                "strand(0, 0) = 0", "scene(0, 0) = 600", "week(0, 0) = 2", "count(19) = 1", "undo() = 0",
                "count(19) = 0");
    }

    private static void undo() {
        Edge.due("undo: Returns the number of states that are left in the history; ILLEGAL_STATE if it is empty.",
                "undo() = ILLEGAL", "count(19) = 0", "ask(1) = 0", "ask(2) = 1", "undo() = 1", "undo() = 0",
                "undo() = ILLEGAL", "undo() = ILLEGAL", "count(19) = 0", "count(3) = 0");
        Edge.due("undo when something is set, and when all weeks have passed",
                "scenes a600!9", "set(1) = 600", "undo() = 1", "count(4) = 0", "30 times skip()", "count(2) = 30",
                "undo() = 5", "count(2) = 29", "set(1) = 600");
        Edge.due("undo: Removes the latest state: there is no way ahead again",
                "ask(1) = 0", "undo() = 0", "undo() = ILLEGAL", "count(3) = 0", "ask(5) = 0", "ask(6) = 5", "undo() = 1",
                "ask(7) = 5", "undo() = 1", "count(3) = 5", "undo() = 0", "count(3) = 0");
    }

    private static void errors() {
        Edge.due("A call that returns an error code changes nothing.",
                "scenes a600!9 b600!9", "text a1-1!1", "take(0) = 2", "ask(1) = 0", "set(1) = ILLEGAL", "ask(0) = 1",
                "set(1) = 600", "insert(0, 9, 0, 0, 0) = ILLEGAL", "remove(0) = ILLEGAL", "change(0, 3, 1) = ILLEGAL",
                "setWeek(0, 5, 0) = INVALID", "setNumber(1, 10) = INVALID", "ask(1000) = INVALID", "set(2) = ILLEGAL",
                "mend() = ILLEGAL", "skip() = ILLEGAL", "take(2) = INVALID", "restore(1) = ILLEGAL",
                "append(256) = INVALID", "read() = INVALID", "count(0) = 2", "count(4) = 1", "count(14) = 0",
                "count(20) = 6", "count(18) = 1", "scene(0, 3) = 9", "print() = 600");
        Edge.due("A call that returns an error code changes nothing: of a full object",
                "20 times insert(0, 30, 0, 0, 0)", "100 times append(97)", "insert(0, 9, 0, 0, 0) = FULL",
                "append(97) = FULL", "read() = -1001", "count(0) = 20", "count(20) = 100", "count(19) = 6");
    }

    private static void noneIsNoError() {
        Edge.due("NONE is no error, and it is returned only if no error condition applies.",
                "plan(0) = NONE", "plan(5) = INVALID", "planned(0, 0) = NONE", "planned(0, 3) = INVALID",
                "planned(-1, 0) = INVALID", "since(0) = NONE", "since(6) = INVALID", "count(17) = NONE",
                "count(21) = INVALID", "week(0, 3) = NONE", "week(30, 3) = INVALID", "week(0, 5) = INVALID",
                "scenes a600-5!9", "scene(0, 5) = NONE", "scene(1, 5) = INVALID", "scene(0, 7) = INVALID", "ask(6) = 0",
                "cutFrom(1, 0) = NONE", "cutFrom(1, 1) = INVALID", "cutFrom(2, 0) = INVALID", "cutFrom(0, 0) = INVALID");
    }
}
