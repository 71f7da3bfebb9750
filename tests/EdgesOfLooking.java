/** The boundaries that promises 1 and 19 to 25 name, a test for each sentence. */
final class EdgesOfLooking {
    private EdgesOfLooking() {
    }

    static void run() {
        newObject();
        countWhat();
        countsOfTheEnd();
        sceneWhat();
        sceneEndsAtACliff();
        weekWhat();
        why();
        cutFromArguments();
        cutFromNone();
        since();
        strandArguments();
        strandWords();
    }

    private static void newObject() {
        Edge.due("Creates a planner without scenes, with an empty text.",
                "count(0) = 0", "count(20) = 0", "scene(0, 0) = INVALID", "remove(0) = INVALID",
                "change(0, 0, 1) = INVALID",
                "set(1) = INVALID", "unset() = ILLEGAL", "mend() = ILLEGAL", "print() = ILLEGAL", "undo() = ILLEGAL",
                "read() = -1000", "clearText() = 0", "why(0) = 1", "why(1) = 1", "cutFrom(0, 0) = INVALID",
                "cutFrom(1, 0) = INVALID", "since(0) = NONE", "strand(0, 0) = 0", "strand(5, 1) = 0", "plan(0) = NONE",
                "planned(0, 0) = NONE", "plans() = 0", "mostCut() = NONE", "tooHigh() = 0");
    }

    private static void countWhat() {
        Edge.due("count: INVALID_ARGUMENT if what is out of range",
                "count(-1) = INVALID", "count(21) = INVALID", "count(MIN) = INVALID", "count(MAX) = INVALID",
                "count(0) = 0", "count(20) = 0");
        Edge.due("count: all of a new object",
                "count(0) = 0", "count(1) = 0", "count(2) = 0", "count(3) = 0", "count(4) = 0", "count(5) = 300",
                "count(6) = 5", "count(7) = 400", "count(8) = 2", "count(9) = 0", "count(10) = 0", "count(11) = 0",
                "count(12) = 0", "count(13) = 0", "count(14) = 0", "count(15) = 0", "count(16) = 0", "count(17) = NONE",
                "count(18) = 0", "count(19) = 0", "count(20) = 0");
        Edge.due("4 the number of scenes of what is set (0 if nothing is)",
                "count(4) = 0", "scenes a300!9 b300!9", "set(2) = 600", "count(4) = 2", "unset() = 2", "count(4) = 0",
                "set(2) = 600", "print() = 600", "count(4) = 0", "undo() = 5", "count(4) = 2");
        Edge.due("17 the strand of the last printed scene (NONE if there is none)",
                "scenes f600!9 a300!9 b300!9", "count(17) = NONE", "set(1) = 600", "count(17) = NONE", "print() = 600",
                "count(17) = 5", "skip() = 200", "count(17) = 5", "set(2) = 600", "print() = 600", "count(17) = 1",
                "insert(3, 9, 0, 4, 0) = 4", "count(17) = 1");
        Edge.due("18 the number of snapshots, 19 of states in the history, 20 the length of the text",
                "take(1) = 0", "take(1) = 0", "count(18) = 1", "take(0) = 0", "count(18) = 2", "count(19) = 3",
                "3 times take(0)", "count(19) = 6", "take(0) = 0", "count(19) = 6", "count(18) = 2",
                "100 times append(59)", "count(20) = 100");
    }

    private static void countsOfTheEnd() {
        Edge.due("2 the present week (30 if all have passed)",
                "count(2) = 0", "29 times skip()", "count(2) = 29", "skip() = 12000", "count(2) = 30", "skip() = ILLEGAL",
                "count(2) = 30");
        Edge.due("10 the words printed so far, 11 the words cut so far, 12 the number of instalments printed so far",
                "scenes a600-20!9 b600-20!8 c600-20!7", "ask(20) = 0", "set(1) = 580", "count(10) = 0", "count(11) = 0",
                "print() = 580", "count(10) = 580", "count(11) = 20", "count(12) = 1", "ask(7) = 0", "skip() = 220",
                "count(11) = 20", "count(12) = 1", "count(13) = 1", "set(1) = 600", "ask(1) = 0", "print() = 599",
                "count(10) = 1179", "count(11) = 21", "count(12) = 2", "count(14) = 1");
        Edge.due("1 of those that are printed: all twenty",
                "20 times insert(0, 30, 0, 0, 0)", "set(20) = 600", "print() = 600", "count(0) = 20", "count(1) = 20",
                "count(17) = 0");
    }

    private static void sceneWhat() {
        Edge.due("scene: INVALID_ARGUMENT if there is no such scene or what is out of range",
                "scene(0, 0) = INVALID", "scene(0, 5) = INVALID", "scenes a10-2!3", "scene(-1, 0) = INVALID",
                "scene(1, 0) = INVALID", "scene(MAX, 0) = INVALID", "scene(MIN, 0) = INVALID", "scene(0, -1) = INVALID",
                "scene(0, 7) = INVALID", "scene(0, MAX) = INVALID", "scene(0, MIN) = INVALID", "scene(0, 0) = 10",
                "scene(0, 6) = 0");
        Edge.due("scene: the last of twenty",
                "19 times insert(0, 7, 0, 1, 0)", "insert(19, 8, 1, 2, 3) = 20", "scene(19, 0) = 8", "scene(19, 1) = 1",
                "scene(19, 2) = 2", "scene(19, 3) = 3", "scene(19, 4) = 0", "scene(19, 5) = NONE", "scene(19, 6) = 0",
                "scene(20, 0) = INVALID");
        Edge.due("0 its words, 1 its slack (both as they were ahead of a cut)",
                "scenes a600-30!9", "ask(30) = 0", "set(1) = 570", "print() = 570", "scene(0, 0) = 600",
                "scene(0, 1) = 30");
        Edge.due("3 its tension (of a printed one less what it lost by a cut), 4 the words that were cut from it",
                "scenes a600-30!9 b600-30!9", "ask(16) = 0", "scene(0, 3) = 9", "scene(0, 4) = 0", "set(1) = 584",
                "scene(0, 3) = 9", "scene(0, 4) = 0", "print() = 584", "scene(0, 3) = 7", "scene(0, 4) = 16",
                "scene(1, 3) = 9", "scene(1, 4) = 0", "set(1) = 600", "print() = 600", "scene(1, 3) = 9",
                "scene(1, 4) = 0");
        Edge.due("5 the week in which it was printed (NONE if it is to come)",
                "scenes a600!9 b600!9", "scene(0, 5) = NONE", "set(1) = 600", "scene(0, 5) = NONE", "print() = 600",
                "scene(0, 5) = 0", "scene(1, 5) = NONE", "28 times skip()", "set(1) = 600", "print() = 600",
                "scene(1, 5) = 29", "scene(0, 5) = 0");
    }

    private static void sceneEndsAtACliff() {
        Edge.due("6 1 if an instalment that ends with it (and has no cut) ends at a cliff",
                "scenes a600-10!5 a600!4 b600!9 c600!9", "scene(0, 6) = 1", "ask(10) = 0", "scene(0, 6) = 1",
                "why(1) = 5", "scene(1, 6) = 0", "scene(2, 6) = 1", "change(1, 3, 5) = 4", "scene(0, 6) = 0",
                "scene(1, 6) = 1", "change(0, 3, 9) = 5", "scene(0, 6) = 1");
        Edge.due("by its tension (as told for 3), the scene behind it and the level as they are now",
                "scenes a600-10!7 a600-10!6 b600!9", "scene(0, 6) = 1", "ask(6) = 0", "set(1) = ILLEGAL",
                "change(1, 3, 4) = 6", "set(1) = 594", "print() = 594", "scene(0, 3) = 5", "scene(0, 6) = 1",
                "change(1, 3, 5) = 4", "scene(0, 6) = 0", "change(1, 2, 2) = 0", "scene(0, 6) = 1",
                "setNumber(1, 6) = 5", "scene(0, 6) = 0", "setNumber(1, 5) = 6", "scene(0, 6) = 1");
        Edge.due("the scene behind it as it is now: it is printed, too, and has lost tension",
                "scenes a300!6 a300-20!7 b600!9", "scene(0, 6) = 0", "ask(11) = 0", "set(2) = 589", "print() = 589",
                "scene(1, 3) = 5", "scene(0, 6) = 1");
        Edge.due("and 0 if not (also for the last of all scenes)",
                "setNumber(1, 0) = 5", "scenes a600!9", "scene(0, 6) = 0", "scenes b600!9", "scene(0, 6) = 1",
                "scene(1, 6) = 0", "set(1) = 600", "print() = 600", "scene(0, 6) = 1", "remove(1) = 1",
                "scene(0, 6) = 0");
        Edge.due("also for the last of all scenes: of twenty",
                "setNumber(1, 0) = 5", "19 times insert(0, 7, 0, 1, 9)", "insert(19, 8, 1, 2, 9) = 20",
                "scene(18, 6) = 1", "scene(19, 6) = 0", "scene(17, 6) = 0");
    }

    private static void weekWhat() {
        Edge.due("week: 0 to 29; INVALID_ARGUMENT if an argument is out of range",
                "week(-1, 0) = INVALID", "week(30, 0) = INVALID", "week(MAX, 0) = INVALID", "week(MIN, 0) = INVALID",
                "week(0, -1) = INVALID", "week(0, 5) = INVALID", "week(0, MAX) = INVALID", "week(0, MIN) = INVALID",
                "week(29, 4) = NONE", "week(29, 2) = 600", "week(0, 0) = 2");
        Edge.due("2 its room",
                "setWeek(29, 1, 999) = 0", "week(29, 2) = 0", "setWeek(29, 4, 0) = 1200", "week(29, 2) = 1200",
                "week(28, 2) = 600", "skip() = 400", "week(0, 2) = 600", "setNumber(0, 999) = 300", "week(0, 2) = 1998");
        Edge.due("3 the words printed in it (NONE if it has not passed; 0 if it was skipped)",
                "scenes a600-20!9 b600!9", "week(0, 3) = NONE", "set(1) = 600", "week(0, 3) = NONE", "ask(20) = 0",
                "print() = 580", "week(0, 3) = 580", "week(1, 3) = NONE", "skip() = 220", "week(1, 3) = 0",
                "week(2, 3) = NONE", "27 times skip()", "week(29, 3) = NONE", "set(1) = 600", "print() = 600",
                "week(29, 3) = 600");
        Edge.due("4 the number of scenes printed in it (NONE if it has not passed; 0 if it was skipped)",
                "scenes a200!9 b200!9 c600!9", "week(0, 4) = NONE", "set(2) = 400", "week(0, 4) = NONE",
                "print() = 400", "week(0, 4) = 2", "week(1, 4) = NONE", "skip() = 400", "week(1, 4) = 0",
                "week(2, 4) = NONE", "27 times skip()", "week(29, 4) = NONE", "skip() = 11600", "week(29, 4) = 0");
    }

    private static void why() {
        Edge.due("why: Returns the first reason, 1 to 6, or 0 if it is good",
                "scenes a600-5!9 a600!8 b600!9", "why(0) = 1", "why(-1) = 1", "why(4) = 1", "why(MIN) = 1",
                "why(MAX) = 1", "why(1) = 0", "why(2) = 3", "ask(6) = 0", "why(1) = 2", "ask(0) = 6",
                "setWeek(0, 4, 0) = 1200", "why(1) = 4", "why(2) = 0", "setWeek(0, 2, 0) = 600", "setNumber(1, 9) = 5",
                "why(1) = 0", "set(1) = 600", "print() = 600", "why(1) = 5", "setNumber(1, 8) = 9", "why(1) = 6");
        Edge.due("why: for the present week, with the cut",
                "scenes a650-50!9 b600!9", "why(1) = 3", "ask(49) = 0", "why(1) = 3", "ask(50) = 49", "why(1) = 0",
                "setWeek(1, 1, 0) = 300", "why(1) = 0", "skip() = 400", "why(1) = 3");
        Edge.due("why: ILLEGAL_STATE if all weeks have passed.",
                "scenes a600!9", "29 times skip()", "why(1) = 0", "why(0) = 1", "skip() = 12000", "why(1) = ILLEGAL",
                "why(0) = ILLEGAL", "why(-1) = ILLEGAL", "why(2) = ILLEGAL", "why(MAX) = ILLEGAL", "why(MIN) = ILLEGAL");
        Edge.due("why: also when something is set",
                "scenes a350!9 b200!9 c600!9", "set(1) = 350", "why(1) = 0", "why(2) = 0", "why(3) = 3", "why(4) = 1");
    }

    private static void cutFromArguments() {
        Edge.due("cutFrom: INVALID_ARGUMENT if scenes is less than 1 or more than are to come",
                "cutFrom(0, 0) = INVALID", "cutFrom(1, 0) = INVALID", "scenes a600-30!9 b600-30!9",
                "cutFrom(0, 0) = INVALID", "cutFrom(-1, 0) = INVALID", "cutFrom(MIN, 0) = INVALID", "cutFrom(2, 0) = 0",
                "cutFrom(3, 0) = INVALID", "cutFrom(MAX, 0) = INVALID", "set(1) = 600", "print() = 600",
                "cutFrom(2, 1) = INVALID", "cutFrom(1, 1) = 0");
        Edge.due("cutFrom: or the scene is none of these",
                "scenes a600-30!9 b300-30!9 c300-30!9", "cutFrom(2, -1) = INVALID", "cutFrom(2, 0) = 0",
                "cutFrom(2, 1) = 0", "cutFrom(2, 2) = INVALID", "cutFrom(3, 2) = 0", "cutFrom(3, 3) = INVALID",
                "cutFrom(3, MAX) = INVALID", "cutFrom(3, MIN) = INVALID", "set(1) = 600", "print() = 600",
                "cutFrom(1, 0) = INVALID", "cutFrom(1, 1) = 0", "cutFrom(1, 2) = INVALID", "cutFrom(2, 0) = INVALID",
                "cutFrom(2, 2) = 0", "cutFrom(2, 3) = INVALID");
        Edge.due("cutFrom: INVALID_ARGUMENT when none are to come",
                "scenes a600!9", "set(1) = 600", "print() = 600", "cutFrom(1, 0) = INVALID", "cutFrom(1, 1) = INVALID",
                "cutFrom(0, 1) = INVALID");
        Edge.due("cutFrom: of twenty scenes",
                "20 times insert(0, 50, 49, 0, 0)", "ask(931) = 0", "cutFrom(20, 0) = 0", "cutFrom(20, 1) = 49",
                "cutFrom(20, 19) = 49", "cutFrom(20, 20) = INVALID", "cutFrom(21, 0) = INVALID", "ask(932) = 931",
                "cutFrom(20, 0) = 1");
    }

    private static void cutFromNone() {
        Edge.due("cutFrom: NONE if the slacks of these scenes are together less than the cut.",
                "scenes a300-10!9 b300-20!9", "ask(20) = 0", "cutFrom(1, 0) = NONE", "cutFrom(2, 0) = 0",
                "cutFrom(2, 1) = 20", "ask(30) = 20", "cutFrom(2, 0) = 10", "cutFrom(2, 1) = 20", "ask(31) = 30",
                "cutFrom(2, 0) = NONE", "cutFrom(2, 1) = NONE", "ask(10) = 31", "cutFrom(1, 0) = 10");
        Edge.due("cutFrom: INVALID_ARGUMENT goes ahead of NONE",
                "scenes a300-10!9 b300-20!9", "ask(31) = 0", "cutFrom(2, 2) = INVALID", "cutFrom(3, 0) = INVALID",
                "cutFrom(0, 0) = INVALID", "cutFrom(1, 1) = INVALID", "cutFrom(1, 0) = NONE");
        Edge.due("cutFrom: a cut is asked when all weeks have passed, too",
                "scenes a300-10!9", "30 times skip()", "cutFrom(1, 0) = 0", "ask(10) = 0", "cutFrom(1, 0) = 10",
                "ask(11) = 10", "cutFrom(1, 0) = NONE", "cutFrom(2, 0) = INVALID");
        Edge.due("cutFrom: also from what is not good",
                "scenes a999-10!0 a999-20!9", "ask(25) = 0", "why(2) = 3", "cutFrom(2, 0) = 5", "cutFrom(2, 1) = 20");
    }

    private static void since() {
        Edge.due("since: strand: 0 to 5",
                "since(-1) = INVALID", "since(6) = INVALID", "since(MAX) = INVALID", "since(MIN) = INVALID",
                "since(0) = NONE", "since(5) = NONE");
        Edge.due("since: (0: it was printed in the week before the present one)",
                "scenes a300!9 f300!9 a600!9", "set(2) = 600", "since(0) = NONE", "since(5) = NONE", "print() = 600",
                "since(0) = 0", "since(5) = 0", "since(1) = NONE", "skip() = 200", "since(0) = 1", "set(1) = 600",
                "print() = 600", "since(0) = 0", "since(5) = 2");
        Edge.due("since: when all weeks have passed",
                "scenes a600!9 b600!9", "set(1) = 600", "print() = 600", "28 times skip()", "set(1) = 600",
                "print() = 600", "count(2) = 30", "since(0) = 29", "since(1) = 0");
        Edge.due("since: NONE if no scene of it was printed",
                "scenes a600!9 b600!9", "since(0) = NONE", "skip() = 400", "since(0) = NONE", "set(1) = 600",
                "print() = 600", "since(1) = NONE", "undo() = 4", "since(0) = NONE");
    }

    private static void strandArguments() {
        Edge.due("strand: INVALID_ARGUMENT if an argument is out of range",
                "strand(-1, 0) = INVALID", "strand(6, 0) = INVALID", "strand(MAX, 1) = INVALID",
                "strand(MIN, 1) = INVALID", "strand(0, -1) = INVALID", "strand(0, 2) = INVALID",
                "strand(0, MAX) = INVALID", "strand(0, MIN) = INVALID", "strand(0, 0) = 0", "strand(5, 1) = 0");
    }

    private static void strandWords() {
        Edge.due("0 for those that were printed, less what was cut from them, 1 for those to come, without a cut",
                "scenes a300-20!9 f300-10!9 a600-50!9", "strand(0, 0) = 0", "strand(0, 1) = 900", "strand(5, 1) = 300",
                "ask(25) = 0", "strand(0, 1) = 900", "set(2) = 575", "strand(0, 0) = 0", "strand(5, 1) = 300",
                "print() = 575", "strand(0, 0) = 285", "strand(5, 0) = 290", "strand(0, 1) = 600", "strand(5, 1) = 0",
                "ask(50) = 0", "strand(0, 1) = 600", "set(1) = 550", "print() = 550", "strand(0, 0) = 835",
                "strand(0, 1) = 0");
        Edge.due("strand: of twenty scenes",
                "20 times insert(0, 999, 0, 3, 0)", "strand(3, 1) = 19980", "strand(2, 1) = 0", "strand(4, 1) = 0",
                "strand(3, 0) = 0");
    }
}
