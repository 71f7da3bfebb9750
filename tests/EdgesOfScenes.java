/** The boundaries that the Terms name for numbers, scenes, paper and cuts, a test for each sentence. */
final class EdgesOfScenes {
    private EdgesOfScenes() {
    }

    static void run() {
        rounding();
        lastCall();
        howManyScenes();
        partsOfAScene();
        numbersOfScenes();
        weeks();
        sheets();
        room();
        cut();
        wordsOfACut();
        halfOfTheSlack();
        tensionLost();
    }

    private static void rounding() {
        Edge.due("Where something is divided, the result is rounded down.",
                "setNumber(2, 19) = 400", "skip() = 19", "count(16) = 1", "skip() = 38", "count(16) = 4",
                "skip() = 57", "count(16) = 9", "setNumber(2, 3) = 19", "skip() = 60", "count(16) = 15");
    }

    private static void lastCall() {
        CliffSerial x = new CliffSerial();
        for (int call = 1; call <= 510; call++) {
            x.ask(call);
        }
        String sentence = "\"An object is used for at most 512 calls after it has been made\"";
        Check.due(sentence + ": the 511th call", x.undo(), 5);
        Check.due(sentence + ": the 512th call", x.count(3), 509);
    }

    private static void howManyScenes() {
        Edge.due("There are at most 20 scenes",
                "19 times insert(0, 7, 0, 0, 0)", "count(0) = 19", "insert(19, 8, 0, 0, 0) = 20",
                "insert(20, 9, 0, 0, 0) = FULL", "insert(0, 9, 0, 0, 0) = FULL", "count(0) = 20", "scene(19, 0) = 8",
                "scene(20, 0) = INVALID", "remove(0) = 19", "insert(19, 9, 0, 0, 0) = 20", "scene(19, 0) = 9");
        Edge.due("There are at most 20 scenes: the printed ones are among them",
                "scenes a600!9", "19 times insert(1, 7, 0, 1, 0)", "set(1) = 600", "print() = 600",
                "insert(20, 9, 0, 0, 0) = FULL", "insert(1, 9, 0, 0, 0) = FULL", "count(0) = 20", "count(1) = 1",
                "remove(19) = 19", "insert(1, 9, 0, 0, 0) = 20", "scene(1, 0) = 9", "scene(19, 0) = 7");
        Edge.due("in a row, numbered from 0",
                "scene(0, 0) = INVALID", "scenes a10!1 b20!2", "scene(-1, 0) = INVALID", "scene(0, 0) = 10",
                "scene(1, 0) = 20", "scene(2, 0) = INVALID");
        Edge.due("those that are printed are the first ones, the others are to come",
                "scenes a200!9 b200!9 c600!9", "set(2) = 400", "scene(0, 5) = NONE", "count(1) = 0", "print() = 400",
                "count(1) = 2", "scene(0, 5) = 0", "scene(1, 5) = 0", "scene(2, 5) = NONE",
                "change(1, 3, 0) = INVALID", "change(2, 3, 0) = 9");
    }

    private static void partsOfAScene() {
        Edge.due("A scene has 1 to 999 words",
                "insert(0, 0, 0, 0, 0) = INVALID", "insert(0, 1, 0, 0, 0) = 1", "insert(0, 999, 0, 0, 0) = 2",
                "insert(0, 1000, 0, 0, 0) = INVALID", "insert(0, -1, 0, 0, 0) = INVALID", "scene(0, 0) = 999",
                "scene(1, 0) = 1", "count(0) = 2");
        Edge.due("a slack (as many words as may be cut from it, 0 up to its words less 1)",
                "insert(0, 1, 0, 0, 0) = 1", "insert(0, 1, 1, 0, 0) = INVALID", "insert(0, 2, 1, 0, 0) = 2",
                "insert(0, 2, 2, 0, 0) = INVALID", "insert(0, 999, 998, 0, 0) = 3", "insert(0, 999, 999, 0, 0) = INVALID",
                "insert(0, 999, -1, 0, 0) = INVALID", "insert(0, 999, 0, 0, 0) = 4", "scene(0, 1) = 0",
                "scene(1, 1) = 998", "scene(2, 1) = 1", "scene(3, 1) = 0");
        Edge.due("a strand, 0 to 5",
                "insert(0, 9, 0, -1, 0) = INVALID", "insert(0, 9, 0, 0, 0) = 1", "insert(0, 9, 0, 5, 0) = 2",
                "insert(0, 9, 0, 6, 0) = INVALID", "scene(0, 2) = 5", "scene(1, 2) = 0");
        Edge.due("a tension, 0 to 9",
                "insert(0, 9, 0, 0, -1) = INVALID", "insert(0, 9, 0, 0, 0) = 1", "insert(0, 9, 0, 0, 9) = 2",
                "insert(0, 9, 0, 0, 10) = INVALID", "scene(0, 3) = 9", "scene(1, 3) = 0");
    }

    private static void numbersOfScenes() {
        Edge.due("When a scene is inserted, the numbers of those behind it change by 1",
                "scenes a11-1!1 b22-2!2", "insert(1, 33, 3, 2, 3) = 3", "scene(0, 0) = 11", "scene(1, 0) = 33",
                "scene(2, 0) = 22", "scene(2, 1) = 2", "scene(2, 2) = 1", "scene(2, 3) = 2", "insert(0, 44, 4, 3, 4) = 4",
                "scene(0, 0) = 44", "scene(1, 0) = 11", "scene(3, 0) = 22", "insert(4, 55, 5, 4, 5) = 5",
                "scene(3, 0) = 22", "scene(4, 0) = 55");
        Edge.due("When a scene is removed, the numbers of those behind it change by 1",
                "scenes a11-1!1 b22-2!2 c33-3!3 d44-4!4", "remove(1) = 3", "scene(0, 0) = 11", "scene(1, 0) = 33",
                "scene(1, 1) = 3", "scene(1, 2) = 2", "scene(1, 3) = 3", "scene(2, 0) = 44", "scene(3, 0) = INVALID",
                "remove(2) = 2", "scene(1, 0) = 33", "remove(0) = 1", "scene(0, 0) = 33", "remove(0) = 0",
                "scene(0, 0) = INVALID");
    }

    private static void weeks() {
        Edge.due("There are 30 weeks, numbered from 0",
                "week(-1, 0) = INVALID", "week(0, 0) = 2", "week(29, 0) = 2", "week(30, 0) = INVALID",
                "setWeek(-1, 1, 0) = INVALID", "setWeek(0, 1, 0) = 300", "setWeek(29, 1, 0) = 300",
                "setWeek(30, 1, 0) = INVALID", "29 times skip()", "count(2) = 29", "skip() = 12000", "count(2) = 30",
                "skip() = ILLEGAL", "count(2) = 30", "count(13) = 30", "week(29, 3) = 0");
        Edge.due("week 0 is the present one at first",
                "count(2) = 0", "week(0, 3) = NONE", "scenes a600!9", "set(1) = 600", "print() = 600", "scene(0, 5) = 0");
    }

    private static void sheets() {
        Edge.due("Each week has 1 to 4 sheets (at first 2)",
                "week(0, 0) = 2", "week(29, 0) = 2", "setWeek(3, 0, 0) = INVALID", "setWeek(3, -1, 0) = INVALID",
                "week(3, 0) = 2", "setWeek(3, 1, 0) = 300", "setWeek(3, 4, 0) = 1200", "setWeek(3, 5, 0) = INVALID",
                "week(3, 0) = 4", "week(2, 0) = 2", "week(4, 0) = 2");
        Edge.due("and adverts of 0 to 999 words (at first 0)",
                "week(0, 1) = 0", "week(29, 1) = 0", "setWeek(3, 4, -1) = INVALID", "setWeek(3, 4, 999) = 201",
                "setWeek(3, 4, 1000) = INVALID", "week(3, 1) = 999", "setWeek(3, 4, 0) = 1200", "week(3, 1) = 0",
                "week(2, 1) = 0", "week(4, 1) = 0");
        Edge.due("A sheet has room for 50 to 999 words (at first 300)",
                "count(5) = 300", "setNumber(0, 49) = INVALID", "setNumber(0, 50) = 300", "setNumber(0, 999) = 50",
                "setNumber(0, 1000) = INVALID", "count(5) = 999");
        Edge.due("the same in all weeks",
                "skip() = 400", "setNumber(0, 50) = 300", "week(0, 2) = 100", "week(1, 2) = 100", "week(15, 2) = 100",
                "week(29, 2) = 100");
    }

    private static void room() {
        Edge.due("The room of a week is its sheets times the words of a sheet, less its adverts",
                "week(4, 2) = 600", "setWeek(4, 3, 1) = 899", "week(4, 2) = 899", "setWeek(4, 4, 0) = 1200",
                "setNumber(0, 999) = 300", "week(4, 2) = 3996", "setWeek(4, 4, 999) = 2997");
        Edge.due("but at least 0",
                "setNumber(0, 50) = 300", "setWeek(4, 1, 49) = 1", "setWeek(4, 1, 50) = 0", "setWeek(4, 1, 51) = 0",
                "week(4, 2) = 0", "setWeek(4, 1, 999) = 0", "week(4, 2) = 0", "setNumber(0, 999) = 50",
                "week(4, 2) = 0", "setNumber(0, 998) = 999", "week(4, 2) = 0", "setWeek(4, 1, 997) = 1");
    }

    private static void cut() {
        Edge.due("For the present week a cut of 0 to 999 words is asked (at first 0 ..)",
                "count(3) = 0", "ask(-1) = INVALID", "ask(999) = 0", "ask(1000) = INVALID", "count(3) = 999",
                "ask(0) = 999", "count(3) = 0");
        Edge.due("and 0 again when a week has passed: by skipping",
                "ask(5) = 0", "skip() = 400", "count(3) = 0", "ask(6) = 0", "count(11) = 0");
        Edge.due("and 0 again when a week has passed: by printing",
                "scenes a600-10!9", "ask(5) = 0", "set(1) = 595", "count(3) = 5", "print() = 595", "count(3) = 0",
                "count(11) = 5");
        Edge.due("and 0 again when a week has passed: the last one",
                "29 times skip()", "ask(5) = 0", "skip() = 12000", "count(3) = 0");
    }

    private static void wordsOfACut() {
        Edge.due("from its last scene back to its first one: from each as many as its slack and the words that are left"
                + " to be cut allow",
                "scenes a300-10!9 b100!9 c100-20!9 d100-5!9", "cutFrom(4, 3) = 0", "cutFrom(4, 0) = 0",
                "ask(4) = 0", "cutFrom(4, 3) = 4", "cutFrom(4, 2) = 0", "cutFrom(4, 1) = 0", "cutFrom(4, 0) = 0",
                "ask(5) = 4", "cutFrom(4, 3) = 5", "cutFrom(4, 2) = 0",
                "ask(6) = 5", "cutFrom(4, 3) = 5", "cutFrom(4, 2) = 1", "cutFrom(4, 1) = 0", "cutFrom(4, 0) = 0",
                "ask(25) = 6", "cutFrom(4, 3) = 5", "cutFrom(4, 2) = 20", "cutFrom(4, 1) = 0", "cutFrom(4, 0) = 0",
                "ask(26) = 25", "cutFrom(4, 2) = 20", "cutFrom(4, 1) = 0", "cutFrom(4, 0) = 1",
                "ask(35) = 26", "cutFrom(4, 3) = 5", "cutFrom(4, 0) = 10",
                "ask(36) = 35", "cutFrom(4, 3) = NONE", "cutFrom(4, 0) = NONE");
        Edge.due("The words of a cut are taken from the scenes of an instalment: of no other one",
                "scenes a600-10!9 b600-200!9", "ask(10) = 0", "cutFrom(1, 0) = 10", "cutFrom(1, 1) = INVALID",
                "set(1) = 590", "print() = 590", "scene(0, 4) = 10", "scene(1, 4) = 0", "scene(1, 3) = 9",
                "ask(20) = 0", "cutFrom(1, 0) = INVALID", "cutFrom(1, 1) = 20");
        Edge.due("The words of a cut are taken: all that may be cut",
                "scenes a999-998!9 b2-1!9", "setNumber(0, 999) = 300", "setWeek(0, 1, 0) = 999", "ask(999) = 0",
                "why(2) = 0", "set(2) = 2", "print() = 2", "scene(0, 4) = 998", "scene(1, 4) = 1", "count(11) = 999",
                "count(10) = 2");
    }

    private static void halfOfTheSlack() {
        String more = "A scene from which more than half of its slack is cut (twice the words that are cut from it are"
                + " more than its slack): ";
        Edge.due(more + "an even slack",
                "setNumber(1, 6) = 5", "scenes a600-40!6 b600!9", "ask(20) = 0", "why(1) = 0", "ask(21) = 20",
                "why(1) = 5", "ask(20) = 21", "set(1) = 580", "print() = 580", "scene(0, 3) = 6", "count(15) = 1220");
        Edge.due(more + "an odd slack",
                "setNumber(1, 6) = 5", "scenes a600-41!6 b600!9", "ask(20) = 0", "why(1) = 0", "ask(21) = 20",
                "why(1) = 5", "setNumber(1, 4) = 6", "why(1) = 0", "set(1) = 579", "print() = 579", "scene(0, 3) = 4");
        Edge.due(more + "a slack of 1",
                "scenes a600-1!6", "ask(1) = 0", "set(1) = 599", "print() = 599", "scene(0, 3) = 4");
        Edge.due(more + "not a slack of 0, of which nothing is cut",
                "scenes a500-20!9 b100!7", "ask(10) = 0", "set(2) = 590", "print() = 590", "scene(1, 3) = 7",
                "scene(0, 3) = 9", "count(15) = 1250");
        Edge.due(more + "each scene by its own cut, 5 of 10",
                "scenes a200-10!9 b200-10!8 c200-10!7", "ask(15) = 0", "set(3) = 585", "print() = 585",
                "scene(0, 4) = 0", "scene(0, 3) = 9", "scene(1, 4) = 5", "scene(1, 3) = 8", "scene(2, 4) = 10",
                "scene(2, 3) = 5");
        Edge.due(more + "each scene by its own cut, 6 of 10",
                "scenes a200-10!9 b200-10!8 c200-10!7", "ask(16) = 0", "set(3) = 584", "print() = 584",
                "scene(1, 4) = 6", "scene(1, 3) = 6", "scene(0, 3) = 9");
    }

    private static void tensionLost() {
        for (int tension = 0; tension <= 9; tension++) {
            Edge.due("loses 2 of its tension, but it keeps at least 0: of " + tension,
                    "scenes a600-10!" + tension, "ask(6) = 0", "set(1) = 594", "print() = 594",
                    "scene(0, 3) = " + Math.max(0, tension - 2), "scene(0, 4) = 6",
                    "count(15) = " + (2 * 594 + 10 * Math.max(0, tension - 2)));
        }
        Edge.due("loses 2 of its tension, but it keeps at least 0: a cliff of 0 by a level of 0",
                "setNumber(1, 0) = 5", "scenes a600-10!1 b600!0 c600!0", "ask(10) = 0", "why(1) = 0",
                "change(1, 2, 0) = 1", "why(1) = 5", "change(0, 3, 3) = 1", "why(1) = 0");
    }
}
