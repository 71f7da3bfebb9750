/** The boundaries that the Terms name for instalments, a week and money, a test for each sentence. */
final class EdgesOfInstalments {
    private EdgesOfInstalments() {
    }

    static void run() {
        whichScenes();
        slackOfTheCut();
        tooManyWords();
        aSheetLess();
        noCliff();
        sameStrand();
        firstReason();
        endOfTheNovel();
        cliffs();
        whileOneIsSet();
        lateCuts();
        goodAsTheyAreNow();
        mending();
        mendingFar();
        printing();
        lastWeek();
        owedWords();
        fines();
        earned();
    }

    private static void whichScenes() {
        Edge.due("An instalment is made of scenes to come, from the first of these on",
                "scenes a600!9 b301!9 c302!8 d303!9", "set(1) = 600", "print() = 600", "set(1) = 301", "print() = 301",
                "why(2) = 3", "setWeek(2, 3, 0) = 900", "set(2) = 605", "print() = 605", "week(2, 4) = 2",
                "scene(1, 5) = 1", "scene(2, 5) = 2", "scene(3, 5) = 2");
        Edge.due("1. It has no scene",
                "scenes a600!9", "why(0) = 1", "why(-1) = 1", "why(MIN) = 1", "set(0) = INVALID", "why(1) = 0");
        Edge.due("1. or more scenes than are to come",
                "scenes a600!9 b600!9", "why(1) = 0", "why(2) = 3", "why(3) = 1", "why(MAX) = 1", "set(3) = INVALID",
                "set(1) = 600", "print() = 600", "why(1) = 0", "why(2) = 1", "set(2) = INVALID", "set(1) = 600",
                "print() = 600", "why(1) = 1", "why(0) = 1", "set(1) = INVALID");
        Edge.due("1. or more scenes than are to come: none are there",
                "why(0) = 1", "why(1) = 1", "why(20) = 1", "set(1) = INVALID");
        Edge.due("1. or more scenes than are to come: twenty are",
                "20 times insert(0, 30, 0, 0, 0)", "why(20) = 0", "why(21) = 1", "set(21) = INVALID", "set(20) = 600",
                "print() = 600", "count(1) = 20", "why(1) = 1");
    }

    private static void slackOfTheCut() {
        Edge.due("2. The slacks of its scenes are together less than the cut.",
                "scenes a300-10!9 b100-20!9 c600!9", "ask(30) = 0", "why(2) = 0", "ask(31) = 30", "why(2) = 2",
                "set(2) = ILLEGAL", "ask(30) = 31", "set(2) = 370");
        Edge.due("2. The slacks are together less than the cut: no slack, and a cut of 0 or 1",
                "scenes a600!9", "ask(0) = 0", "why(1) = 0", "ask(1) = 0", "why(1) = 2");
        Edge.due("2. The slacks are together less than the cut: the greatest cut",
                "scenes a999-500!9 b500-499!9", "ask(999) = 0", "why(2) = 0", "change(1, 1, 498) = 499", "why(2) = 2");
    }

    private static void tooManyWords() {
        Edge.due("3. Its words less the cut are more than the room of the week.",
                "scenes a600!9 b600!9", "why(1) = 0", "change(0, 0, 601) = 600", "why(1) = 3", "change(0, 1, 1) = 0",
                "why(1) = 3", "ask(1) = 0", "why(1) = 0", "setWeek(0, 2, 1) = 599", "why(1) = 3", "set(1) = ILLEGAL",
                "setWeek(1, 4, 0) = 1200", "why(1) = 3", "setWeek(0, 2, 0) = 600", "set(1) = 600");
        Edge.due("3. Its words are more than the room of the week: of 0",
                "scenes a1!9", "setWeek(0, 1, 300) = 0", "why(1) = 3", "setWeek(0, 1, 999) = 0", "why(1) = 3",
                "setWeek(0, 1, 299) = 1", "why(1) = 0", "change(0, 0, 2) = 1", "why(1) = 3");
        Edge.due("3. Its words are more than the room of the week: of the present one",
                "scenes a600!9", "setWeek(1, 3, 299) = 601", "setWeek(2, 2, 1) = 599", "why(1) = 0", "skip() = 400",
                "why(1) = 0", "skip() = 800", "why(1) = 3", "skip() = 1200", "why(1) = 0");
    }

    private static void aSheetLess() {
        Edge.due("4. Its words less the cut are not more than the room of the week less the words of a sheet",
                "scenes a300!9 b600!9", "why(1) = 4", "set(1) = ILLEGAL", "change(0, 0, 301) = 300", "why(1) = 0",
                "change(0, 1, 2) = 0", "ask(1) = 0", "why(1) = 4", "setWeek(0, 2, 1) = 599", "why(1) = 0",
                "ask(2) = 1", "why(1) = 4", "set(1) = ILLEGAL", "ask(1) = 2", "set(1) = 300");
        Edge.due("4. (the paper would need a sheet less): not with one sheet",
                "scenes a1!9 b600!9", "setWeek(0, 1, 0) = 300", "why(1) = 0", "setWeek(0, 2, 298) = 302", "why(1) = 4",
                "setWeek(0, 2, 299) = 301", "why(1) = 4", "setWeek(0, 2, 300) = 300", "why(1) = 0", "set(1) = 1");
        Edge.due("4. (the paper would need a sheet less): by the words of a sheet",
                "scenes a600!9 b600!9", "setNumber(0, 600) = 300", "why(1) = 4", "setNumber(0, 599) = 600",
                "why(1) = 0", "setNumber(0, 300) = 599", "why(1) = 0", "setNumber(0, 299) = 300", "why(1) = 3");
        Edge.due("4. (the paper would need a sheet less): of four sheets",
                "scenes a999!9 b999!9", "setNumber(0, 500) = 300", "setWeek(0, 4, 2) = 1998", "why(2) = 0",
                "setWeek(0, 4, 3) = 1997", "why(2) = 3", "setNumber(0, 666) = 500", "setWeek(0, 4, 0) = 2664",
                "why(2) = 4", "setNumber(0, 665) = 666", "why(2) = 0");
    }

    private static void noCliff() {
        Edge.due("5. It does not end at a cliff.",
                "scenes a600!4 b600!9", "why(1) = 5", "set(1) = ILLEGAL", "change(0, 3, 5) = 4", "why(1) = 0",
                "change(1, 2, 0) = 1", "why(1) = 5", "change(1, 3, 5) = 9", "why(1) = 5", "set(1) = ILLEGAL",
                "change(1, 3, 4) = 5", "set(1) = 600");
        Edge.due("5. It does not end at a cliff: its other scenes need none",
                "scenes a200!0 a200!9 a200!5 b600!9", "why(3) = 0", "change(2, 3, 4) = 5", "why(3) = 5");
    }

    private static void sameStrand() {
        Edge.due("6. Its last scene is of the same strand as the last scene of the instalment before it",
                "scenes a600!9 a600!8 c600!9", "set(1) = 600", "print() = 600", "why(1) = 6", "set(1) = ILLEGAL",
                "change(1, 2, 1) = 0", "why(1) = 0", "change(1, 2, 5) = 1", "set(1) = 600");
        Edge.due("6. the last scene of the instalment, not its first one",
                "scenes a200!9 b400!8 a200!9 a400!8 c600!9", "set(2) = 600", "print() = 600", "why(2) = 0",
                "change(3, 2, 1) = 0", "why(2) = 6", "change(2, 2, 1) = 0", "why(2) = 6", "change(3, 2, 0) = 1",
                "why(2) = 0");
        Edge.due("6. (that was printed latest ..)",
                "scenes a600!9 b600!9 a600!9 d600!9 c600!9", "set(1) = 600", "print() = 600", "set(1) = 600",
                "print() = 600", "why(1) = 0", "change(2, 2, 1) = 0", "why(1) = 6");
        Edge.due("6. (.. whether weeks were skipped or not)",
                "scenes a600!9 a600!8 c600!9", "set(1) = 600", "print() = 600", "skip() = 200", "why(1) = 6",
                "skip() = 600", "why(1) = 6", "set(1) = ILLEGAL", "change(1, 2, 4) = 0", "why(1) = 0");
        Edge.due("6. of no instalment before it",
                "scenes a600!9 b600!9", "why(1) = 0", "skip() = 400", "why(1) = 0", "set(1) = 600");
    }

    private static void firstReason() {
        String first = "the first one that applies is told: ";
        Edge.due(first + "1 ahead of 2",
                "scenes a600-10!9 b600!9", "ask(11) = 0", "why(0) = 1", "why(3) = 1", "why(1) = 2", "why(2) = 2");
        Edge.due(first + "2 ahead of 3",
                "scenes a700-10!9 b600!9", "ask(11) = 0", "why(1) = 2", "ask(10) = 11", "why(1) = 3");
        Edge.due(first + "2 ahead of 4",
                "scenes a200-10!9 b600!9", "ask(11) = 0", "why(1) = 2", "ask(10) = 11", "why(1) = 4");
        Edge.due(first + "2 ahead of 5",
                "scenes a600!4 b600!9", "ask(1) = 0", "why(1) = 2", "ask(0) = 1", "why(1) = 5");
        Edge.due(first + "3 ahead of 5",
                "scenes a601!4 b600!9", "why(1) = 3", "change(0, 0, 600) = 601", "why(1) = 5");
        Edge.due(first + "4 ahead of 5",
                "scenes a300!4 b600!9", "why(1) = 4", "change(0, 0, 301) = 300", "why(1) = 5");
        Edge.due(first + "2, 3, 4 and 5 ahead of 6",
                "scenes a600!9 a600!8 b600!9", "set(1) = 600", "print() = 600", "why(1) = 6", "ask(1) = 0",
                "why(1) = 2", "ask(0) = 1", "change(1, 0, 601) = 600", "why(1) = 3", "change(1, 0, 300) = 601",
                "why(1) = 4", "change(1, 0, 301) = 300", "why(1) = 6", "change(1, 3, 4) = 8", "why(1) = 5");
    }

    private static void endOfTheNovel() {
        Edge.due("An instalment that ends with the last of all scenes ends the novel: the reasons 5 and 6 do not apply",
                "scenes a600!9 a600!0", "set(1) = 600", "print() = 600", "why(1) = 0", "insert(2, 600, 0, 1, 9) = 3",
                "why(1) = 5", "change(1, 3, 5) = 0", "why(1) = 6", "remove(2) = 2", "why(1) = 0", "set(1) = 600",
                "print() = 600", "count(15) = 2540");
        Edge.due("the reasons 5 and 6 do not apply: those from 1 to 4 do",
                "scenes a600-5!0", "why(2) = 1", "why(0) = 1", "ask(6) = 0", "why(1) = 2", "ask(0) = 6",
                "change(0, 0, 601) = 600", "why(1) = 3", "change(0, 0, 300) = 601", "why(1) = 4",
                "change(0, 0, 301) = 300", "why(1) = 0");
        Edge.due("An instalment that ends with the last of all scenes: others may be put behind it later",
                "scenes a600!0", "set(1) = 600", "print() = 600", "insert(1, 600, 0, 0, 9) = 2", "why(1) = 0",
                "insert(2, 600, 0, 1, 0) = 3", "why(1) = 6", "change(1, 2, 2) = 0", "why(1) = 0");
    }

    private static void cliffs() {
        Edge.due("if the tension of its last scene is at least the level, 0 to 9 (at first 5)",
                "count(6) = 5", "scenes a600!4 b600!9", "why(1) = 5", "change(0, 3, 5) = 4", "why(1) = 0",
                "setNumber(1, 10) = INVALID", "setNumber(1, 9) = 5", "why(1) = 5", "change(0, 3, 8) = 5", "why(1) = 5",
                "change(0, 3, 9) = 8", "why(1) = 0", "setNumber(1, -1) = INVALID", "setNumber(1, 0) = 9",
                "change(0, 3, 0) = 9", "why(1) = 0");
        Edge.due("(less what that loses by the cut)",
                "scenes a600-10!7 b600!9", "setNumber(1, 6) = 5", "ask(5) = 0", "why(1) = 0", "ask(6) = 5",
                "why(1) = 5", "setNumber(1, 5) = 6", "why(1) = 0");
        Edge.due("and the scene behind it is of another strand or has less tension than this",
                "scenes a600!7 a600!7", "why(1) = 5", "change(1, 3, 6) = 7", "why(1) = 0", "change(1, 3, 8) = 6",
                "why(1) = 5", "change(1, 2, 1) = 0", "why(1) = 0", "change(1, 3, 9) = 8", "why(1) = 0",
                "change(0, 2, 1) = 0", "why(1) = 5");
        Edge.due("less tension than this: than what the cut leaves",
                "scenes a600-10!8 a600!7", "ask(5) = 0", "why(1) = 0", "ask(6) = 5", "why(1) = 5",
                "change(1, 3, 6) = 7", "why(1) = 5", "change(1, 3, 5) = 6", "why(1) = 0");
    }

    private static void whileOneIsSet() {
        Edge.due("An instalment that is good for the present week can be set.",
                "scenes a601!9 b600!9", "set(1) = ILLEGAL", "count(4) = 0", "change(0, 0, 600) = 601", "set(1) = 600",
                "count(4) = 1", "set(1) = ILLEGAL", "count(4) = 1");
        Edge.due("While one is set, scenes cannot be inserted, removed or changed.",
                "scenes a600!9 b600!9", "text c9!1", "set(1) = 600", "insert(0, 9, 0, 0, 0) = ILLEGAL",
                "insert(2, 9, 0, 0, 0) = ILLEGAL", "remove(0) = ILLEGAL", "remove(1) = ILLEGAL",
                "change(0, 3, 9) = ILLEGAL", "change(1, 3, 9) = ILLEGAL", "read() = ILLEGAL", "count(0) = 2",
                "count(20) = 4", "unset() = 1", "insert(2, 9, 0, 0, 0) = 3", "remove(2) = 2", "change(1, 3, 8) = 9",
                "read() = 1");
        Edge.due("While one is set, scenes cannot be inserted: all else can be done",
                "scenes a600!9 b600!9", "set(1) = 600", "setWeek(0, 2, 0) = 600", "setNumber(1, 5) = 5", "ask(0) = 0",
                "take(0) = 2", "restore(0) = 2", "undo() = 5", "count(4) = 1", "print() = 600");
    }

    private static void lateCuts() {
        Edge.due("Each cut that is asked then (also one as great as before) is late.",
                "scenes a600-20!9 b600!9", "ask(0) = 0", "count(14) = 0", "set(1) = 600", "count(14) = 0", "ask(5) = 0",
                "count(14) = 1", "ask(5) = 5", "count(14) = 2", "ask(0) = 5", "count(14) = 3", "ask(0) = 0",
                "count(14) = 4", "ask(-1) = INVALID", "ask(1000) = INVALID", "count(14) = 4", "unset() = 1",
                "ask(5) = 0", "count(14) = 4", "set(1) = 595", "print() = 595", "ask(5) = 0", "count(14) = 4");
        Edge.due("Each cut that is asked then is late: also by which what is set is not good any more",
                "scenes a600-20!9 b600!9", "set(1) = 600", "ask(999) = 0", "count(14) = 1", "why(1) = 2", "ask(1) = 999",
                "count(14) = 2");
    }

    private static void goodAsTheyAreNow() {
        String now = "What is set can be printed if it is good (by the cut, the paper and the level as they are now): ";
        Edge.due(now + "the cut",
                "scenes a600-100!7 b600!9", "setNumber(1, 6) = 5", "set(1) = 600", "ask(51) = 0", "print() = ILLEGAL",
                "ask(101) = 51", "print() = ILLEGAL", "ask(50) = 101", "print() = 550");
        Edge.due(now + "the paper",
                "scenes a600!7 b600!9", "set(1) = 600", "setWeek(0, 2, 1) = 599", "print() = ILLEGAL",
                "setWeek(1, 4, 0) = 1200", "print() = ILLEGAL", "setWeek(0, 2, 0) = 600", "print() = 600");
        Edge.due(now + "the paper would need a sheet less",
                "scenes a600!7 b600!9", "set(1) = 600", "setWeek(0, 3, 0) = 900", "print() = ILLEGAL",
                "setWeek(0, 3, 1) = 899", "print() = 600");
        Edge.due(now + "the words of a sheet",
                "scenes a600!7 b600!9", "set(1) = 600", "setNumber(0, 299) = 300", "print() = ILLEGAL",
                "setNumber(0, 600) = 299", "print() = ILLEGAL", "setNumber(0, 599) = 600", "print() = 600");
        Edge.due(now + "the level",
                "scenes a600!7 b600!9", "set(1) = 600", "setNumber(1, 8) = 5", "print() = ILLEGAL", "count(1) = 0",
                "count(2) = 0", "setNumber(1, 7) = 8", "print() = 600");
    }

    private static void mending() {
        Edge.due("otherwise it can be mended",
                "scenes a350!9 b200!9 c600!9", "mend() = ILLEGAL", "set(2) = 550", "mend() = ILLEGAL",
                "setWeek(0, 2, 51) = 549", "mend() = 1", "count(4) = 1", "mend() = ILLEGAL", "print() = 350");
        Edge.due("the one is set in its place whose number of scenes differs least: the nearer one has more scenes",
                "setNumber(1, 8) = 5", "scenes a350-60!9 b20-2!9 c20-2!9 d100-9!9 e600!9", "set(3) = 390",
                "ask(2) = 0", "why(1) = 0", "why(2) = 5", "why(3) = 5", "why(4) = 0", "mend() = 4", "print() = 488");
        Edge.due("the one is set in its place whose number of scenes differs least: the nearer one has fewer scenes",
                "setNumber(1, 8) = 5", "scenes a350-60!9 b20-2!9 c20-2!9 d100-9!9 e600!9", "set(2) = 370",
                "ask(2) = 0", "why(1) = 0", "why(2) = 5", "why(3) = 5", "why(4) = 0", "mend() = 1", "print() = 348");
        Edge.due("(of two the one with fewer scenes)",
                "setNumber(1, 8) = 5", "scenes a350-60!9 b20-2!9 c100-9!9 d600!9", "set(2) = 370", "ask(2) = 0",
                "why(1) = 0", "why(2) = 5", "why(3) = 0", "mend() = 1", "print() = 348");
        Edge.due("of the instalments that are good now: there is none",
                "scenes a600!9 b600!9", "set(1) = 600", "setWeek(0, 1, 0) = 300", "mend() = ILLEGAL", "count(4) = 1",
                "setWeek(0, 1, 300) = 0", "mend() = ILLEGAL", "setWeek(0, 4, 0) = 1200", "mend() = 2");
    }

    private static void mendingFar() {
        Edge.due("whose number of scenes differs least from that of what was set: 1 and 20",
                "19 times insert(0, 50, 0, 1, 4)", "insert(0, 50, 0, 0, 9) = 20", "setWeek(0, 1, 0) = 300",
                "set(1) = 50", "setWeek(0, 4, 0) = 1200", "why(19) = 5", "why(20) = 0", "mend() = 20", "count(4) = 20",
                "setWeek(0, 1, 0) = 300", "mend() = 1", "setWeek(0, 4, 0) = 1200", "mend() = 20", "print() = 1000");
        Edge.due("whose number of scenes differs least: not beyond the scenes that are to come",
                "scenes a600!9 b350!9 c200!9", "set(1) = 600", "print() = 600", "set(2) = 550",
                "setWeek(1, 2, 51) = 549", "mend() = 1", "setWeek(1, 3, 250) = 650", "mend() = 2", "print() = 550",
                "mend() = ILLEGAL");
    }

    private static void printing() {
        Edge.due("When an instalment is printed, its scenes are printed, with the words that are cut from them",
                "scenes a400-100!7 b100-50!1 c100-40!8 d600!6", "set(3) = 600", "ask(100) = 0", "print() = 500",
                "count(1) = 3", "scene(0, 4) = 10", "scene(1, 4) = 50", "scene(2, 4) = 40", "scene(3, 4) = 0",
                "count(11) = 100", "count(4) = 0", "print() = ILLEGAL");
        Edge.due("and the week passes",
                "scenes a600!7 b600!9", "set(1) = 600", "count(2) = 0", "week(0, 3) = NONE", "print() = 600",
                "count(2) = 1", "week(0, 3) = 600", "week(0, 4) = 1", "week(1, 3) = NONE", "count(12) = 1");
        Edge.due("A week can also be skipped, if nothing is set: it passes without an instalment.",
                "scenes a600!7 b600!9", "set(1) = 600", "skip() = ILLEGAL", "count(2) = 0", "unset() = 1",
                "skip() = 400", "count(2) = 1", "week(0, 3) = 0", "week(0, 4) = 0", "count(12) = 0", "count(13) = 1",
                "count(1) = 0", "count(15) = 0");
    }

    private static void lastWeek() {
        String sentence = "After week 29 nothing can be set or skipped any more.";
        Edge.due(sentence,
                "scenes a600!9 b600!9", "28 times skip()", "skip() = 11600", "count(2) = 29", "why(1) = 0",
                "set(1) = 600", "unset() = 1", "skip() = 12000", "count(2) = 30", "set(1) = ILLEGAL", "skip() = ILLEGAL",
                "why(1) = ILLEGAL", "unset() = ILLEGAL", "mend() = ILLEGAL", "print() = ILLEGAL", "count(13) = 30");
        Edge.due(sentence + " It was printed last",
                "scenes a600!9 b600!9", "29 times skip()", "set(1) = 600", "print() = 600", "count(2) = 30",
                "scene(0, 5) = 29", "week(29, 3) = 600", "week(29, 4) = 1", "set(1) = ILLEGAL", "skip() = ILLEGAL",
                "undo() = 5", "count(2) = 29", "print() = 600");
        Edge.due(sentence + " Scenes can be inserted, removed and changed",
                "scenes a600!9 b600!9", "30 times skip()", "insert(2, 9, 0, 0, 0) = 3", "remove(0) = 2",
                "change(0, 3, 1) = 9", "setNumber(3, 9) = 2", "take(0) = 2", "restore(0) = 2", "text c9!1", "read() = 1",
                "ask(9) = 0", "setWeek(29, 1, 0) = INVALID");
    }

    private static void owedWords() {
        Edge.due("In each week the quota, 0 to 999 words (at first 400), is to be printed.",
                "count(7) = 400", "setNumber(2, -1) = INVALID", "setNumber(2, 0) = 400", "skip() = 0",
                "setNumber(2, 999) = 0", "skip() = 999", "setNumber(2, 1000) = INVALID", "skip() = 1998");
        Edge.due("the words that are owed (0 at first)",
                "count(9) = 0", "skip() = 400", "count(9) = 400");
        String owed = "become more by the quota and less by the words that are printed in it, but not less than the"
                + " quota below 0: ";
        Edge.due(owed + "by just the quota",
                "scenes a600!9 b600!9 c600!9", "setNumber(2, 300) = 400", "set(1) = 600", "print() = 600",
                "count(9) = -300", "set(1) = 600", "print() = 600", "count(9) = -300", "skip() = 0", "skip() = 300");
        Edge.due(owed + "by a word more",
                "scenes a600!9 b600!9 c600!9", "setNumber(2, 299) = 400", "set(1) = 600", "print() = 600",
                "count(9) = -299", "skip() = 0", "set(1) = 600", "print() = 600", "count(9) = -299");
        Edge.due(owed + "by a word less",
                "scenes a600!9 b600!9 c600!9", "setNumber(2, 301) = 400", "set(1) = 600", "print() = 600",
                "count(9) = -299", "set(1) = 600", "print() = 600", "count(9) = -301");
        Edge.due(owed + "a quota of 0",
                "scenes a600!9 b600!9", "skip() = 400", "setNumber(2, 0) = 400", "set(1) = 600", "print() = 600",
                "count(9) = 0", "skip() = 0");
        Edge.due(owed + "a new quota bounds them when a week passes",
                "scenes a600!9 b600!9", "setNumber(2, 300) = 400", "set(1) = 600", "print() = 600", "count(9) = -300",
                "setNumber(2, 100) = 300", "count(9) = -300", "skip() = -100", "skip() = 0");
    }

    private static void fines() {
        String fine = "Then, if any words are owed, a fine of a tenth of them is charged: ";
        Edge.due(fine + "9 and 10 words",
                "count(16) = 0", "setNumber(2, 9) = 400", "skip() = 9", "count(16) = 0", "setNumber(2, 1) = 9",
                "skip() = 10", "count(16) = 1", "setNumber(2, 0) = 1", "skip() = 10", "count(16) = 2");
        Edge.due(fine + "no words",
                "scenes a600!9", "setNumber(2, 600) = 400", "set(1) = 600", "print() = 600", "count(9) = 0",
                "count(16) = 0");
        Edge.due(fine + "words below 0",
                "scenes a600!9", "set(1) = 600", "print() = 600", "count(9) = -200", "count(16) = 0", "skip() = 200",
                "count(16) = 20");
        Edge.due(fine + "of what is owed behind the week",
                "scenes a600!9", "skip() = 400", "count(16) = 40", "set(1) = 600", "print() = 600", "count(9) = 200",
                "count(16) = 60");
        Edge.due(fine + "in all weeks",
                "setNumber(2, 999) = 400", "29 times skip()", "skip() = 29970", "count(16) = 46440");
    }

    private static void earned() {
        Edge.due("For an instalment the rate, 1 to 9 (at first 2), times its printed words is earned",
                "count(8) = 2", "scenes a600!0", "set(1) = 600", "print() = 600", "count(15) = 1200", "undo() = 2",
                "setNumber(3, 0) = INVALID", "setNumber(3, 1) = 2", "print() = 600", "count(15) = 600", "undo() = 3",
                "setNumber(3, 9) = 1", "setNumber(3, 10) = INVALID", "print() = 600", "count(15) = 5400");
        Edge.due("and 10 times the tension that its last scene has then",
                "scenes a300-10!9 b300-10!7 c600!9", "ask(5) = 0", "set(2) = 595", "print() = 595",
                "count(15) = 1260", "undo() = 5", "ask(6) = 5", "print() = 594", "count(15) = 1238");
        Edge.due("is earned: nothing for a week that is skipped",
                "scenes a600!9 b600!9", "skip() = 400", "count(15) = 0", "set(1) = 600", "print() = 600",
                "count(15) = 1290", "skip() = 600", "count(15) = 1290");
    }
}
