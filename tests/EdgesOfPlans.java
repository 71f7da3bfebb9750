/** The boundaries that the Terms name for a plan, and promises 26 to 30, a test for each sentence. */
final class EdgesOfPlans {
    private static final String TEN = "a400!9 b400!9 c400!9 d400!9 e400!9 a400!9 b400!9 c400!9 d400!9 e400!9";

    private EdgesOfPlans() {
    }

    static void run() {
        allScenesToCome();
        oneForEachWeek();
        goodForItsWeek();
        theCut();
        fewest();
        greatestSum();
        fewestScenesFirst();
        noSceneToCome();
        whatIsSet();
        planWhat();
        planMoney();
        plannedArguments();
        plannedValues();
        plans();
        mostCutBySlackAndPaper();
        mostCutByCliffs();
        mostCutByWhatFollows();
        mostCutNone();
        tooHigh();
        tooHighAtTheEnds();
    }

    private static void allScenesToCome() {
        Edge.due("A plan divides all scenes to come into instalments",
                "scenes a600!9 b600!9 c300!9", "plans() = 0", "change(2, 0, 301) = 300", "plans() = 1", "plan(0) = 3",
                "planned(0, 0) = 1", "planned(1, 0) = 1", "planned(2, 0) = 1", "planned(3, 0) = NONE", "set(1) = 600",
                "print() = 600", "plan(0) = 2", "planned(0, 1) = 600", "planned(1, 1) = 301", "planned(2, 0) = NONE");
        Edge.due("A plan divides all scenes to come: as they are now, whatever was asked before",
                "scenes a600!9 b600!7 c600!8", "plan(1) = 24", "remove(2) = 2", "plan(1) = 16", "plans() = 1",
                "remove(1) = 1", "plan(1) = 9", "plan(0) = 1", "insert(1, 600, 0, 1, 5) = 2", "plan(1) = 14",
                "tooHigh() = NONE", "plan(1) = 14", "change(0, 3, 4) = 9", "plan(1) = NONE", "tooHigh() = 5",
                "plan(1) = NONE", "mostCut() = NONE", "setNumber(1, 4) = 5", "plan(1) = 9", "mostCut() = 0",
                "plan(1) = 9");
        Edge.due("A plan divides all scenes to come: twenty, in twenty instalments",
                "scenes " + TEN, "scenes " + TEN, "plan(0) = 20", "plans() = 1", "plan(1) = 180", "planned(0, 0) = 1",
                "planned(19, 0) = 1", "planned(19, 1) = 400", "planned(20, 0) = NONE", "mostCut() = 0",
                "tooHigh() = NONE");
        Edge.due("A plan divides all scenes to come: twenty in one instalment",
                "20 times insert(0, 30, 1, 0, 0)", "plan(0) = 1", "planned(0, 0) = 20", "planned(0, 1) = 600",
                "plans() = 1", "mostCut() = 20", "tooHigh() = NONE", "planned(1, 0) = NONE");
    }

    private static void oneForEachWeek() {
        String sentence = "one for each week from the present one on: ";
        Edge.due(sentence + "two weeks are left for two",
                "scenes a600!9 b600!9", "28 times skip()", "plan(0) = 2", "plans() = 1", "skip() = 11600",
                "plan(0) = NONE", "plans() = 0", "planned(0, 0) = NONE", "mostCut() = NONE", "tooHigh() = 0",
                "remove(1) = 1", "plan(0) = 1", "plans() = 1", "mostCut() = 0", "tooHigh() = NONE");
        Edge.due(sentence + "twenty weeks are left for twenty",
                "scenes " + TEN, "scenes " + TEN, "10 times skip()", "plan(0) = 20", "skip() = 4400", "plan(0) = NONE",
                "plans() = 0", "tooHigh() = 0");
        Edge.due(sentence + "none is left",
                "scenes a600!9", "30 times skip()", "plan(0) = NONE", "plan(4) = NONE", "planned(0, 0) = NONE",
                "plans() = 0", "mostCut() = NONE", "tooHigh() = 0");
        Edge.due(sentence + "plans with more instalments than weeks do not count",
                "setNumber(0, 999) = 300", "setWeek(28, 1, 0) = 999", "setWeek(29, 1, 0) = 999", "28 times skip()",
                "scenes a9!9 b9!8 c9!7", "plans() = 3", "plan(0) = 1", "skip() = 11600", "plans() = 1", "plan(0) = 1");
    }

    private static void goodForItsWeek() {
        String sentence = "so that each is good for its week: ";
        Edge.due(sentence + "by its paper",
                "scenes a600!9 b900!9", "plan(0) = NONE", "setWeek(1, 3, 0) = 900", "plan(0) = 2", "planned(1, 2) = 0",
                "setWeek(1, 3, 1) = 899", "plan(0) = NONE", "setWeek(1, 4, 0) = 1200", "plan(0) = NONE",
                "setWeek(1, 4, 1) = 1199", "plan(0) = 2", "planned(1, 2) = 299");
        Edge.due(sentence + "by the strand of the instalment before it",
                "scenes a600!9 b600!9 b600!8 c600!9", "plans() = 0", "change(2, 2, 0) = 1", "plans() = 1",
                "plan(0) = 4");
        Edge.due(sentence + "by the strand of the last one that was printed",
                "scenes a600!9 a600!8 b600!9", "plans() = 0", "set(1) = 600", "print() = 600", "plans() = 0",
                "mostCut() = NONE", "tooHigh() = 0", "change(1, 2, 2) = 0", "plans() = 1", "mostCut() = 0",
                "tooHigh() = 9");
        Edge.due(sentence + "by its cliff, but for the last of all scenes",
                "scenes a600!5 b600!0", "plan(0) = 2", "plan(1) = 5", "change(0, 3, 4) = 5", "plan(0) = NONE");
        Edge.due(sentence + "the end of the novel has no cliff, and may be of the same strand",
                "scenes a600!9 a600!0", "plan(0) = 2", "plan(1) = 9", "plans() = 1");
    }

    private static void theCut() {
        String sentence = "the first one with the cut, the others without one: ";
        Edge.due(sentence + "their words",
                "scenes a700-100!9 b600-100!9", "ask(99) = 0", "plans() = 0", "ask(100) = 99", "plans() = 1",
                "plan(0) = 2", "planned(0, 1) = 600", "planned(0, 2) = 0", "planned(1, 1) = 600", "planned(1, 2) = 0",
                "ask(101) = 100", "plans() = 0", "ask(100) = 101", "change(1, 0, 601) = 600", "plans() = 0");
        Edge.due(sentence + "their cliffs",
                "scenes a600-10!7 b600-10!7 c600-10!7", "setNumber(1, 7) = 5", "ask(5) = 0", "plan(1) = 21",
                "ask(6) = 5", "plan(1) = NONE", "setNumber(1, 5) = 7", "plan(1) = 19", "planned(1, 1) = 600");
        Edge.due(sentence + "by the cut of a week that has passed nothing is less",
                "scenes a600-10!7 b600-10!7", "ask(10) = 0", "plan(1) = 12", "set(1) = 590", "print() = 590",
                "plan(1) = 7", "planned(0, 1) = 600");
    }

    private static void fewest() {
        String oneSheet = "setWeek(0, 1, 0) = 300";
        Edge.due("The best plan is that with the fewest instalments, whatever the tensions",
                oneSheet, "setWeek(1, 1, 0) = 300", "setWeek(2, 1, 0) = 300", "setWeek(3, 1, 0) = 300",
                "scenes a100!9 b100!9 c100!9 d50!0", "plans() = 7", "plan(0) = 2", "plan(1) = 9", "planned(0, 0) = 1",
                "planned(1, 0) = 3", "planned(2, 0) = NONE", "change(3, 0, 1) = 50", "plan(0) = 2",
                "change(0, 0, 99) = 100", "plans() = 8", "plan(0) = 1", "plan(1) = 0", "planned(0, 0) = 4",
                "planned(0, 2) = 0");
    }

    private static void greatestSum() {
        Edge.due("of several that with the greatest sum of the tensions .. of all their last scenes",
                "setWeek(0, 1, 0) = 300", "setWeek(1, 1, 0) = 300", "scenes a100!8 b100!7 c100!5 d100!6", "plan(0) = 2",
                "plan(1) = 14", "planned(0, 0) = 1", "change(1, 3, 8) = 7", "plan(1) = 14", "planned(0, 0) = 1",
                "change(1, 3, 9) = 8", "plan(1) = 15", "planned(0, 0) = 2", "change(1, 3, 8) = 9",
                "change(2, 3, 9) = 5", "plan(1) = 15", "planned(0, 0) = 3", "change(3, 3, 0) = 6", "plan(1) = 9",
                "planned(0, 0) = 3");
        Edge.due("of the tensions (less what is lost by the cut)",
                "setWeek(0, 1, 0) = 300", "setWeek(1, 1, 0) = 300", "scenes a100!5 b100-20!7 c100-60!6 d100!6",
                "planned(0, 0) = 2", "plan(1) = 13", "ask(10) = 0", "planned(0, 0) = 2", "plan(1) = 13", "ask(11) = 10",
                "planned(0, 0) = 3", "plan(1) = 12", "ask(20) = 11", "planned(0, 0) = 3", "plan(1) = 12");
        Edge.due("of the tensions (less what is lost by the cut): of one instalment",
                "scenes a600-10!1", "plan(1) = 1", "ask(5) = 0", "plan(1) = 1", "ask(6) = 5", "plan(1) = 0",
                "change(0, 3, 9) = 1", "plan(1) = 7", "plan(3) = 1258");
    }

    private static void fewestScenesFirst() {
        String eight = "scenes a100!7 b100!7 c100!7 d100!7 e100!7 f100!7 a100!7 b100!7";
        Edge.due("of several that in which the first instalment has the fewest scenes, then the second one, and so on",
                "setWeek(0, 1, 0) = 300", "setWeek(1, 1, 0) = 300", "setWeek(2, 1, 0) = 300", eight, "plan(0) = 3",
                "planned(0, 0) = 2", "planned(1, 0) = 3", "planned(2, 0) = 3", "change(1, 3, 1) = 7", "plan(1) = 21",
                "planned(0, 0) = 3", "planned(1, 0) = 2", "planned(2, 0) = 3", "change(4, 3, 1) = 7",
                "planned(0, 0) = 3", "planned(1, 0) = 3", "planned(2, 0) = 2");
    }

    private static void noSceneToCome() {
        Edge.due("There is no plan if there is no scene to come.",
                "plan(0) = NONE", "plan(1) = NONE", "plan(2) = NONE", "plan(3) = NONE", "plan(4) = NONE",
                "planned(0, 0) = NONE", "planned(0, 1) = NONE", "planned(0, 2) = NONE", "plans() = 0",
                "mostCut() = NONE", "tooHigh() = 0");
        Edge.due("There is no plan if there is no scene to come: all are printed",
                "scenes a300!9 b300!9", "plan(0) = 1", "set(2) = 600", "plan(0) = 1", "print() = 600", "plan(0) = NONE",
                "plan(4) = NONE", "planned(0, 0) = NONE", "plans() = 0", "mostCut() = NONE", "tooHigh() = 0",
                "undo() = 3", "plan(0) = 1");
        Edge.due("There is no plan if there is no scene to come: all twenty are printed",
                "20 times insert(0, 30, 0, 0, 0)", "set(20) = 600", "print() = 600", "plan(0) = NONE", "plans() = 0",
                "mostCut() = NONE", "tooHigh() = 0", "planned(0, 0) = NONE");
        Edge.due("There is no plan if there is no scene to come: all are removed",
                "scenes a600!9", "plan(0) = 1", "remove(0) = 0", "plan(0) = NONE", "plans() = 0", "mostCut() = NONE",
                "tooHigh() = 0");
    }

    private static void whatIsSet() {
        Edge.due("What is set plays no part in it.",
                "scenes a350!9 b200-9!9 c600!9", "plan(0) = 2", "planned(0, 0) = 2", "plan(1) = 18", "set(1) = 350",
                "plan(0) = 2", "planned(0, 0) = 2", "plan(1) = 18", "plans() = 1", "mostCut() = 9", "tooHigh() = NONE",
                "unset() = 1", "set(2) = 550", "plan(0) = 2", "planned(0, 0) = 2", "mostCut() = 9", "ask(10) = 0",
                "plans() = 0", "plan(0) = NONE");
    }

    private static void planWhat() {
        Edge.due("plan: INVALID_ARGUMENT if what is out of range; NONE if there is no plan.",
                "plan(-1) = INVALID", "plan(0) = NONE", "plan(4) = NONE", "plan(5) = INVALID", "plan(MAX) = INVALID",
                "plan(MIN) = INVALID", "scenes a600!9", "plan(-1) = INVALID", "plan(0) = 1", "plan(1) = 9",
                "plan(2) = -200", "plan(3) = 1290", "plan(4) = 0", "plan(5) = INVALID", "ask(1) = 0", "plan(0) = NONE",
                "plan(5) = INVALID");
        Edge.due("plan: changes nothing",
                "scenes a600!9 b350!9", "plan(0) = 2", "count(9) = 0", "count(15) = 0", "count(16) = 0", "count(2) = 0",
                "count(19) = 2", "plan(0) = 2");
    }

    private static void planMoney() {
        String owed = "2 for the words that would be owed behind it: ";
        Edge.due(owed + "not less than the quota below 0",
                "scenes a600!9 b600!9", "setNumber(2, 300) = 400", "plan(2) = -300", "setNumber(2, 299) = 300",
                "plan(2) = -299", "setNumber(2, 301) = 299", "plan(2) = -301", "setNumber(2, 400) = 301",
                "plan(2) = -400", "setNumber(2, 401) = 400", "plan(2) = -398", "setNumber(2, 0) = 401", "plan(2) = 0");
        Edge.due(owed + "in each of its weeks",
                "scenes a600!9 b310!9", "setNumber(2, 300) = 400", "plan(2) = -300", "change(0, 0, 310) = 600",
                "change(1, 0, 600) = 310", "plan(2) = -300", "change(0, 0, 600) = 310", "change(1, 0, 310) = 600",
                "setNumber(2, 250) = 300", "plan(2) = -250", "setNumber(2, 350) = 250", "plan(2) = -210");
        Edge.due(owed + "from what is owed now",
                "scenes a600!9", "3 times skip()", "count(9) = 1200", "plan(2) = 1000", "set(1) = 600", "print() = 600",
                "count(9) = 1000");
        Edge.due("3 for what would be earned by it alone",
                "scenes a600!9 b600!8 c600-10!7", "set(1) = 600", "print() = 600", "count(15) = 1290", "plan(3) = 2550",
                "setNumber(3, 1) = 2", "plan(3) = 1350", "setNumber(3, 9) = 1", "plan(3) = 10950", "set(1) = 600",
                "print() = 600", "ask(6) = 0", "plan(3) = 5396", "ask(5) = 6", "plan(3) = 5425");
        Edge.due("4 for the fines that would be charged by it alone",
                "scenes a600!9 b600!8", "skip() = 400", "count(16) = 40", "plan(4) = 20", "plan(2) = 0", "skip() = 800",
                "count(16) = 120", "plan(4) = 100", "plan(2) = 400", "setNumber(2, 0) = 400", "plan(4) = 20",
                "plan(2) = 0", "setNumber(2, 205) = 0", "plan(4) = 41", "plan(2) = 10", "setNumber(2, 204) = 205",
                "plan(4) = 40", "plan(2) = 8");
        Edge.due("4 for the fines that would be charged: nothing is owed",
                "scenes a600!9", "setNumber(2, 600) = 400", "plan(4) = 0", "plan(2) = 0", "setNumber(2, 609) = 600",
                "plan(4) = 0", "plan(2) = 9", "setNumber(2, 610) = 609", "plan(4) = 1", "plan(2) = 10");
    }

    private static void plannedArguments() {
        Edge.due("planned: instalment: 0 or more; INVALID_ARGUMENT if an argument is out of range",
                "scenes a600!9 b600!9", "planned(-1, 0) = INVALID", "planned(MIN, 0) = INVALID",
                "planned(0, -1) = INVALID", "planned(0, 3) = INVALID", "planned(0, MAX) = INVALID",
                "planned(0, MIN) = INVALID", "planned(0, 0) = 1", "planned(0, 2) = 0");
        Edge.due("planned: NONE if there is no plan, or it has not so many instalments.",
                "planned(0, 0) = NONE", "scenes a600!9 b600!9", "planned(1, 0) = 1", "planned(2, 0) = NONE",
                "planned(2, 1) = NONE", "planned(2, 2) = NONE", "planned(29, 0) = NONE", "planned(30, 0) = NONE",
                "planned(MAX, 0) = NONE", "planned(MAX, 2) = NONE", "change(0, 3, 0) = 9", "planned(0, 0) = NONE",
                "planned(1, 0) = NONE", "planned(MAX, 0) = NONE");
        Edge.due("planned: INVALID_ARGUMENT goes ahead of NONE",
                "planned(-1, 0) = INVALID", "planned(0, 3) = INVALID", "planned(0, -1) = INVALID",
                "planned(MAX, 3) = INVALID", "planned(MIN, -1) = INVALID", "planned(MAX, 0) = NONE");
        Edge.due("planned: counted from the present week on",
                "scenes a600!9 b600!9", "28 times skip()", "setWeek(29, 3, 1) = 899", "planned(0, 2) = 0",
                "planned(1, 2) = 299", "set(1) = 600", "print() = 600", "planned(0, 2) = 299", "planned(1, 0) = NONE");
    }

    private static void plannedValues() {
        Edge.due("1 for its words (less the cut), 2 for the words by which the room of its week is more than these",
                "scenes a300-10!9 b300-10!9 c350!9", "setWeek(1, 2, 250) = 350", "planned(0, 0) = 2",
                "planned(0, 1) = 600", "planned(0, 2) = 0", "planned(1, 0) = 1", "planned(1, 1) = 350",
                "planned(1, 2) = 0", "ask(20) = 0", "planned(0, 1) = 580", "planned(0, 2) = 20", "planned(1, 1) = 350",
                "planned(1, 2) = 0");
        Edge.due("2 for the words by which the room of its week is more: at most the words of a sheet less 1",
                "scenes a301!9 b301!9", "planned(0, 2) = 299", "planned(1, 2) = 299", "change(0, 0, 300) = 301",
                "planned(0, 2) = NONE");
    }

    private static void plans() {
        Edge.due("plans: Returns the number of plans.",
                "plans() = 0", "scenes a600!9", "plans() = 1", "change(0, 0, 601) = 600", "plans() = 0");
        Edge.due("plans: Returns the number of plans: with one sheet",
                "setWeek(0, 1, 0) = 300", "setWeek(1, 1, 0) = 300", "setWeek(2, 1, 0) = 300", "setWeek(3, 1, 0) = 300",
                "scenes a9!9 b9!9 c9!9 d9!9", "plans() = 8", "change(1, 3, 4) = 9", "plans() = 4",
                "change(1, 3, 9) = 4", "change(1, 2, 0) = 1", "plans() = 4", "change(0, 3, 0) = 9", "plans() = 4",
                "setNumber(1, 0) = 5", "plans() = 4");
        CliffSerial x = new CliffSerial();
        for (int week = 0; week < 30; week++) {
            x.setWeek(week, 1, 0);
        }
        int[] due = new int[21];
        for (int scenes = 1; scenes <= 20; scenes++) {
            x.insert(scenes - 1, 10, 0, scenes % 6, 9);
            due[scenes] = plansOf(scenes);
            Check.due("\"plans: Returns the number of plans.\": of " + scenes + " scenes", x.plans(), due[scenes]);
        }
        for (int left = 29; left >= 20; left--) {
            x.skip();
            Check.due("\"plans: Returns the number of plans.\": with " + left + " weeks", x.plans(), due[20]);
        }
        x.skip();
        Check.due("\"plans: Returns the number of plans.\": with 19 weeks", x.plans(), due[20] - 1);
    }

    /** A last scene may not be a multiple of 6 behind the last scene before it, but for the last of all. */
    private static int plansOf(int scenes) {
        int[] ways = new int[scenes + 1];
        ways[0] = 1;
        for (int end = 1; end <= scenes; end++) {
            for (int begin = 0; begin < end; begin++) {
                boolean sameStrand = begin > 0 && end < scenes && (end - begin) % 6 == 0;
                ways[end] += sameStrand ? 0 : ways[begin];
            }
        }
        return ways[scenes];
    }

    private static void mostCutBySlackAndPaper() {
        String sentence = "mostCut: Finds the greatest cut that could be asked .. so that there is a plan: ";
        Edge.due(sentence + "the slack", "scenes a600-100!9", "mostCut() = 100", "change(0, 1, 0) = 100",
                "mostCut() = 0", "change(0, 1, 1) = 0", "mostCut() = 1");
        Edge.due(sentence + "the paper would need a sheet less", "scenes a600-298!9", "mostCut() = 298",
                "change(0, 1, 299) = 298", "mostCut() = 299", "change(0, 1, 300) = 299", "mostCut() = 299",
                "change(0, 1, 599) = 300", "mostCut() = 299", "setWeek(0, 2, 1) = 599", "mostCut() = 300",
                "setWeek(0, 1, 0) = 300", "mostCut() = 599", "setWeek(0, 1, 300) = 0", "mostCut() = NONE",
                "setWeek(0, 1, 299) = 1", "mostCut() = 599");
        Edge.due(sentence + "so many words at least", "scenes a650-100!9", "mostCut() = 100", "change(0, 1, 50) = 100",
                "mostCut() = 50", "change(0, 1, 49) = 50", "mostCut() = NONE");
        Edge.due(sentence + "no more than 999", "setNumber(0, 999) = 300", "setWeek(0, 1, 0) = 999",
                "scenes a999-998!9", "mostCut() = 998", "scenes b999-1!9", "mostCut() = 999", "change(1, 1, 0) = 1",
                "mostCut() = NONE", "change(1, 1, 998) = 0", "mostCut() = 999", "change(1, 0, 1000) = INVALID",
                "insert(2, 1, 0, 2, 0) = 3", "mostCut() = 998", "change(1, 0, 997) = INVALID",
                "setWeek(1, 1, 0) = 999", "mostCut() = 999");
        Edge.due("mostCut: whatever is asked now", "scenes a600-100!9", "ask(999) = 0", "mostCut() = 100",
                "plan(0) = NONE", "ask(100) = 999", "mostCut() = 100", "plan(0) = 1", "ask(101) = 100", "plan(0) = NONE",
                "mostCut() = 100", "count(3) = 101");
    }

    private static void mostCutByCliffs() {
        String sentence = "mostCut: so that there is a plan: by the cliff that a cut may lose: ";
        Edge.due(sentence + "half of an even slack", "scenes a600-100!6 b600!9", "mostCut() = 50",
                "change(0, 3, 7) = 6", "mostCut() = 100", "setNumber(1, 6) = 5", "mostCut() = 50");
        Edge.due(sentence + "half of an odd slack", "scenes a600-101!6 b600!9", "mostCut() = 50");
        Edge.due(sentence + "a slack of 1 and of 2", "scenes a600-1!6 b600!9", "mostCut() = 0",
                "change(0, 1, 2) = 1", "mostCut() = 1", "change(0, 1, 3) = 2", "mostCut() = 1");
        Edge.due(sentence + "half of the slack is needed", "scenes a650-100!6 b600!9", "mostCut() = 50",
                "change(0, 1, 99) = 100", "mostCut() = NONE", "change(0, 3, 7) = 6", "mostCut() = 99");
        Edge.due(sentence + "only that of the last scene", "scenes a300-100!9 b300-10!6 c600!9", "mostCut() = 5",
                "change(1, 1, 0) = 10", "mostCut() = 100", "change(1, 1, 1) = 0", "mostCut() = 0");
        Edge.due(sentence + "not the end of the novel", "scenes a600-100!0", "mostCut() = 100");
        Edge.due(sentence + "by the tension of the scene behind it", "scenes a600-100!9 a600!7", "mostCut() = 50",
                "change(1, 3, 6) = 7", "mostCut() = 100");
    }

    private static void mostCutByWhatFollows() {
        Edge.due("mostCut: so that there is a plan: for all scenes to come",
                "scenes a600-100!9 b600!9", "mostCut() = 100", "change(1, 0, 601) = 600", "mostCut() = NONE",
                "change(1, 0, 300) = 601", "mostCut() = NONE", "change(1, 0, 301) = 300", "mostCut() = 100");
        Edge.due("mostCut: so that there is a plan: with more scenes in the first instalment",
                "scenes a310-100!9 b290-150!9", "plan(0) = 1", "mostCut() = 250", "change(1, 0, 301) = 290",
                "plan(0) = 2", "mostCut() = 250", "setWeek(0, 2, 200) = 400", "mostCut() = 250",
                "setWeek(1, 1, 0) = 300", "mostCut() = 250", "setWeek(0, 1, 0) = 300", "mostCut() = NONE",
                "change(1, 0, 300) = 301", "mostCut() = 100");
    }

    private static void mostCutNone() {
        Edge.due("mostCut: NONE if there is none.",
                "mostCut() = NONE", "scenes a600!9", "mostCut() = 0", "29 times skip()", "mostCut() = 0",
                "skip() = 12000", "mostCut() = NONE", "undo() = 5", "set(1) = 600", "mostCut() = 0", "print() = 600",
                "mostCut() = NONE");
    }

    private static void tooHigh() {
        String sentence = "tooHigh: Finds the lowest level by which there is no plan: ";
        for (int tension = 0; tension < 9; tension++) {
            Edge.due(sentence + "a tension of " + tension, "scenes a600!" + tension + " b600!0",
                    "tooHigh() = " + (tension + 1));
        }
        Edge.due(sentence + "with the cut that is asked",
                "scenes a600-10!7 b600!9", "tooHigh() = 8", "ask(5) = 0", "tooHigh() = 8", "ask(6) = 5", "tooHigh() = 6",
                "ask(10) = 6", "tooHigh() = 6", "ask(11) = 10", "tooHigh() = 0");
        Edge.due(sentence + "whatever the level is now",
                "scenes a600!7 b600!9", "setNumber(1, 0) = 5", "tooHigh() = 8", "setNumber(1, 9) = 0", "plan(0) = NONE",
                "tooHigh() = 8", "count(6) = 9");
        Edge.due(sentence + "by the lowest of several cliffs, or by the way around it",
                "scenes a350!6 b350!8 c310!0", "tooHigh() = 7", "setWeek(0, 3, 201) = 699", "tooHigh() = 0",
                "setWeek(0, 3, 200) = 700", "tooHigh() = 9");
        Edge.due(sentence + "by all ways",
                "scenes a310!6 b290!8 c310!0", "tooHigh() = 9", "change(1, 3, 6) = 8", "tooHigh() = 7",
                "change(0, 3, 7) = 6", "tooHigh() = 8");
    }

    private static void tooHighAtTheEnds() {
        Edge.due("tooHigh: NONE if there is a plan by each level.",
                "scenes a600!8 b600!0", "tooHigh() = 9", "change(0, 3, 9) = 8", "tooHigh() = NONE", "remove(0) = 1",
                "tooHigh() = NONE", "change(0, 0, 601) = 600", "tooHigh() = 0");
        Edge.due("tooHigh: Returns the level, 0 to 9: 0 if there is no plan by any",
                "tooHigh() = 0", "scenes a600!9 a600!9", "tooHigh() = 0", "change(1, 3, 8) = 9", "tooHigh() = NONE",
                "30 times skip()", "tooHigh() = 0");
    }
}
