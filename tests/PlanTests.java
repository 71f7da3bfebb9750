/** Promises 26 to 30. */
final class PlanTests {
    private PlanTests() {
    }

    static void run() {
        fewestInstalmentsFirst();
        thenTheGreatestTension();
        thenTheFewestScenesFirst();
        moneyOfThePlan();
        fromTheLastPrintedOn();
        asManyWeeksAsThereAre();
        noPlan();
        wrongArguments();
        manyPlans();
        onceMore();
        mostCut();
        tooHigh();
    }

    private static void due(CliffSerial x, int... counts) {
        Check.due("plan(0)", x.plan(0), counts.length);
        for (int i = 0; i < counts.length; i++) {
            Check.due("planned(" + i + ", 0)", x.planned(i, 0), counts[i]);
        }
        for (int what = 0; what < 3; what++) {
            Check.due("behind the plan", x.planned(counts.length, what), Check.NONE);
            Check.due("far behind the plan", x.planned(Integer.MAX_VALUE, what), Check.NONE);
        }
    }

    private static CliffSerial oneSheet(String scenes) {
        CliffSerial x = Make.novel(scenes);
        for (int week = 0; week < 30; week++) {
            x.setWeek(week, 1, 0);
        }
        return x;
    }

    private static void fewestInstalmentsFirst() {
        CliffSerial x = oneSheet("a100!9 b100!9 c100!9 d50!0");
        Check.due("7 plans", x.plans(), 7);
        due(x, 1, 3);
        Check.due("though three have a greater sum", x.plan(1), 9);
        x.setWeek(1, 1, 150);
        due(x, 2, 2);
        x.setWeek(1, 1, 151);
        due(x, 3, 1);
        x.setWeek(0, 1, 1);
        due(x, 1, 1, 2);
        Check.due("the sum of three", x.plan(1), 18);
    }

    private static void thenTheGreatestTension() {
        CliffSerial x = oneSheet("a100!9 b100!8 c100!5 d100!6");
        due(x, 1, 3);
        Check.due("the greatest sum", x.plan(1), 15);
        x.change(1, 3, 9);
        x.change(0, 3, 8);
        due(x, 2, 2);
        // By the cut b loses 2 of its tension, c and a nothing.
        x = oneSheet("a100!5 b100-20!7 c100-60!6 d100!6");
        due(x, 2, 2);
        x.ask(20);
        due(x, 3, 1);
        Check.due("less what is lost by the cut", x.plan(1), 12);
        x.change(2, 3, 4);
        x.change(2, 2, 3);
        due(x, 2, 2);
        Check.due("7 less 2 and 6", x.plan(1), 11);
    }

    private static void thenTheFewestScenesFirst() {
        CliffSerial x = oneSheet("a100!7 b100!7 c100!7 d100!7");
        due(x, 1, 3);
        x = oneSheet("a100!7 b100!7 c100!7 d100!7 e100!7 f100!7 a100!7 b100!7");
        due(x, 2, 3, 3);
        x.change(1, 3, 1);
        due(x, 3, 2, 3);
    }

    private static void moneyOfThePlan() {
        CliffSerial x = Make.novel("a600!9 b400-60!5 c350!7 d310!3");
        x.skip();
        x.ask(60);
        x.insert(0, 110, 100, 5, 8);
        x.insert(1, 300, 10, 4, 7);
        due(x, 2, 1, 1, 1, 1);
        int[] words = {350, 600, 400, 350, 310};
        int[] room = {250, 0, 200, 250, 290};
        for (int i = 0; i < words.length; i++) {
            Check.due("planned(" + i + ", 1)", x.planned(i, 1), words[i]);
            Check.due("planned(" + i + ", 2)", x.planned(i, 2), room[i]);
        }
        // Owed: 400, 450, 250, 250, 300, 390.
        Check.due("owed behind it", x.plan(2), 390);
        Check.due("tensions", x.plan(1), 5 + 9 + 5 + 7 + 3);
        Check.due("earned by it alone", x.plan(3), 2 * 2010 + 10 * 29);
        Check.due("fines by it alone", x.plan(4), 45 + 25 + 25 + 30 + 39);
        x.setNumber(2, 100);
        Check.due("less owed", x.plan(2), -100);
        Check.due("fines for what was owed", x.plan(4), 15);
        x.setNumber(3, 9);
        Check.due("by the rate", x.plan(3), 9 * 2010 + 290);
        Check.due("nothing is charged by it", x.count(16), 40);
    }

    private static void fromTheLastPrintedOn() {
        CliffSerial x = oneSheet("a300!9 a100!8 b100!8 a100!8 c300!8");
        x.set(1);
        x.print();
        Check.due("the strand of the printed one", x.why(1), 6);
        Check.due("one plan", x.plans(), 1);
        due(x, 2, 1, 1);
        x.change(2, 2, 0);
        Check.due("the strand of the printed one again", x.why(3), 6);
        Check.due("no plan", x.plans(), 0);
        x.change(3, 2, 1);
        due(x, 3, 1);
        // Within the plan, too: b behind b is not good, but at the end of the novel.
        x.change(4, 2, 1);
        x.change(4, 3, 7);
        due(x, 3, 1);
        x.insert(5, 300, 0, 2, 9);
        Check.due("b behind b", x.plans(), 0);
        x.change(4, 2, 3);
        due(x, 3, 1, 1);
        x.set(3);
        due(x, 3, 1, 1);
        Check.due("what is set plays no part", x.plans(), 1);
        x.print();
        due(x, 1, 1);
    }

    private static void asManyWeeksAsThereAre() {
        CliffSerial x = oneSheet("a300!9 b300!9 c300!9");
        Make.skip(x, 27);
        Check.due("three weeks for three", x.plan(0), 3);
        Check.due("one plan", x.plans(), 1);
        x.skip();
        Check.due("two weeks for three", x.plan(0), Check.NONE);
        Check.due("no plan", x.plans(), 0);
        Check.due("no cut helps", x.mostCut(), Check.NONE);
        x.remove(0);
        Check.due("two weeks for two", x.plan(0), 2);
        x.skip();
        x.skip();
        Check.due("no week", x.plans(), 0);
        Check.due("no plan in no week", x.plan(0), Check.NONE);
        Check.due("not planned in no week", x.planned(0, 0), Check.NONE);
        Check.due("mostCut in no week", x.mostCut(), Check.NONE);
        Check.due("tooHigh in no week", x.tooHigh(), 0);
    }

    private static void noPlan() {
        CliffSerial x = new CliffSerial();
        for (int what = 0; what < 5; what++) {
            Check.due("plan of no scene", x.plan(what), Check.NONE);
        }
        Check.due("planned of no scene", x.planned(0, 0), Check.NONE);
        Check.due("plans of no scene", x.plans(), 0);
        Check.due("mostCut of no scene", x.mostCut(), Check.NONE);
        Check.due("tooHigh of no scene", x.tooHigh(), 0);
        Make.add(x, "a600!0");
        x.set(1);
        x.print();
        Check.due("all are printed", x.plans(), 0);
        Check.due("plan when all are printed", x.plan(0), Check.NONE);
        Check.due("mostCut when all are printed", x.mostCut(), Check.NONE);
        Check.due("tooHigh when all are printed", x.tooHigh(), 0);
    }

    private static void wrongArguments() {
        CliffSerial x = new CliffSerial();
        Check.due("plan(-1)", x.plan(-1), Check.INVALID);
        Check.due("plan(5)", x.plan(5), Check.INVALID);
        Check.due("planned(-1, 0)", x.planned(-1, 0), Check.INVALID);
        Check.due("planned(0, -1)", x.planned(0, -1), Check.INVALID);
        Check.due("planned(0, 3)", x.planned(0, 3), Check.INVALID);
        Check.due("planned(far, 3)", x.planned(Integer.MAX_VALUE, 3), Check.INVALID);
        Check.due("planned(far, 0)", x.planned(Integer.MAX_VALUE, 0), Check.NONE);
    }

    private static void manyPlans() {
        CliffSerial x = oneSheet("a1!9 b1!9 c1!9 a1!9 b1!9");
        Check.due("2 to the 4th, less those with a strand twice", x.plans(), 15);
        CliffSerial y = new CliffSerial();
        y.setNumber(0, 999);
        y.setNumber(1, 0);
        for (int week = 0; week < 30; week++) {
            y.setWeek(week, 1, 0);
        }
        // Nowhere may an instalment end with the strand that the one before it ended with.
        for (int i = 0; i < 20; i++) {
            y.insert(i, 1, 0, i % 6, 5);
        }
        Check.due("the reference counts as many", y.plans(), plansOfSixStrands(20));
        due(y, 20);
        y.setNumber(1, 6);
        Check.due("one instalment alone", y.plans(), 1);
        Make.skip(y, 10);
        Check.due("twenty weeks are left", y.plans(), 1);
        y.setNumber(1, 0);
        int all = y.plans();
        y.skip();
        Check.due("nineteen: all but that with twenty", y.plans(), all - 1);
    }

    /** The last scenes of two instalments, one behind the other, are not a multiple of 6 apart. */
    private static int plansOfSixStrands(int scenes) {
        int[] ways = new int[scenes + 1];
        ways[0] = 1;
        for (int end = 1; end <= scenes; end++) {
            for (int begin = 0; begin < end; begin++) {
                boolean same = begin > 0 && end < scenes && (end - begin) % 6 == 0;
                ways[end] += same ? 0 : ways[begin];
            }
        }
        return ways[scenes];
    }

    /** What an earlier call found plays no part. */
    private static void onceMore() {
        CliffSerial x = oneSheet("a300!9 b300!8 c300!7");
        Check.due("three", x.plan(1), 24);
        x.remove(2);
        Check.due("two", x.plan(1), 17);
        x.remove(1);
        Check.due("one", x.plan(1), 9);
        due(x, 1);
        x.change(0, 0, 301);
        Check.due("none", x.plan(1), Check.NONE);
        CliffSerial z = oneSheet("a150!9 b50!9 c120!9");
        due(z, 1, 2);
        z.setWeek(1, 1, 201);
        due(z, 1, 1, 1);
        CliffSerial y = new CliffSerial();
        for (int i = 0; i < 20; i++) {
            y.insert(0, 20, 0, 0, 0);
        }
        due(y, 20);
        y.set(20);
        y.print();
        Check.due("all twenty are printed", y.plans(), 0);
        Check.due("no level is low enough", y.tooHigh(), 0);
    }

    private static void mostCut() {
        CliffSerial x = oneSheet("a310-100!7 b300!5");
        Check.due("the slack of the first", x.mostCut(), 100);
        x.change(1, 2, 0);
        x.change(1, 3, 4);
        Check.due("tension 5 is kept, with all its slack", x.mostCut(), 100);
        x.setNumber(1, 6);
        Check.due("half of the slack", x.mostCut(), 50);
        x.change(0, 1, 101);
        Check.due("half of the slack, rounded down", x.mostCut(), 50);
        x.change(0, 1, 19);
        Check.due("too much for the room by half", x.mostCut(), Check.NONE);
        x.change(0, 1, 20);
        Check.due("just enough", x.mostCut(), 10);
        x.ask(500);
        Check.due("whatever is asked", x.mostCut(), 10);
        CliffSerial y = Make.novel("a999-998!9 b999-998!9");
        y.setNumber(0, 999);
        y.setWeek(0, 4, 0);
        Check.due("two sheets less a word at least", y.mostCut(), Check.NONE);
        y.setWeek(0, 1, 0);
        Check.due("999 by two scenes", y.mostCut(), 999);
        y.remove(1);
        Check.due("998 by one", y.mostCut(), 998);
        y.setWeek(0, 1, 999);
        Check.due("no room", y.mostCut(), Check.NONE);
        y.setWeek(0, 2, 999);
        Check.due("not a sheet less", y.mostCut(), 998);
        CliffSerial z = Make.novel("a600-100!9");
        Check.due("more than a sheet is to be filled", z.mostCut(), 100);
        z.change(0, 1, 500);
        Check.due("but 299 are left", z.mostCut(), 299);
        z.change(0, 1, 0);
        Check.due("no slack, so 0", z.mostCut(), 0);
        z.insert(1, 600, 0, 1, 4);
        z.change(0, 1, 1);
        z.change(0, 3, 6);
        Check.due("1 would lose the cliff", z.mostCut(), 0);
        z.insert(1, 600, 0, 2, 6);
        Check.due("the level of the second", z.mostCut(), 0);
        z.setNumber(1, 6);
        z.setNumber(3, 9);
        Check.due("6 is enough", z.mostCut(), 0);
        z.change(1, 3, 5);
        z.setNumber(3, 1);
        Check.due("5 is not", z.mostCut(), Check.NONE);
    }

    private static void tooHigh() {
        CliffSerial x = oneSheet("a300!7 b300!9");
        Check.due("7 is the highest", x.tooHigh(), 8);
        x.change(0, 3, 8);
        Check.due("8 is the highest", x.tooHigh(), 9);
        x.change(0, 3, 9);
        Check.due("none is too high", x.tooHigh(), Check.NONE);
        x.setNumber(1, 0);
        Check.due("whatever the level is", x.tooHigh(), Check.NONE);
        x.change(0, 1, 3);
        x.ask(2);
        Check.due("with the cut that is asked", x.tooHigh(), 8);
        x.ask(4);
        Check.due("no plan by the lowest level", x.tooHigh(), 0);
        x.ask(0);
        x.change(0, 3, 0);
        Check.due("by level 0 only", x.tooHigh(), 1);
        x.change(1, 2, 0);
        Check.due("no cliff by any", x.tooHigh(), 0);
    }
}
