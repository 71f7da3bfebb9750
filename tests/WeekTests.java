/** Promises 7 to 12. */
final class WeekTests {
    private WeekTests() {
    }

    static void run() {
        ask();
        lateCuts();
        set();
        unset();
        mendTakesTheNearest();
        mendTakesTheFewer();
        mendRefuses();
        print();
        printTakesTheCut();
        halfOfTheSlackLosesNothing();
        sumsOfTwoInstalments();
        skip();
        moneyIsRoundedDown();
    }

    private static void ask() {
        CliffSerial x = Make.novel("a600!9");
        Check.due("ask(999)", x.ask(999), 0);
        Check.due("ask(0)", x.ask(0), 999);
        Check.due("ask(7)", x.ask(7), 0);
        Check.due("count(3)", x.count(3), 7);
        Check.due("each is recorded", x.count(19), 4);
        Check.due("ask(-1)", x.ask(-1), Check.INVALID);
        Check.due("ask(1000)", x.ask(1000), Check.INVALID);
        Check.due("still 7", x.count(3), 7);
        Check.due("nothing recorded", x.count(19), 4);
        x.skip();
        Check.due("0 in the next week", x.count(3), 0);
        Make.skip(x, 29);
        Check.due("when all weeks have passed", x.ask(5), 0);
        Check.due("then asked", x.count(3), 5);
        Check.due("none was late", x.count(14), 0);
    }

    private static void lateCuts() {
        CliffSerial x = Make.novel("a600-300!9 b600!9");
        x.set(1);
        x.ask(10);
        x.ask(10);
        x.ask(1000);
        Check.due("late cuts", x.count(14), 2);
        x.unset();
        x.ask(20);
        Check.due("not late", x.count(14), 2);
        x.undo();
        x.undo();
        x.undo();
        Check.due("late cuts are undone", x.count(14), 1);
    }

    private static void set() {
        CliffSerial x = Make.novel("a400-50!9 b200!9 c600!9");
        x.ask(20);
        int states = x.count(19);
        Check.due("set(0)", x.set(0), Check.INVALID);
        Check.due("set(-1)", x.set(-1), Check.INVALID);
        Check.due("set(4)", x.set(4), Check.INVALID);
        Check.due("set(greatest)", x.set(Integer.MAX_VALUE), Check.INVALID);
        Check.due("not good", x.set(3), Check.ILLEGAL);
        Check.due("nothing recorded", x.count(19), states);
        Check.due("set(2)", x.set(2), 580);
        Check.due("count(4)", x.count(4), 2);
        Check.due("recorded", x.count(19), states + 1);
        Check.due("set already", x.set(2), Check.ILLEGAL);
        Check.due("invalid goes first", x.set(0), Check.INVALID);
        Check.due("the scenes are still to come", x.count(1), 0);
        CliffSerial late = Make.novel("a600!9");
        Make.skip(late, 29);
        Check.due("set in week 29", late.set(1), 600);
        late.undo();
        late.skip();
        Check.due("all weeks have passed", late.set(1), Check.ILLEGAL);
        Check.due("invalid goes first then", late.set(2), Check.INVALID);
    }

    private static void unset() {
        CliffSerial x = Make.novel("a200!9 b300!9 c600!9");
        Check.due("nothing is set", x.unset(), Check.ILLEGAL);
        x.set(2);
        int states = x.count(19);
        Check.due("unset", x.unset(), 2);
        Check.due("recorded", x.count(19), states + 1);
        Check.due("nothing is set then", x.count(4), 0);
        Check.due("unset again", x.unset(), Check.ILLEGAL);
        Check.due("scenes can be changed", x.change(0, 3, 1), 9);
    }

    private static void mendTakesTheNearest() {
        CliffSerial x = Make.novel("a310!9 b100!9 c100!9 d90!9 e300!9 f500!9");
        x.set(4);
        x.setWeek(0, 2, 250);
        int states = x.count(19);
        Check.due("down to one", x.mend(), 1);
        Check.due("set in its place", x.count(4), 1);
        Check.due("recorded", x.count(19), Math.min(6, states + 1));
        x.setWeek(0, 3, 250);
        Check.due("up to two, though three and four are good", x.mend(), 2);
        Check.due("it is good then", x.mend(), Check.ILLEGAL);
        Check.due("and can be printed", x.print(), 410);
        // By the cut b and c lose their cliffs: one and four scenes are good.
        CliffSerial y = Make.novel("a350-60!9 b20-2!9 c20-2!9 d100-9!9 e600!9");
        y.setNumber(1, 8);
        y.set(3);
        y.ask(2);
        Check.due("why(1)", y.why(1), 0);
        Check.due("why(2)", y.why(2), 5);
        Check.due("why(3)", y.why(3), 5);
        Check.due("four is nearer than one", y.mend(), 4);
    }

    private static void mendTakesTheFewer() {
        CliffSerial x = Make.novel("a350-60!9 b20-2!9 c100-9!9 d600!9");
        x.setNumber(1, 8);
        x.set(2);
        x.ask(2);
        Check.due("its cliff is lost", x.print(), Check.ILLEGAL);
        Check.due("three would be good", x.why(3), 0);
        Check.due("of one and three the one", x.mend(), 1);
    }

    private static void mendRefuses() {
        CliffSerial x = Make.novel("a600!9 b600!9");
        Check.due("nothing is set", x.mend(), Check.ILLEGAL);
        x.set(1);
        Check.due("good", x.mend(), Check.ILLEGAL);
        x.ask(1);
        int states = x.count(19);
        Check.due("no instalment is good", x.mend(), Check.ILLEGAL);
        Check.due("nothing recorded", x.count(19), states);
        Check.due("what was set stays", x.count(4), 1);
    }

    private static void print() {
        CliffSerial x = Make.novel("a200!1 b300!9 c400!9 d90!0");
        Check.due("nothing is set", x.print(), Check.ILLEGAL);
        x.set(2);
        int states = x.count(19);
        Check.due("print", x.print(), 500);
        Check.due("recorded", x.count(19), states + 1);
        int[] numbers = {4, 2, 1, 0, 0, 300, 5, 400, 2, -100, 500, 0, 1, 0, 0, 1090, 0, 1};
        for (int what = 0; what < numbers.length; what++) {
            Check.due("count(" + what + ")", x.count(what), numbers[what]);
        }
        Check.due("words in the week", x.week(0, 3), 500);
        Check.due("scenes in the week", x.week(0, 4), 2);
        Check.due("the week of its scene", x.scene(1, 5), 0);
        Check.due("no week of the next scene", x.scene(2, 5), Check.NONE);
        Check.due("print again", x.print(), Check.ILLEGAL);
        x.skip();
        Check.due("the last two", x.set(2), 490);
        Check.due("print ends the novel", x.print(), 490);
        Check.due("the week is 2", x.scene(3, 5), 2);
        Check.due("earned without tension", x.count(15), 1090 + 980);
        Check.due("owed", x.count(9), 210);
        Check.due("fines", x.count(16), 30 + 21);
        Check.due("nothing to come", x.set(1), Check.INVALID);
        x.undo();
        Check.due("set again by undo", x.count(4), 2);
        x.setNumber(0, 400);
        Check.due("not good any more", x.print(), 490);
        x.undo();
        x.setNumber(0, 200);
        Check.due("too many words now", x.print(), Check.ILLEGAL);
        Check.due("nothing printed", x.count(1), 2);
    }

    private static void printTakesTheCut() {
        CliffSerial x = Make.novel("a400-100!7 b100-50!1 c100-40!8 d600!6");
        x.set(3);
        x.ask(100);
        int[] cuts = {10, 50, 40};
        for (int i = 0; i < 3; i++) {
            Check.due("cutFrom(3, " + i + ")", x.cutFrom(3, i), cuts[i]);
        }
        Check.due("tension 6 and another strand: a cliff", x.print(), 500);
        int[] tensions = {7, 0, 6, 6};
        int[] slacks = {100, 50, 40, 0};
        int[] words = {400, 100, 100, 600};
        for (int i = 0; i < 4; i++) {
            Check.due("tension of " + i, x.scene(i, 3), tensions[i]);
            Check.due("slack of " + i, x.scene(i, 1), slacks[i]);
            Check.due("words of " + i, x.scene(i, 0), words[i]);
            Check.due("cut from " + i, x.scene(i, 4), i < 3 ? cuts[i] : 0);
        }
        Check.due("cut so far", x.count(11), 100);
        Check.due("printed so far", x.count(10), 500);
        Check.due("earned by the tension that is left", x.count(15), 1000 + 60);
        Check.due("no cut is asked then", x.count(3), 0);
        Check.due("late cuts", x.count(14), 1);
    }

    private static void halfOfTheSlackLosesNothing() {
        CliffSerial x = Make.novel("a600-41!5 b600!9");
        x.ask(20);
        Check.due("20 of 41", x.why(1), 0);
        x.ask(21);
        Check.due("21 of 41", x.why(1), 5);
        x.change(0, 1, 42);
        Check.due("21 of 42", x.why(1), 0);
        x.set(1);
        x.print();
        Check.due("nothing is lost", x.scene(0, 3), 5);
        CliffSerial z = Make.novel("a500-20!5 b100!5 c600!9 d600!9");
        z.ask(20);
        Check.due("a slack of 0 loses nothing", z.why(2), 0);
        z.set(2);
        z.print();
        Check.due("tension of the one that was cut", z.scene(0, 3), 3);
        Check.due("tension of the other one", z.scene(1, 3), 5);
        for (int tension = 0; tension <= 9; tension++) {
            CliffSerial one = Make.novel("a600-10!" + tension);
            one.ask(6);
            one.set(1);
            one.print();
            Check.due("2 less than " + tension, one.scene(0, 3), Math.max(0, tension - 2));
        }
        CliffSerial y = Make.novel("a600-10!1");
        y.ask(10);
        y.set(1);
        Check.due("the last one", y.print(), 590);
        Check.due("it keeps 0", y.scene(0, 3), 0);
        Check.due("earned", y.count(15), 1180);
    }

    private static void sumsOfTwoInstalments() {
        CliffSerial x = Make.novel("a600-30!9 b600-200!8 c600!0");
        x.ask(10);
        x.set(1);
        x.print();
        x.ask(20);
        x.set(1);
        x.ask(30);
        x.print();
        Check.due("words printed", x.count(10), 590 + 570);
        Check.due("words cut", x.count(11), 40);
        Check.due("instalments", x.count(12), 2);
        Check.due("late cuts", x.count(14), 1);
        Check.due("earned", x.count(15), 2 * 1160 + 10 * (9 + 8));
        Check.due("owed", x.count(9), -190 - 170);
        Check.due("words of week 0", x.week(0, 3), 590);
        Check.due("words of week 1", x.week(1, 3), 570);
    }

    private static void skip() {
        CliffSerial x = Make.novel("a600!9 b600!9");
        x.ask(5);
        Check.due("skip", x.skip(), 400);
        Check.due("the cut is gone", x.count(3), 0);
        Check.due("week 1", x.count(2), 1);
        Check.due("skipped", x.count(13), 1);
        Check.due("words of it", x.week(0, 3), 0);
        Check.due("scenes of it", x.week(0, 4), 0);
        Check.due("fine", x.count(16), 40);
        x.set(1);
        Check.due("something is set", x.skip(), Check.ILLEGAL);
        x.print();
        Check.due("owed less", x.count(9), 200);
        Check.due("fine for what is owed still", x.count(16), 60);
        x.setNumber(2, 0);
        Check.due("a quota of 0", x.skip(), 200);
        x.set(1);
        x.print();
        Check.due("not below the quota", x.count(9), 0);
        Make.skip(x, 25);
        Check.due("week 29", x.count(2), 29);
        Check.due("skip the last", x.skip(), 0);
        Check.due("all have passed", x.count(2), 30);
        int states = x.count(19);
        Check.due("no week to skip", x.skip(), Check.ILLEGAL);
        Check.due("nothing recorded", x.count(19), states);
        CliffSerial y = Make.novel("a600!9 b600!9");
        y.setNumber(2, 300);
        y.set(1);
        y.print();
        Check.due("300 below 0", y.count(9), -300);
        y.setNumber(2, 100);
        Check.due("100 below 0 by the new quota", y.skip(), -100);
        Check.due("0 owed, no fine", y.skip(), 0);
        Check.due("no fines", y.count(16), 0);
    }

    private static void moneyIsRoundedDown() {
        CliffSerial x = new CliffSerial();
        x.setNumber(2, 19);
        x.skip();
        Check.due("a tenth of 19", x.count(16), 1);
        x.skip();
        Check.due("and of 38", x.count(16), 4);
    }
}
