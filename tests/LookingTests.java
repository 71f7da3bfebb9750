/** Promises 19 to 25. */
final class LookingTests {
    private LookingTests() {
    }

    static void run() {
        count();
        scene();
        cliffs();
        week();
        why();
        whyAtTheEnd();
        cutFrom();
        since();
        strand();
    }

    private static void count() {
        CliffSerial x = new CliffSerial();
        Check.due("count(-1)", x.count(-1), Check.INVALID);
        Check.due("count(21)", x.count(21), Check.INVALID);
        Check.due("count(lowest)", x.count(Integer.MIN_VALUE), Check.INVALID);
        x = Make.novel("a300-100!7 b200-40!8 c590!9");
        x.take(1);
        x.set(2);
        x.ask(80);
        Make.write(x, "hello");
        Check.due("print", x.print(), 420);
        int[] numbers = {3, 2, 1, 0, 0, 300, 5, 400, 2, -20, 420, 80, 1, 0, 1, 900, 0, 1, 1, 6, 5};
        for (int what = 0; what < numbers.length; what++) {
            Check.due("count(" + what + ")", x.count(what), numbers[what]);
        }
        x.skip();
        Check.due("skipped", x.count(13), 1);
        Check.due("fines", x.count(16), 38);
        Check.due("the strand stays the last", x.count(17), 1);
    }

    private static void scene() {
        int[][] due = {
            {300, 100, 0, 7, 30, 0, 1},
            {200, 50, 1, 3, 50, 0, 0},
            {590, 0, 1, 9, 0, Check.NONE, 1},
            {400, 80, 2, 8, 0, Check.NONE, 1},
            {300, 0, 0, 6, 0, Check.NONE, 1},
            {100, 0, 3, 1, 0, Check.NONE, 0}};
        CliffSerial x = Make.novel("a300-100!7 b200-50!5 b590!9 c400-80!8 a300!6 d100!1");
        x.setNumber(1, 3);
        x.ask(80);
        x.set(2);
        Check.due("not at a cliff", x.count(4), 0);
        x.change(2, 3, 2);
        Check.due("now at one", x.set(2), 420);
        x.print();
        x.change(2, 3, 9);
        x.setNumber(1, 5);
        for (int i = 0; i < due.length; i++) {
            for (int what = 0; what < 7; what++) {
                Check.due("scene(" + i + ", " + what + ")", x.scene(i, what), due[i][what]);
            }
        }
        Check.due("scene(-1, 0)", x.scene(-1, 0), Check.INVALID);
        Check.due("scene(6, 0)", x.scene(6, 0), Check.INVALID);
        Check.due("scene(0, -1)", x.scene(0, -1), Check.INVALID);
        Check.due("scene(0, 7)", x.scene(0, 7), Check.INVALID);
    }

    private static void cliffs() {
        CliffSerial x = Make.novel("a100!6 a100!6 a100!5 b100!9 b100!9 b100!4");
        int[] due = {0, 1, 1, 0, 1, 0};
        for (int i = 0; i < due.length; i++) {
            Check.due("cliff behind " + i, x.scene(i, 6), due[i]);
        }
        x.setNumber(1, 6);
        Check.due("below the level", x.scene(2, 6), 0);
        x.setNumber(1, 0);
        Check.due("the last of all", x.scene(5, 6), 0);
        // The scene behind a printed one may be printed too, and have lost tension.
        CliffSerial y = Make.novel("a300!6 a200-20!7 c600!9");
        Check.due("no cliff", y.scene(0, 6), 0);
        y.ask(20);
        Check.due("set", y.set(2), 480);
        y.print();
        Check.due("tension 5 behind", y.scene(1, 3), 5);
        Check.due("a cliff now", y.scene(0, 6), 1);
        y.setNumber(1, 7);
        Check.due("not by this level", y.scene(0, 6), 0);
    }

    private static void week() {
        CliffSerial x = Make.novel("a300-100!7 b200-40!8 c590!9");
        x.setWeek(0, 2, 10);
        x.setWeek(29, 4, 999);
        x.ask(80);
        x.set(2);
        x.print();
        x.skip();
        int[][] due = {{2, 10, 590, 420, 2}, {2, 0, 600, 0, 0}, {2, 0, 600, Check.NONE, Check.NONE}};
        for (int i = 0; i < due.length; i++) {
            for (int what = 0; what < 5; what++) {
                Check.due("week(" + i + ", " + what + ")", x.week(i, what), due[i][what]);
            }
        }
        Check.due("room of week 29", x.week(29, 2), 201);
        x.setNumber(0, 100);
        Check.due("the room of a week that has passed", x.week(0, 2), 190);
        Check.due("room at least 0", x.week(29, 2), 0);
        Check.due("week(-1, 0)", x.week(-1, 0), Check.INVALID);
        Check.due("week(30, 0)", x.week(30, 0), Check.INVALID);
        Check.due("week(0, -1)", x.week(0, -1), Check.INVALID);
        Check.due("week(0, 5)", x.week(0, 5), Check.INVALID);
    }

    private static void why() {
        CliffSerial x = Make.novel("a300-10!9 a1!4 b299-9!5 a1!9 c600!9 d500!9 e900!9");
        int[] due = {1, 4, 5, 5, 3, 3, 3, 3, 1};
        x.change(2, 3, 4);
        for (int scenes = 0; scenes < due.length; scenes++) {
            Check.due("why(" + scenes + ")", x.why(scenes), due[scenes]);
        }
        Check.due("why(-1)", x.why(-1), 1);
        Check.due("why(greatest)", x.why(Integer.MAX_VALUE), 1);
        Check.due("why(lowest)", x.why(Integer.MIN_VALUE), 1);
        x.change(2, 3, 5);
        Check.due("good with all the room", x.why(3), 0);
        x.ask(10);
        Check.due("reason 2 ahead of 4", x.why(1), 4);
        x.ask(11);
        Check.due("slack 10", x.why(1), 2);
        Check.due("slack 10 still", x.why(2), 2);
        Check.due("the last one loses its cliff", x.why(3), 5);
        x.ask(19);
        Check.due("slack 19", x.why(3), 5);
        x.ask(20);
        Check.due("slack 19 only", x.why(3), 2);
        x.ask(0);
        x.set(3);
        x.print();
        Check.due("words 1: a sheet less", x.why(1), 4);
        Check.due("too many", x.why(2), 3);
        x.setWeek(1, 3, 0);
        Check.due("another strand", x.why(2), 0);
        x.change(4, 2, 1);
        Check.due("the strand of the last scene printed", x.why(2), 6);
        x.skip();
        x.setWeek(2, 3, 0);
        Check.due("also when a week was skipped", x.why(2), 6);
        Make.skip(x, 28);
        Check.due("all weeks have passed", x.why(2), Check.ILLEGAL);
        Check.due("also for no scene", x.why(0), Check.ILLEGAL);
    }

    private static void whyAtTheEnd() {
        CliffSerial x = Make.novel("a600!9 a400-5!0");
        x.set(1);
        x.print();
        Check.due("no cliff and the same strand", x.why(1), 0);
        x.ask(6);
        Check.due("reason 2 applies", x.why(1), 2);
        x.ask(0);
        x.setWeek(1, 1, 0);
        Check.due("reason 3 applies", x.why(1), 3);
        x.setWeek(1, 3, 0);
        Check.due("reason 4 applies", x.why(1), 4);
        x.setWeek(1, 3, 501);
        Check.due("just not", x.why(1), 3);
        x.setWeek(1, 3, 500);
        Check.due("just room", x.why(1), 0);
        x.setWeek(1, 4, 500);
        Check.due("exactly a sheet less", x.why(1), 4);
        x.setWeek(1, 4, 501);
        Check.due("a word too few for that", x.why(1), 0);
        x.setWeek(1, 1, 999);
        Check.due("no room at all", x.why(1), 3);
        x.remove(1);
        Check.due("nothing to come", x.why(1), 1);
        Check.due("nothing to come, no scene", x.why(0), 1);
    }

    private static void cutFrom() {
        CliffSerial x = Make.novel("a310-100!7 b200!5 c150-40!8 d400-120!6");
        int[][] due = {{4, 0, 0}, {4, 3, 120}, {4, 2, 15}, {4, 1, 0}, {3, 2, 40},
            {3, 1, 0}, {3, 0, 95}, {0, 0, Check.INVALID}, {-1, 0, Check.INVALID}, {5, 0, Check.INVALID},
            {3, 3, Check.INVALID}, {3, -1, Check.INVALID}, {Integer.MAX_VALUE, 0, Check.INVALID},
            {1, 0, Check.NONE}, {2, 0, Check.NONE}, {2, 1, Check.NONE}, {2, 2, Check.INVALID}};
        x.ask(100);
        Check.due("all of it", x.cutFrom(1, 0), 100);
        x.ask(135);
        for (int i = 0; i < due.length; i++) {
            Check.due("cutFrom(" + due[i][0] + ", " + due[i][1] + ")", x.cutFrom(due[i][0], due[i][1]), due[i][2]);
        }
        CliffSerial y = Make.novel("a600-300!7 b600-200!5");
        y.set(1);
        y.print();
        Check.due("a printed scene", y.cutFrom(1, 0), Check.INVALID);
        Check.due("no cut", y.cutFrom(1, 1), 0);
        Make.skip(y, 29);
        y.ask(7);
        Check.due("when all weeks have passed", y.cutFrom(1, 1), 7);
        Check.due("more than are to come", y.cutFrom(2, 1), Check.INVALID);
    }

    private static void since() {
        CliffSerial x = Make.novel("a300!9 b300!9 a600!9 c600!9 d600!9");
        Check.due("not yet", x.since(0), Check.NONE);
        x.set(2);
        x.print();
        Check.due("a just now", x.since(0), 0);
        Check.due("b just now", x.since(1), 0);
        Check.due("c not yet", x.since(2), Check.NONE);
        x.skip();
        Check.due("a a week ago", x.since(0), 1);
        x.set(1);
        x.print();
        Check.due("a again", x.since(0), 0);
        Check.due("b two weeks ago", x.since(1), 2);
        Make.skip(x, 27);
        Check.due("when all have passed", x.since(1), 29);
        Check.due("since(-1)", x.since(-1), Check.INVALID);
        Check.due("since(6)", x.since(6), Check.INVALID);
        Check.due("since(5)", x.since(5), Check.NONE);
    }

    private static void strand() {
        CliffSerial x = Make.novel("a300-100!7 a200-40!8 c590!9 a7!1 f8!1");
        Check.due("to come", x.strand(0, 1), 507);
        x.ask(80);
        x.set(2);
        Check.due("still to come, without the cut", x.strand(0, 1), 507);
        Check.due("nothing printed", x.strand(0, 0), 0);
        x.print();
        Check.due("printed, less the cut", x.strand(0, 0), 420);
        Check.due("still to come", x.strand(0, 1), 7);
        Check.due("c printed", x.strand(2, 0), 0);
        Check.due("c to come", x.strand(2, 1), 590);
        Check.due("f to come", x.strand(5, 1), 8);
        Check.due("strand(-1, 0)", x.strand(-1, 0), Check.INVALID);
        Check.due("strand(6, 0)", x.strand(6, 0), Check.INVALID);
        Check.due("strand(0, -1)", x.strand(0, -1), Check.INVALID);
        Check.due("strand(0, 2)", x.strand(0, 2), Check.INVALID);
    }
}
