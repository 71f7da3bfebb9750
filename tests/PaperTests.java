/** Promises 5 and 6. */
final class PaperTests {
    private PaperTests() {
    }

    static void run() {
        setWeek();
        setNumber();
        numbersTakePart();
    }

    private static void setWeek() {
        CliffSerial x = new CliffSerial();
        Check.due("most room", x.setWeek(0, 4, 0), 1200);
        Check.due("room at least 0", x.setWeek(29, 1, 999), 0);
        Check.due("less the adverts", x.setWeek(7, 3, 150), 750);
        int[] set = {3, 150, 750, Check.NONE, Check.NONE};
        for (int what = 0; what < set.length; what++) {
            Check.due("week(7, " + what + ")", x.week(7, what), set[what]);
        }
        Check.due("another week", x.week(8, 0), 2);
        Check.due("each is recorded", x.count(19), 3);
        int[][] wrong = {{-1, 1, 0}, {30, 1, 0}, {0, 0, 0}, {0, 5, 0}, {0, 1, -1}, {0, 1, 1000}};
        for (int[] row : wrong) {
            Check.due("setWeek(" + row[0] + ", " + row[1] + ", " + row[2] + ")",
                    x.setWeek(row[0], row[1], row[2]), Check.INVALID);
        }
        Check.due("nothing recorded", x.count(19), 3);
        x.skip();
        Check.due("a week that has passed", x.setWeek(0, 1, 0), Check.INVALID);
        Check.due("the present week", x.setWeek(1, 1, 1), 299);
        Make.skip(x, 29);
        Check.due("all weeks have passed", x.setWeek(29, 1, 0), Check.INVALID);
        Check.due("week 30", x.setWeek(30, 1, 0), Check.INVALID);
    }

    private static void setNumber() {
        CliffSerial x = new CliffSerial();
        int[] first = {300, 5, 400, 2};
        int[] lowest = {50, 0, 0, 1};
        int[] highest = {999, 9, 999, 9};
        for (int what = 0; what < first.length; what++) {
            String call = "setNumber(" + what + ", ..)";
            Check.due(call + " to the lowest", x.setNumber(what, lowest[what]), first[what]);
            Check.due(call + " to the highest", x.setNumber(what, highest[what]), lowest[what]);
            Check.due(call + " is told", x.count(5 + what), highest[what]);
            int states = x.count(19);
            Check.due(call + " too low", x.setNumber(what, lowest[what] - 1), Check.INVALID);
            Check.due(call + " too high", x.setNumber(what, highest[what] + 1), Check.INVALID);
            Check.due(call + " nothing recorded", x.count(19), states);
        }
        Check.due("what -1", x.setNumber(-1, 5), Check.INVALID);
        Check.due("what 4", x.setNumber(4, 5), Check.INVALID);
        Check.due("it is an action", x.undo(), 5);
        Check.due("the rate as before", x.count(8), 1);
    }

    private static void numbersTakePart() {
        CliffSerial x = Make.novel("a300!4 b300!4");
        Check.due("level 5", x.why(1), 4);
        x.setWeek(0, 1, 0);
        Check.due("tension below the level", x.why(1), 5);
        x.setNumber(1, 4);
        Check.due("tension as the level", x.why(1), 0);
        x.setNumber(0, 299);
        Check.due("a smaller sheet", x.why(1), 3);
        Check.due("the same in all weeks", x.week(13, 2), 598);
        x.setNumber(0, 300);
        x.setNumber(2, 100);
        x.setNumber(3, 9);
        x.set(1);
        Check.due("set numbers while one is set", x.setNumber(3, 7), 9);
        Check.due("set the week while one is set", x.setWeek(0, 1, 0), 300);
        x.print();
        Check.due("owed by the quota", x.count(9), -100);
        Check.due("earned by the rate", x.count(15), 7 * 300 + 40);
    }
}
