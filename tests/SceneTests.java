/** Promises 2 to 4. */
final class SceneTests {
    private SceneTests() {
    }

    static void run() {
        insertGoesBetween();
        insertRefuses();
        removeMovesTheOthers();
        removeRefuses();
        changeOfEach();
        changeRefuses();
    }

    private static void words(CliffSerial x, int... words) {
        Check.due("number of scenes", x.count(0), words.length);
        for (int i = 0; i < words.length; i++) {
            Check.due("words of scene " + i, x.scene(i, 0), words[i]);
        }
    }

    private static void insertGoesBetween() {
        CliffSerial x = new CliffSerial();
        Check.due("insert first", x.insert(0, 999, 998, 5, 9), 1);
        Check.due("insert ahead", x.insert(0, 1, 0, 0, 0), 2);
        Check.due("insert between", x.insert(1, 50, 20, 3, 4), 3);
        Check.due("insert behind", x.insert(3, 60, 0, 1, 2), 4);
        words(x, 1, 50, 999, 60);
        int[] between = {50, 20, 3, 4, 0, Check.NONE};
        for (int what = 0; what < between.length; what++) {
            Check.due("scene(1, " + what + ")", x.scene(1, what), between[what]);
        }
        int[] moved = {999, 998, 5, 9, 0, Check.NONE};
        for (int what = 0; what < moved.length; what++) {
            Check.due("scene(2, " + what + ")", x.scene(2, what), moved[what]);
        }
        Check.due("each insert is recorded", x.count(19), 4);
    }

    private static void insertRefuses() {
        CliffSerial x = Make.novel("a200!9 b200!9 c200!9");
        x.setNumber(0, 200);
        x.setWeek(0, 1, 0);
        x.set(1);
        x.print();
        int states = x.count(19);
        Check.due("at a printed scene", x.insert(0, 1, 0, 0, 0), Check.INVALID);
        Check.due("too far behind", x.insert(4, 1, 0, 0, 0), Check.INVALID);
        Check.due("at -1", x.insert(-1, 1, 0, 0, 0), Check.INVALID);
        Check.due("at the greatest", x.insert(Integer.MAX_VALUE, 1, 0, 0, 0), Check.INVALID);
        Check.due("words 0", x.insert(1, 0, 0, 0, 0), Check.INVALID);
        Check.due("words 1000", x.insert(1, 1000, 0, 0, 0), Check.INVALID);
        Check.due("slack -1", x.insert(1, 5, -1, 0, 0), Check.INVALID);
        Check.due("slack as words", x.insert(1, 5, 5, 0, 0), Check.INVALID);
        Check.due("strand -1", x.insert(1, 5, 4, -1, 0), Check.INVALID);
        Check.due("strand 6", x.insert(1, 5, 4, 6, 0), Check.INVALID);
        Check.due("tension -1", x.insert(1, 5, 4, 0, -1), Check.INVALID);
        Check.due("tension 10", x.insert(1, 5, 4, 0, 10), Check.INVALID);
        Check.due("nothing recorded", x.count(19), states);
        words(x, 200, 200, 200);
        Check.due("at the first to come", x.insert(1, 5, 4, 0, 0), 4);
        words(x, 200, 5, 200, 200);
        x.remove(1);
        x.setWeek(1, 1, 0);
        Check.due("set", x.set(1), 200);
        Check.due("something is set", x.insert(1, 5, 4, 0, 0), Check.ILLEGAL);
        Check.due("invalid goes first", x.insert(0, 5, 4, 0, 0), Check.INVALID);
        x.unset();
        for (int i = 3; i < 20; i++) {
            Check.due("up to 20", x.insert(i, 5, 4, 0, 0), i + 1);
        }
        states = x.count(19);
        Check.due("20 are there", x.insert(20, 5, 4, 0, 0), Check.FULL);
        Check.due("20 are there, ahead", x.insert(1, 5, 4, 0, 0), Check.FULL);
        Check.due("invalid ahead of full", x.insert(21, 5, 4, 0, 0), Check.INVALID);
        Check.due("nothing recorded by full", x.count(19), states);
        Check.due("still 20", x.count(0), 20);
        Check.due("set of 20", x.set(1), 200);
        Check.due("set ahead of full", x.insert(20, 5, 4, 0, 0), Check.ILLEGAL);
    }

    private static void removeMovesTheOthers() {
        CliffSerial x = Make.novel("a10-1!1 b20-2!2 c30-3!3 d40-4!4");
        Check.due("remove(1)", x.remove(1), 3);
        words(x, 10, 30, 40);
        int[] moved = {30, 3, 2, 3};
        for (int what = 0; what < moved.length; what++) {
            Check.due("moved scene, " + what, x.scene(1, what), moved[what]);
        }
        Check.due("remove the last", x.remove(2), 2);
        words(x, 10, 30);
        Check.due("remove the first", x.remove(0), 1);
        words(x, 30);
        Check.due("remove the only one", x.remove(0), 0);
        Check.due("none there", x.scene(0, 0), Check.INVALID);
        Check.due("remove of none", x.remove(0), Check.INVALID);
        for (int i = 0; i < 20; i++) {
            x.insert(i, 10 + i, 0, 0, 0);
        }
        Check.due("one of twenty", x.remove(0), 19);
        Check.due("the last of nineteen", x.scene(18, 0), 29);
        Check.due("no twentieth", x.scene(19, 0), Check.INVALID);
    }

    private static void removeRefuses() {
        CliffSerial x = Make.novel("a600!9 b600!9 c600!9");
        x.set(1);
        Check.due("something is set", x.remove(1), Check.ILLEGAL);
        Check.due("invalid goes first", x.remove(3), Check.INVALID);
        x.print();
        int states = x.count(19);
        Check.due("printed scene", x.remove(0), Check.INVALID);
        Check.due("no scene", x.remove(3), Check.INVALID);
        Check.due("scene -1", x.remove(-1), Check.INVALID);
        Check.due("nothing recorded", x.count(19), states);
        Check.due("first to come", x.remove(1), 2);
        words(x, 600, 600);
        Check.due("the printed one stays", x.scene(0, 5), 0);
    }

    private static void changeOfEach() {
        CliffSerial x = Make.novel("a10-1!1 b20-2!2");
        Check.due("words", x.change(1, 0, 999), 20);
        Check.due("slack", x.change(1, 1, 998), 2);
        Check.due("strand", x.change(1, 2, 5), 1);
        Check.due("tension", x.change(1, 3, 9), 2);
        int[] changed = {999, 998, 5, 9};
        int[] other = {10, 1, 0, 1};
        for (int what = 0; what < changed.length; what++) {
            Check.due("changed, " + what, x.scene(1, what), changed[what]);
            Check.due("not changed, " + what, x.scene(0, what), other[what]);
        }
        Check.due("words just above the slack", x.change(0, 0, 2), 10);
        Check.due("slack 0", x.change(0, 1, 0), 1);
        Check.due("words 1", x.change(0, 0, 1), 2);
        Check.due("strand 0", x.change(0, 2, 0), 0);
        Check.due("tension 0", x.change(0, 3, 0), 1);
        Check.due("each is recorded", x.count(19), 6);
    }

    private static void changeRefuses() {
        CliffSerial x = Make.novel("a600-300!9 b600-300!9 c600!9");
        x.set(1);
        Check.due("something is set", x.change(1, 3, 5), Check.ILLEGAL);
        Check.due("invalid goes first", x.change(1, 3, 10), Check.INVALID);
        x.print();
        int states = x.count(19);
        int[][] wrong = {{0, 3, 5}, {3, 3, 5}, {-1, 3, 5}, {1, -1, 5}, {1, 4, 5}, {1, 0, 300},
            {1, 0, 0}, {1, 0, 1000}, {1, 1, 600}, {1, 1, -1}, {1, 1, 999}, {1, 2, -1}, {1, 2, 6},
            {1, 3, -1}, {1, 3, 10}, {2, 0, 0}, {2, 0, -5}, {1, Integer.MIN_VALUE, 1}};
        for (int[] row : wrong) {
            Check.due("change(" + row[0] + ", " + row[1] + ", " + row[2] + ")",
                    x.change(row[0], row[1], row[2]), Check.INVALID);
        }
        Check.due("nothing recorded", x.count(19), states);
        Check.due("words just above the slack", x.change(1, 0, 301), 600);
        Check.due("slack just below the words", x.change(1, 1, 300), 300);
        Check.due("slack as the words", x.change(1, 1, 301), Check.INVALID);
    }
}
