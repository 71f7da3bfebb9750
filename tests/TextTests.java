/** Promises 16 to 18. */
final class TextTests {
    private TextTests() {
    }

    static void run() {
        append();
        clearText();
        readsScenes();
        tellsTheFault();
        readRefuses();
        readsTwenty();
    }

    private static void append() {
        CliffSerial x = new CliffSerial();
        Check.due("append(0)", x.append(0), Check.INVALID);
        Check.due("append(256)", x.append(256), Check.INVALID);
        Check.due("append(-1)", x.append(-1), Check.INVALID);
        Check.due("append(1)", x.append(1), 1);
        Check.due("append(255)", x.append(255), 2);
        for (int i = 3; i <= 100; i++) {
            Check.due("append", x.append('a'), i);
        }
        Check.due("no room", x.append('a'), Check.FULL);
        Check.due("invalid goes first", x.append(256), Check.INVALID);
        Check.due("length", x.count(20), 100);
        Check.due("no action", x.count(19), 0);
    }

    private static void clearText() {
        CliffSerial x = new CliffSerial();
        Check.due("clear the empty text", x.clearText(), 0);
        Make.write(x, "a1!1");
        Check.due("clear", x.clearText(), 4);
        Check.due("empty", x.count(20), 0);
        Check.due("no action", x.count(19), 0);
        Make.write(x, "b2");
        Check.due("nothing of the old text is read", x.read(), -1002);
        Make.write(x, "!2");
        Check.due("a new text", x.read(), 1);
        Check.due("its strand", x.scene(0, 2), 1);
    }

    private static void readsScenes() {
        CliffSerial x = Make.novel("c600!9 d600!3");
        x.set(1);
        x.print();
        Make.write(x, "a999-998!9;f2-1!0;c10-9!5");
        Check.due("read", x.read(), 3);
        Check.due("empty then", x.count(20), 0);
        Check.due("five scenes", x.count(0), 5);
        int[][] rows = {{999, 998, 0, 9}, {2, 1, 5, 0}, {10, 9, 2, 5}};
        for (int i = 0; i < rows.length; i++) {
            for (int what = 0; what < 4; what++) {
                Check.due("read scene " + i + ", " + what, x.scene(2 + i, what), rows[i][what]);
            }
            Check.due("it is to come", x.scene(2 + i, 5), Check.NONE);
            Check.due("it has no cut", x.scene(2 + i, 4), 0);
        }
        Check.due("one action", x.count(19), 5);
        Make.write(x, "b70!4");
        Check.due("read one more", x.read(), 1);
        Check.due("without the slack of the text before", x.scene(5, 1), 0);
        x.undo();
        x.undo();
        Check.due("all are taken back", x.count(0), 2);
        Check.due("the text is not", x.count(20), 0);
    }

    private static void tellsTheFault() {
        String[] texts = {"", "a", "a1", "a12", "a123", "a1-", "a1-1", "a100-111", "a1!", "a1!1;", "g1!1",
            "A1!1", "1!1", "`1!1", "a0!1", "a!1", "a1234!1", "a1-0!1", "a1-!1", "a100-1234!1", "a1;1",
            "a1!a", "a1!;", "a1!12", "a1!1,b1!1", "a1!1;;", "a1!1 ", "a1!1;b1!1x", "a1-1-1!1",
            "a1:!1", "a1!/", "a1!:", "a01!1", "a1!1;b", "a1!1;b20-10", "a1-1;"};
        int[] faults = {0, 1, 2, 3, 4, 3, 4, 8, 3, 5, 0,
            0, 0, 0, 1, 1, 4, 3, 3, 8, 2,
            3, 3, 4, 4, 5, 4, 9, 4,
            2, 3, 3, 1, 6, 11, 4};
        for (int i = 0; i < texts.length; i++) {
            CliffSerial x = new CliffSerial();
            Make.write(x, texts[i]);
            Check.due("read of \"" + texts[i] + "\"", x.read(), -1000 - faults[i]);
            Check.due("the text stays", x.count(20), texts[i].length());
            Check.due("no scene", x.count(0), 0);
            Check.due("nothing recorded", x.count(19), 0);
        }
        CliffSerial x = new CliffSerial();
        x.append('a');
        x.append(178);
        Check.due("a character above 127", x.read(), -1001);
    }

    private static void readRefuses() {
        CliffSerial x = Make.novel("a600!9 b600!9");
        for (int i = 2; i < 19; i++) {
            x.insert(i, 10, 0, 0, 0);
        }
        x.set(1);
        Make.write(x, "a9-9!1;b1!1;");
        Check.due("the fault goes first", x.read(), -1012);
        Make.write(x, "c1!1");
        Check.due("then the slack", x.read(), Check.INVALID);
        x.clearText();
        Make.write(x, "a9-8!1;b1!1");
        Check.due("then what is set", x.read(), Check.ILLEGAL);
        x.unset();
        int states = x.count(19);
        Check.due("then the room", x.read(), Check.FULL);
        Check.due("none of them", x.count(0), 19);
        Check.due("the text stays", x.count(20), 11);
        Check.due("nothing recorded", x.count(19), states);
        x.clearText();
        Make.write(x, "a10-11!1");
        Check.due("a slack above the words", x.read(), Check.INVALID);
        x.clearText();
        Make.write(x, "e9-8!1");
        Check.due("the twentieth", x.read(), 1);
        Check.due("its strand", x.scene(19, 2), 4);
    }

    private static void readsTwenty() {
        CliffSerial x = new CliffSerial();
        for (int i = 0; i < 20; i++) {
            Make.write(x, "a" + (i % 9 + 1) + "!" + i % 10 + ";");
        }
        Check.due("100 characters", x.count(20), 100);
        Check.due("it ends too early", x.read(), -1100);
        x.clearText();
        for (int i = 0; i < 20; i++) {
            Make.write(x, (i == 0 ? "a" : ";a") + (i % 9 + 1) + "!" + i % 10);
        }
        Check.due("twenty", x.read(), 20);
        Make.write(x, "a1-");
        Check.due("a new text", x.read(), -1003);
        for (int i = 0; i < 20; i++) {
            Check.due("words", x.scene(i, 0), i % 9 + 1);
            Check.due("tension", x.scene(i, 3), i % 10);
        }
    }
}
