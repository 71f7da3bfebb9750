/** The boundaries that the document names for the text and promises 16 to 18, a test for each sentence. */
final class EdgesOfText {
    private static final String SENTENCE = "The fault of the text is the index, from 0, of the first character that is"
            + " not allowed at its place, or the length of the text if it ends too early: ";

    private EdgesOfText() {
    }

    static void run() {
        length();
        append();
        clearText();
        scenesOfAText();
        strands();
        words();
        slacks();
        tensions();
        endsTooEarly();
        firstFault();
        longestTexts();
        readInsertsAll();
        readIsOneAction();
        readRefuses();
        readOrder();
    }

    private static void scenes(String text, int scenes) {
        Edge.due("A text of scenes: " + text, "text " + text, "read() = " + scenes, "count(20) = 0",
                "count(0) = " + scenes);
    }

    private static void fault(String text, int index) {
        Edge.due(SENTENCE + text, "text " + text, "read() = " + (-1000 - index), "count(20) = " + text.length(),
                "count(0) = 0", "count(19) = 0", "clearText() = " + text.length());
    }

    private static void length() {
        Edge.due("There is a text of at most 100 characters",
                "99 times append(97)", "count(20) = 99", "append(98) = 100", "append(98) = FULL", "count(20) = 100",
                "clearText() = 100", "append(98) = 1");
        Edge.due("empty at first", "count(20) = 0", "read() = -1000", "clearText() = 0");
    }

    private static void append() {
        Edge.due("character code, 1 to 255",
                "append(0) = INVALID", "append(-1) = INVALID", "append(1) = 1", "append(255) = 2",
                "append(256) = INVALID", "append(353) = INVALID", "append(MAX) = INVALID", "append(MIN) = INVALID",
                "count(20) = 2");
        Edge.due("Returns the new length of the text",
                "append(97) = 1", "append(49) = 2", "append(33) = 3", "append(49) = 4", "read() = 1", "append(97) = 1");
        Edge.due("INVALID_ARGUMENT if character is out of range; CAPACITY_EXCEEDED if the text already has 100",
                "100 times append(97)", "append(0) = INVALID", "append(256) = INVALID", "append(1) = FULL",
                "append(255) = FULL", "count(20) = 100");
        Edge.due("append is no action",
                "append(97) = 1", "count(19) = 0", "undo() = ILLEGAL", "ask(1) = 0", "append(97) = 2", "undo() = 0",
                "count(20) = 2");
        Edge.due("append when something is set, and when all weeks have passed",
                "scenes a600!9", "29 times skip()", "set(1) = 600", "append(97) = 1", "print() = 600", "append(97) = 2");
    }

    private static void clearText() {
        Edge.due("clearText: Makes the text empty. Returns the previous length of the text.",
                "clearText() = 0", "append(97) = 1", "clearText() = 1", "count(20) = 0", "clearText() = 0",
                "100 times append(97)", "clearText() = 100", "count(20) = 0", "read() = -1000");
        Edge.due("clearText: nothing of the previous text is left",
                "text a123-45!6", "clearText() = 9", "text b7", "read() = -1002", "text !8", "read() = 1",
                "scene(0, 0) = 7", "scene(0, 1) = 0", "scene(0, 2) = 1", "scene(0, 3) = 8");
        Edge.due("clearText is no action",
                "append(97) = 1", "clearText() = 1", "count(19) = 0", "undo() = ILLEGAL", "ask(1) = 0", "append(97) = 1",
                "clearText() = 1", "undo() = 0", "count(20) = 0");
    }

    private static void scenesOfAText() {
        scenes("a1!1", 1);
        scenes("a1!1;b1!1", 2);
        scenes("a1!1;a1!1;a1!1", 3);
        fault(";a1!1", 0);
        fault("a1!1;;b1!1", 5);
        fault("a1!1b1!1", 4);
        fault("a1!1,b1!1", 4);
        fault("a1!1:b1!1", 4);
        fault("a1!1<b1!1", 4);
        fault("a1!1; b1!1", 5);
        fault("a1!1 ", 4);
        fault(" a1!1", 0);
    }

    private static void strands() {
        scenes("a9!1", 1);
        scenes("f9!1", 1);
        fault("`9!1", 0);
        fault("g9!1", 0);
        fault("A9!1", 0);
        fault("F9!1", 0);
        fault("09!1", 0);
        fault("9!1", 0);
        fault("aa9!1", 1);
        fault("a9!1;g9!1", 5);
        Edge.due("its strand as a letter from a to f", "text a9!1;b9!1;c9!1;d9!1;e9!1;f9!1", "read() = 6",
                "scene(0, 2) = 0", "scene(1, 2) = 1", "scene(2, 2) = 2", "scene(3, 2) = 3", "scene(4, 2) = 4",
                "scene(5, 2) = 5");
    }

    private static void words() {
        scenes("a1!1", 1);
        scenes("a9!1", 1);
        scenes("a10!1", 1);
        scenes("a99!1", 1);
        scenes("a100!1", 1);
        scenes("a999!1", 1);
        fault("a!1", 1);
        fault("a-1!1", 1);
        fault("a0!1", 1);
        fault("a01!1", 1);
        fault("a1000!1", 4);
        fault("a9999!1", 4);
        fault("a/!1", 1);
        fault("a:!1", 1);
        fault("a1/!1", 2);
        fault("a1:!1", 2);
        fault("a12/!1", 3);
        fault("a12:!1", 3);
        fault("a1a!1", 2);
        Edge.due("its words (one to three digits, the first not 0)", "text a1!1;a90!1;a100!1;a999!1;a205!1", "read() = 5",
                "scene(0, 0) = 1", "scene(1, 0) = 90", "scene(2, 0) = 100", "scene(3, 0) = 999", "scene(4, 0) = 205");
    }

    private static void slacks() {
        scenes("a9-1!1", 1);
        scenes("a9-8!1", 1);
        scenes("a99-98!1", 1);
        scenes("a999-998!1", 1);
        scenes("a999-100!1", 1);
        fault("a9-0!1", 3);
        fault("a9-!1", 3);
        fault("a9--1!1", 3);
        fault("a9-01!1", 3);
        fault("a9-8-7!1", 4);
        fault("a999-1000!1", 8);
        fault("a9-/!1", 3);
        fault("a9-:!1", 3);
        fault("a9-8/!1", 4);
        fault("a9-8:!1", 4);
        fault("a9-8;b9!1", 4);
        Edge.due("then, if its slack is not 0, \"-\" and its slack", "text a9-1!1;a9!1;a99-98!1;a999-998!1;a999-205!1",
                "read() = 5", "scene(0, 1) = 1", "scene(1, 1) = 0", "scene(2, 1) = 98", "scene(3, 1) = 998",
                "scene(4, 1) = 205");
        Edge.due("then, if its slack is not 0, \"-\" and its slack: none, where the text before it had one",
                "text a9-8!1;b9!1", "read() = 2", "text c9!1;d9-7!1", "read() = 2", "scene(2, 1) = 0", "scene(3, 1) = 7",
                "text c5!1;d5-1!1", "read() = 2", "scene(4, 1) = 0", "scene(5, 1) = 1");
    }

    private static void tensions() {
        scenes("a9!0", 1);
        scenes("a9!9", 1);
        scenes("a9-8!0", 1);
        fault("a9;b9!1", 2);
        fault("a9 1", 2);
        fault("a9\"1", 2);
        fault("a9!!1", 3);
        fault("a9!/", 3);
        fault("a9!:", 3);
        fault("a9!-1", 3);
        fault("a9!;b9!1", 3);
        fault("a9!10", 4);
        fault("a9!1!", 4);
        fault("a9!1-8", 4);
        Edge.due("then \"!\" and its tension (one digit)", "text a9!0;a9!1;a9!8;a9-8!9", "read() = 4", "scene(0, 3) = 0",
                "scene(1, 3) = 1", "scene(2, 3) = 8", "scene(3, 3) = 9");
    }

    private static void endsTooEarly() {
        Edge.due(SENTENCE + "(as the empty text does)", "read() = -1000", "count(20) = 0", "read() = -1000");
        String text = "a999-123!7;f1!0";
        int[] ends = {8 + 2, 15};
        for (int length = 1; length <= text.length(); length++) {
            String begin = text.substring(0, length);
            if (length == ends[0] || length == ends[1]) {
                scenes(begin, length == ends[0] ? 1 : 2);
            } else {
                fault(begin, length);
            }
        }
    }

    private static void firstFault() {
        fault("g0!", 0);
        fault("a0-0!", 1);
        fault("a9x0!x", 2);
        fault("a9!1;a0;g", 6);
        fault("a9-9!1;g", 7);
        fault("a1-999!1;x", 9);
        Edge.due(SENTENCE + "a character of code 1", "append(1) = 1", "read() = -1000", "append(97) = 2",
                "read() = -1000");
        Edge.due(SENTENCE + "a character of code 255", "append(97) = 1", "append(255) = 2", "read() = -1001",
                "append(255) = 3", "read() = -1001");
        Edge.due(SENTENCE + "a digit and 128 more", "append(97) = 1", "append(177) = 2", "read() = -1001");
        Edge.due(SENTENCE + "it stays until it is made empty", "text a9!x", "read() = -1003", "read() = -1003",
                "text ;a9!1", "read() = -1003", "clearText() = 9", "text a9!1", "read() = 1");
    }

    private static void longestTexts() {
        String nineteen = "a1!0;".repeat(19);
        Edge.due(SENTENCE + "20 scenes of 100 characters", "text " + nineteen + "f10!9", "count(20) = 100", "read() = 20",
                "count(0) = 20", "scene(19, 0) = 10", "scene(19, 2) = 5", "scene(19, 3) = 9");
        Edge.due(SENTENCE + "20 scenes of 99 characters", "text " + nineteen + "f9!9", "count(20) = 99", "read() = 20",
                "count(0) = 20", "scene(19, 0) = 9");
        Edge.due(SENTENCE + "too early by a character", "text " + nineteen + "f10!", "read() = -1099", "count(0) = 0",
                "append(57) = 100", "read() = 20");
        Edge.due(SENTENCE + "too early though it is full", "text " + nineteen + "f100!", "read() = -1100",
                "append(57) = FULL", "read() = -1100");
        Edge.due(SENTENCE + "a \";\" behind 20 scenes", "text " + nineteen + "f9!9;", "read() = -1100");
        Edge.due(SENTENCE + "the last one of 100", "text " + nineteen + "f9!99", "read() = -1099", "count(20) = 100");
        Edge.due(SENTENCE + "the first one of 100", "100 times append(33)", "read() = -1000");
    }

    private static void readInsertsAll() {
        Edge.due("Inserts the scenes of the text, in their order, behind all others",
                "scenes a600!9 b600!9", "set(1) = 600", "print() = 600", "text c30-3!3;d40!4", "read() = 2",
                "count(0) = 4", "count(1) = 1", "scene(1, 0) = 600", "scene(2, 0) = 30", "scene(2, 1) = 3",
                "scene(2, 2) = 2", "scene(2, 3) = 3", "scene(2, 4) = 0", "scene(2, 5) = NONE", "scene(3, 0) = 40",
                "scene(3, 1) = 0", "scene(3, 2) = 3", "scene(3, 3) = 4");
        Edge.due("(all of them or none)",
                "19 times insert(0, 7, 0, 0, 0)", "text a1!1;b2!2", "read() = FULL", "count(0) = 19", "count(20) = 9",
                "remove(0) = 18", "read() = 2", "count(0) = 20", "scene(18, 0) = 1", "scene(19, 0) = 2");
        Edge.due("(all of them or none): a slack that is not less than the words of the last one",
                "text a9!1;b9!2;c9-9!3", "read() = INVALID", "count(0) = 0", "count(19) = 0");
        Edge.due("and makes the text empty",
                "text a1!1", "read() = 1", "count(20) = 0", "read() = -1000", "text b2!2", "read() = 1",
                "count(0) = 2", "scene(1, 0) = 2");
    }

    private static void readIsOneAction() {
        Edge.due("This is one action.",
                "text a1!1;b2!2;c3!3", "read() = 3", "count(19) = 1", "undo() = 0", "count(0) = 0", "count(20) = 0",
                "read() = -1000");
        Edge.due("This is one action: a fault records nothing",
                "ask(1) = 0", "text a", "read() = -1001", "read() = -1001", "count(19) = 1", "undo() = 0",
                "count(20) = 1", "count(3) = 0");
    }

    private static void readRefuses() {
        String sentence = "INVALID_ARGUMENT if a slack is not less than the words of its scene";
        Edge.due(sentence, "text a10-9!1", "read() = 1", "text a10-10!1", "read() = INVALID", "clearText() = 8",
                "text a10-11!1", "read() = INVALID", "count(20) = 8");
        Edge.due(sentence + ": of the first one", "text a1-1!1;b9!1", "read() = INVALID", "count(0) = 0");
        Edge.due(sentence + ": of the words of another one", "text a9-5!1;b4!1", "read() = 2", "text a4-4!1;b9!1",
                "read() = INVALID");
        Edge.due(sentence + ": three digits", "text a998-999!1", "read() = INVALID", "clearText() = 10",
                "text a999-999!1", "read() = INVALID", "clearText() = 10", "text a999-998!1", "read() = 1");
        Edge.due("ILLEGAL_STATE if something is set",
                "scenes a600!9", "text b9!1", "set(1) = 600", "read() = ILLEGAL", "count(20) = 4", "unset() = 1",
                "read() = 1");
        Edge.due("CAPACITY_EXCEEDED if there would be more than 20 scenes",
                "20 times insert(0, 7, 0, 0, 0)", "text a1!1", "read() = FULL", "count(20) = 4", "remove(0) = 19",
                "read() = 1", "count(0) = 20");
        Edge.due("CAPACITY_EXCEEDED if there would be more than 20 scenes: the printed ones are among them",
                "scenes a600!9", "18 times insert(1, 7, 0, 1, 0)", "set(1) = 600", "print() = 600", "text a1!1;a1!1",
                "read() = FULL", "clearText() = 9", "text a1!1", "read() = 1");
        Edge.due("CAPACITY_EXCEEDED if there would be more than 20 scenes: 20 at once behind one",
                "scenes a9!1", "text " + "a1!0;".repeat(19) + "a1!0", "read() = FULL", "remove(0) = 0", "read() = 20");
    }

    private static void readOrder() {
        String first = "If several error conditions apply, the method returns the one that its description lists first: ";
        Edge.due(first + "the fault ahead of all",
                "19 times insert(0, 7, 0, 0, 4)", "insert(0, 600, 0, 0, 9) = 20", "set(1) = 600", "text a1-1!1;",
                "read() = -1007", "text a1!1", "read() = INVALID");
        Edge.due(first + "the slack ahead of what is set",
                "scenes a600!9", "set(1) = 600", "text a1-1!1", "read() = INVALID", "unset() = 1", "read() = INVALID");
        Edge.due(first + "the slack ahead of the room",
                "20 times insert(0, 7, 0, 0, 4)", "text a1-1!1", "read() = INVALID");
        Edge.due(first + "what is set ahead of the room",
                "19 times insert(0, 7, 0, 0, 4)", "insert(0, 600, 0, 0, 9) = 20", "set(1) = 600", "text a1!1",
                "read() = ILLEGAL", "unset() = 1", "read() = FULL");
    }
}
