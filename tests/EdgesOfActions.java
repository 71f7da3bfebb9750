/** The boundaries that promises 2 to 12 name, a test for each sentence. */
final class EdgesOfActions {
    private static final String FIRST = "the method returns the one that its description lists first: ";

    private EdgesOfActions() {
    }

    static void run() {
        insertAt();
        insertParts();
        insertRefuses();
        remove();
        changeWhat();
        changeValues();
        changeRefuses();
        setWeek();
        setNumber();
        ask();
        set();
        setRefuses();
        unset();
        mend();
        print();
        skip();
    }

    private static void insertAt() {
        String at = "insert: at: the number of printed scenes to the number of all scenes: ";
        Edge.due(at + "none are there",
                "insert(-1, 9, 0, 0, 0) = INVALID", "insert(1, 9, 0, 0, 0) = INVALID", "count(0) = 0",
                "insert(0, 9, 0, 0, 0) = 1", "insert(2, 8, 0, 0, 0) = INVALID", "insert(1, 8, 0, 0, 0) = 2",
                "scene(1, 0) = 8", "insert(-1, 7, 0, 0, 0) = INVALID");
        Edge.due(at + "some are printed",
                "scenes a300!9 b300!9 c600!9", "set(2) = 600", "print() = 600", "insert(0, 9, 0, 0, 0) = INVALID",
                "insert(1, 9, 0, 0, 0) = INVALID", "insert(2, 9, 0, 0, 0) = 4", "scene(2, 0) = 9", "scene(3, 0) = 600",
                "insert(5, 8, 0, 0, 0) = INVALID", "insert(4, 8, 0, 0, 0) = 5", "scene(4, 0) = 8");
        Edge.due(at + "all are printed",
                "scenes a300!9 b300!9", "set(2) = 600", "print() = 600", "insert(1, 9, 0, 0, 0) = INVALID",
                "insert(3, 9, 0, 0, 0) = INVALID", "insert(2, 9, 0, 0, 0) = 3", "scene(2, 5) = NONE", "scene(1, 5) = 0");
        Edge.due(at + "far away",
                "scenes a9!1", "insert(MIN, 9, 0, 0, 0) = INVALID", "insert(MAX, 9, 0, 0, 0) = INVALID",
                "insert(20, 9, 0, 0, 0) = INVALID", "insert(-20, 9, 0, 0, 0) = INVALID");
    }

    private static void insertParts() {
        Edge.due("insert: words: 1 to 999",
                "insert(0, 0, 0, 0, 0) = INVALID", "insert(0, MIN, 0, 0, 0) = INVALID", "insert(0, 1, 0, 0, 0) = 1",
                "insert(0, 999, 0, 0, 0) = 2", "insert(0, 1000, 0, 0, 0) = INVALID", "insert(0, MAX, 0, 0, 0) = INVALID");
        Edge.due("insert: slack: 0 to words less 1",
                "insert(0, 10, -1, 0, 0) = INVALID", "insert(0, 10, MIN, 0, 0) = INVALID", "insert(0, 10, 0, 0, 0) = 1",
                "insert(0, 10, 9, 0, 0) = 2", "insert(0, 10, 10, 0, 0) = INVALID", "insert(0, 10, MAX, 0, 0) = INVALID",
                "insert(0, 1, 0, 0, 0) = 3", "insert(0, 1, 1, 0, 0) = INVALID");
        Edge.due("insert: strand: 0 to 5",
                "insert(0, 9, 0, -1, 0) = INVALID", "insert(0, 9, 0, MIN, 0) = INVALID", "insert(0, 9, 0, 5, 0) = 1",
                "insert(0, 9, 0, 6, 0) = INVALID", "insert(0, 9, 0, MAX, 0) = INVALID", "insert(0, 9, 0, 0, 0) = 2");
        Edge.due("insert: tension: 0 to 9",
                "insert(0, 9, 0, 0, -1) = INVALID", "insert(0, 9, 0, 0, MIN) = INVALID", "insert(0, 9, 0, 0, 9) = 1",
                "insert(0, 9, 0, 0, 10) = INVALID", "insert(0, 9, 0, 0, MAX) = INVALID", "insert(0, 9, 0, 0, 0) = 2");
    }

    private static void insertRefuses() {
        Edge.due("insert: ILLEGAL_STATE if something is set",
                "scenes a600!9 b600!9", "set(1) = 600", "insert(0, 9, 0, 0, 0) = ILLEGAL",
                "insert(1, 9, 0, 0, 0) = ILLEGAL", "insert(2, 9, 0, 0, 0) = ILLEGAL", "print() = 600",
                "insert(2, 9, 0, 0, 0) = 3");
        Edge.due("insert: CAPACITY_EXCEEDED if there are 20",
                "20 times insert(0, 30, 0, 0, 0)", "insert(20, 9, 0, 0, 0) = FULL", "insert(0, 9, 0, 0, 0) = FULL",
                "set(20) = 600", "print() = 600", "insert(20, 9, 0, 0, 0) = FULL", "insert(19, 9, 0, 0, 0) = INVALID");
        Edge.due("insert: " + FIRST + "INVALID, ILLEGAL, FULL",
                "19 times insert(0, 7, 0, 1, 0)", "insert(0, 600, 0, 0, 9) = 20", "set(1) = 600",
                "insert(21, 9, 0, 0, 0) = INVALID", "insert(0, 0, 0, 0, 0) = INVALID", "insert(0, 9, 9, 0, 0) = INVALID",
                "insert(0, 9, 0, 6, 0) = INVALID", "insert(0, 9, 0, 0, 10) = INVALID", "insert(0, 9, 0, 0, 0) = ILLEGAL",
                "unset() = 1", "insert(0, 0, 0, 0, 0) = INVALID", "insert(21, 9, 0, 0, 0) = INVALID",
                "insert(0, 9, 0, 0, 0) = FULL");
    }

    private static void remove() {
        Edge.due("remove: INVALID_ARGUMENT if there is no such scene to come: none are there",
                "remove(0) = INVALID", "remove(-1) = INVALID", "remove(MAX) = INVALID", "remove(MIN) = INVALID");
        Edge.due("remove: INVALID_ARGUMENT if there is no such scene to come: some are printed",
                "scenes a600!9 b600!9 c600!9", "set(1) = 600", "print() = 600", "remove(-1) = INVALID",
                "remove(0) = INVALID", "remove(3) = INVALID", "remove(2) = 2", "remove(2) = INVALID", "remove(1) = 1",
                "remove(1) = INVALID", "remove(0) = INVALID", "count(0) = 1", "count(1) = 1");
        Edge.due("remove: Returns the number of scenes then: of twenty",
                "19 times insert(0, 7, 0, 1, 0)", "insert(19, 8, 0, 0, 9) = 20", "remove(20) = INVALID",
                "remove(0) = 19", "scene(18, 0) = 8", "scene(19, 0) = INVALID", "remove(18) = 18", "scene(17, 0) = 7");
        Edge.due("remove: ILLEGAL_STATE if something is set",
                "scenes a600!9 b600!9", "set(1) = 600", "remove(0) = ILLEGAL", "remove(1) = ILLEGAL", "unset() = 1",
                "remove(1) = 1");
        Edge.due("remove: " + FIRST + "INVALID, ILLEGAL",
                "scenes a600!9 b600!9", "set(1) = 600", "remove(2) = INVALID", "remove(-1) = INVALID");
    }

    private static void changeWhat() {
        Edge.due("change: what: 0 for its words, 1 for its slack, 2 for its strand, 3 for its tension",
                "scenes a10-2!3 b20-4!5", "change(1, -1, 1) = INVALID", "change(1, MIN, 1) = INVALID",
                "change(1, 0, 21) = 20", "change(1, 1, 5) = 4", "change(1, 2, 2) = 1", "change(1, 3, 6) = 5",
                "change(1, 4, 1) = INVALID", "change(1, MAX, 1) = INVALID", "scene(1, 0) = 21", "scene(1, 1) = 5",
                "scene(1, 2) = 2", "scene(1, 3) = 6", "scene(0, 0) = 10", "scene(0, 1) = 2", "scene(0, 2) = 0",
                "scene(0, 3) = 3");
        Edge.due("change: INVALID_ARGUMENT if there is no such scene to come",
                "change(0, 3, 1) = INVALID", "scenes a600!9 b600!9", "change(2, 3, 1) = INVALID",
                "change(-1, 3, 1) = INVALID", "change(MAX, 3, 1) = INVALID", "change(MIN, 3, 1) = INVALID",
                "set(1) = 600", "print() = 600", "change(0, 3, 1) = INVALID", "change(1, 3, 1) = 9",
                "change(2, 3, 1) = INVALID");
    }

    private static void changeValues() {
        Edge.due("change: the words are 1 to 999",
                "scenes a10!3", "change(0, 0, 0) = INVALID", "change(0, 0, -1) = INVALID", "change(0, 0, 1) = 10",
                "change(0, 0, 999) = 1", "change(0, 0, 1000) = INVALID", "change(0, 0, MAX) = INVALID",
                "change(0, 0, MIN) = INVALID", "scene(0, 0) = 999");
        Edge.due("change: the words have to be more than the slack: new words",
                "scenes a10-5!3", "change(0, 0, 4) = INVALID", "change(0, 0, 5) = INVALID", "change(0, 0, 6) = 10",
                "change(0, 0, 6) = 6");
        Edge.due("change: the words have to be more than the slack: a new slack",
                "scenes a10-5!3", "change(0, 1, 11) = INVALID", "change(0, 1, 10) = INVALID", "change(0, 1, 9) = 5",
                "change(0, 1, 0) = 9", "change(0, 1, -1) = INVALID", "change(0, 1, MAX) = INVALID",
                "change(0, 1, MIN) = INVALID", "change(0, 0, 999) = 10", "change(0, 1, 998) = 0",
                "change(0, 1, 999) = INVALID");
        Edge.due("change: a strand, 0 to 5",
                "scenes a10!3", "change(0, 2, -1) = INVALID", "change(0, 2, 5) = 0", "change(0, 2, 6) = INVALID",
                "change(0, 2, 0) = 5", "change(0, 2, MAX) = INVALID", "change(0, 2, MIN) = INVALID");
        Edge.due("change: a tension, 0 to 9",
                "scenes a10!3", "change(0, 3, -1) = INVALID", "change(0, 3, 9) = 3", "change(0, 3, 10) = INVALID",
                "change(0, 3, 0) = 9", "change(0, 3, MAX) = INVALID", "change(0, 3, MIN) = INVALID");
    }

    private static void changeRefuses() {
        Edge.due("change: ILLEGAL_STATE if something is set",
                "scenes a600-5!9 b600!9", "set(1) = 600", "change(0, 0, 599) = ILLEGAL", "change(0, 1, 4) = ILLEGAL",
                "change(0, 2, 1) = ILLEGAL", "change(0, 3, 8) = ILLEGAL", "change(1, 3, 8) = ILLEGAL", "unset() = 1",
                "change(0, 3, 8) = 9");
        Edge.due("change: " + FIRST + "INVALID, ILLEGAL",
                "scenes a600-5!9 b600!9", "set(1) = 600", "change(2, 3, 8) = INVALID", "change(0, 4, 8) = INVALID",
                "change(0, 3, 10) = INVALID", "change(0, 0, 5) = INVALID", "change(0, 1, 600) = INVALID",
                "change(0, 2, 6) = INVALID");
    }

    private static void setWeek() {
        Edge.due("setWeek: week: the present one or a later one, up to 29",
                "setWeek(-1, 1, 0) = INVALID", "setWeek(0, 1, 0) = 300", "skip() = 400", "setWeek(0, 2, 0) = INVALID",
                "week(0, 0) = 1", "setWeek(1, 1, 0) = 300", "setWeek(29, 1, 0) = 300", "setWeek(30, 1, 0) = INVALID",
                "setWeek(MAX, 1, 0) = INVALID", "setWeek(MIN, 1, 0) = INVALID");
        Edge.due("setWeek: week: the present one or a later one: week 29, and none when all have passed",
                "29 times skip()", "setWeek(28, 1, 0) = INVALID", "setWeek(29, 1, 0) = 300", "skip() = 12000",
                "setWeek(29, 2, 0) = INVALID", "setWeek(30, 2, 0) = INVALID", "week(29, 0) = 1");
        Edge.due("setWeek: sheets: 1 to 4",
                "setWeek(0, 0, 0) = INVALID", "setWeek(0, MIN, 0) = INVALID", "setWeek(0, 1, 0) = 300",
                "setWeek(0, 4, 0) = 1200", "setWeek(0, 5, 0) = INVALID", "setWeek(0, MAX, 0) = INVALID");
        Edge.due("setWeek: adverts: 0 to 999",
                "setWeek(0, 4, -1) = INVALID", "setWeek(0, 4, MIN) = INVALID", "setWeek(0, 4, 0) = 1200",
                "setWeek(0, 4, 999) = 201", "setWeek(0, 4, 1000) = INVALID", "setWeek(0, 4, MAX) = INVALID");
        Edge.due("setWeek: Returns the room that it has then",
                "setWeek(0, 1, 299) = 1", "setWeek(0, 1, 300) = 0", "setWeek(0, 1, 301) = 0", "setWeek(0, 2, 301) = 299",
                "setNumber(0, 50) = 300", "setWeek(0, 4, 200) = 0", "setWeek(0, 4, 199) = 1");
        Edge.due("setWeek also when something is set",
                "scenes a600!9", "set(1) = 600", "setWeek(0, 1, 0) = 300", "count(4) = 1", "print() = ILLEGAL");
    }

    private static void setNumber() {
        String what = "setNumber: what: 0 for the words of a sheet (50 to 999), 1 for the level (0 to 9), 2 for the quota"
                + " (0 to 999), 3 for the rate (1 to 9): ";
        Edge.due(what + "0",
                "setNumber(0, 49) = INVALID", "setNumber(0, 50) = 300", "setNumber(0, 999) = 50",
                "setNumber(0, 1000) = INVALID", "setNumber(0, MIN) = INVALID", "setNumber(0, MAX) = INVALID",
                "count(5) = 999", "count(6) = 5", "count(7) = 400", "count(8) = 2");
        Edge.due(what + "1",
                "setNumber(1, -1) = INVALID", "setNumber(1, 0) = 5", "setNumber(1, 9) = 0", "setNumber(1, 10) = INVALID",
                "setNumber(1, MIN) = INVALID", "setNumber(1, MAX) = INVALID", "count(6) = 9", "count(5) = 300",
                "count(7) = 400", "count(8) = 2");
        Edge.due(what + "2",
                "setNumber(2, -1) = INVALID", "setNumber(2, 0) = 400", "setNumber(2, 999) = 0",
                "setNumber(2, 1000) = INVALID", "setNumber(2, MIN) = INVALID", "setNumber(2, MAX) = INVALID",
                "count(7) = 999", "count(5) = 300", "count(6) = 5", "count(8) = 2");
        Edge.due(what + "3",
                "setNumber(3, 0) = INVALID", "setNumber(3, 1) = 2", "setNumber(3, 9) = 1", "setNumber(3, 10) = INVALID",
                "setNumber(3, MIN) = INVALID", "setNumber(3, MAX) = INVALID", "count(8) = 9", "count(5) = 300",
                "count(6) = 5", "count(7) = 400");
        Edge.due(what + "no other",
                "setNumber(-1, 9) = INVALID", "setNumber(4, 9) = INVALID", "setNumber(MIN, 9) = INVALID",
                "setNumber(MAX, 9) = INVALID");
        Edge.due("setNumber also when something is set, and when all weeks have passed",
                "scenes a600!9", "set(1) = 600", "setNumber(0, 400) = 300", "print() = 600", "29 times skip()",
                "setNumber(0, 50) = 400", "setNumber(1, 0) = 5", "setNumber(2, 0) = 400", "setNumber(3, 1) = 2",
                "week(29, 2) = 100");
    }

    private static void ask() {
        Edge.due("ask: words: 0 to 999",
                "ask(-1) = INVALID", "ask(MIN) = INVALID", "ask(999) = 0", "ask(1000) = INVALID", "ask(MAX) = INVALID",
                "ask(0) = 999", "count(3) = 0");
        Edge.due("ask: Asks for a cut, in place of the one that was asked. Returns the previous cut",
                "ask(3) = 0", "ask(4) = 3", "ask(4) = 4", "ask(0) = 4", "count(3) = 0");
        Edge.due("(it is possible when all weeks have passed, too)",
                "30 times skip()", "ask(5) = 0", "count(3) = 5", "ask(1000) = INVALID", "ask(999) = 5", "count(14) = 0");
    }

    private static void set() {
        Edge.due("set: Returns its words less the cut",
                "scenes a600-300!9 b600!9", "set(1) = 600", "unset() = 1", "ask(150) = 0", "set(1) = 450", "unset() = 1",
                "ask(299) = 150", "set(1) = 301");
        Edge.due("set: Returns its words less the cut: a single word",
                "scenes a999-998!9", "setWeek(0, 1, 0) = 300", "ask(998) = 0", "set(1) = 1", "print() = 1",
                "count(10) = 1", "week(0, 3) = 1");
        Edge.due("set: ILLEGAL_STATE if something is set",
                "scenes a350!9 b200!9 c600!9", "set(1) = 350", "set(1) = ILLEGAL", "set(2) = ILLEGAL", "count(4) = 1",
                "unset() = 1", "set(2) = 550", "count(4) = 2");
        Edge.due("set: ILLEGAL_STATE if all weeks have passed",
                "scenes a600!9", "29 times skip()", "set(1) = 600", "unset() = 1", "skip() = 12000", "set(1) = ILLEGAL");
        Edge.due("set: ILLEGAL_STATE if it is not good",
                "scenes a600!9 b600-1!4 b600!4 b600!4", "set(2) = ILLEGAL", "ask(1) = 0", "set(1) = ILLEGAL",
                "ask(0) = 1", "set(1) = 600", "print() = 600", "set(1) = ILLEGAL", "count(4) = 0");
    }

    private static void setRefuses() {
        Edge.due("set: INVALID_ARGUMENT if scenes is less than 1, or more than are to come",
                "set(1) = INVALID", "scenes a300!9 b300!9", "set(0) = INVALID", "set(-1) = INVALID", "set(MIN) = INVALID",
                "set(3) = INVALID", "set(MAX) = INVALID", "set(2) = 600", "print() = 600", "set(1) = INVALID",
                "set(0) = INVALID");
        Edge.due("set: " + FIRST + "INVALID, ILLEGAL",
                "scenes a600!9 b600!9", "set(1) = 600", "set(0) = INVALID", "set(3) = INVALID", "set(2) = ILLEGAL",
                "unset() = 1", "30 times skip()", "set(0) = INVALID", "set(3) = INVALID", "set(2) = ILLEGAL");
    }

    private static void unset() {
        Edge.due("unset: Returns the number of scenes that it had; ILLEGAL_STATE if nothing is set.",
                "unset() = ILLEGAL", "scenes a200!9 b200!9 c200!9", "unset() = ILLEGAL", "set(3) = 600", "unset() = 3",
                "unset() = ILLEGAL", "count(4) = 0", "set(2) = 400", "unset() = 2", "set(2) = 400", "print() = 400",
                "unset() = ILLEGAL");
        Edge.due("unset: also what is not good any more, and of twenty scenes",
                "20 times insert(0, 30, 0, 0, 0)", "set(20) = 600", "setWeek(0, 1, 0) = 300", "unset() = 20",
                "unset() = ILLEGAL");
    }

    private static void mend() {
        Edge.due("mend: ILLEGAL_STATE if nothing is set",
                "mend() = ILLEGAL", "scenes a600!9 b600!9", "mend() = ILLEGAL", "set(1) = 600", "unset() = 1",
                "mend() = ILLEGAL", "set(1) = 600", "print() = 600", "mend() = ILLEGAL");
        Edge.due("mend: ILLEGAL_STATE if it is good",
                "scenes a350!9 b200!9 c600!9", "set(2) = 550", "mend() = ILLEGAL", "setWeek(0, 2, 50) = 550",
                "mend() = ILLEGAL", "count(4) = 2", "setWeek(0, 2, 51) = 549", "mend() = 1", "mend() = ILLEGAL");
        Edge.due("mend: ILLEGAL_STATE if no instalment is good",
                "scenes a600!9 b600!9", "set(1) = 600", "ask(1) = 0", "mend() = ILLEGAL", "count(4) = 1", "ask(0) = 1",
                "print() = 600");
        Edge.due("mend: Returns the number of scenes of what is set then",
                "scenes a350!9 b200!9 c600!9", "set(2) = 550", "setWeek(0, 2, 51) = 549", "mend() = 1", "count(4) = 1",
                "setWeek(0, 3, 350) = 550", "mend() = ILLEGAL", "setWeek(0, 3, 249) = 651", "mend() = 2", "count(4) = 2",
                "count(1) = 0", "count(2) = 0");
    }

    private static void print() {
        Edge.due("print: ILLEGAL_STATE if nothing is set",
                "print() = ILLEGAL", "scenes a600!9", "print() = ILLEGAL", "set(1) = 600", "unset() = 1",
                "print() = ILLEGAL", "count(1) = 0", "count(2) = 0");
        Edge.due("print: ILLEGAL_STATE if it is not good",
                "scenes a600!9 b600!9", "set(1) = 600", "ask(1) = 0", "print() = ILLEGAL", "count(2) = 0", "ask(0) = 1",
                "print() = 600", "print() = ILLEGAL");
        Edge.due("print: Returns the number of words that are printed",
                "scenes a400-100!9 b200-100!9", "set(2) = 600", "ask(200) = 0", "print() = 400", "count(10) = 400",
                "week(0, 3) = 400");
        Edge.due("print: in week 29, and all twenty scenes",
                "20 times insert(0, 30, 0, 0, 0)", "29 times skip()", "set(20) = 600", "print() = 600", "count(1) = 20",
                "count(2) = 30", "week(29, 4) = 20", "scene(0, 5) = 29", "scene(19, 5) = 29", "print() = ILLEGAL");
    }

    private static void skip() {
        Edge.due("skip: Returns the words that are owed then (below 0 if more were printed than had to be)",
                "scenes a600!9", "setNumber(2, 300) = 400", "set(1) = 600", "print() = 600", "setNumber(2, 200) = 300",
                "skip() = -100", "skip() = 100", "setNumber(2, 0) = 200", "skip() = 100");
        Edge.due("skip: ILLEGAL_STATE if something is set",
                "scenes a600!9", "set(1) = 600", "skip() = ILLEGAL", "ask(1) = 0", "skip() = ILLEGAL", "count(2) = 0",
                "count(9) = 0", "unset() = 1", "skip() = 400");
        Edge.due("skip: ILLEGAL_STATE if all weeks have passed",
                "29 times skip()", "skip() = 12000", "skip() = ILLEGAL", "count(2) = 30", "count(9) = 12000",
                "count(13) = 30", "count(16) = 18600");
    }
}
