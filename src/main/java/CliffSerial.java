/**
 * Plans a novel that a weekly paper prints in instalments. An error is told by
 * one of the negative constants and changes nothing.
 *
 * <p>All rows are made by the constructors and used again: no call makes an
 * object, so that a long run of calls needs no more room than its first one.
 */
public final class CliffSerial {
    public static final int INVALID_ARGUMENT = -100001;
    public static final int ILLEGAL_STATE = -100002;
    public static final int CAPACITY_EXCEEDED = -100003;
    public static final int NONE = -100009;

    private static final int MOST_SCENES = 20;
    private static final int STRANDS = 6;
    private static final int WEEKS = 30;
    private static final int MOST_SHEETS = 4;
    private static final int MOST_ADVERTS = 999;
    private static final int MOST_CUT = 999;
    private static final int HIGHEST_LEVEL = 9;
    private static final int SLOTS = 2;
    private static final int MOST_STATES = 6;
    private static final int MOST_CHARACTERS = 100;
    private static final int HIGHEST_CHARACTER = 255;
    private static final int TEXT_FAULT = -1000;
    private static final int LOST_TENSION = 2;
    private static final int PAY_FOR_TENSION = 10;
    private static final int PART_FINED = 10;

    // Rows of a novel's scenes, numbered as scene() numbers them.
    private static final int WORDS = 0;
    private static final int SLACK = 1;
    private static final int STRAND = 2;
    private static final int TENSION = 3;
    private static final int WORDS_CUT = 4;
    private static final int PRINTED_IN = 5;
    private static final int SCENE_ROWS = 6;
    private static final int CLIFF = 6;
    private static final int[] LOWEST_OF_SCENE = {1, 0, 0, 0};
    private static final int[] HIGHEST_OF_SCENE = {999, 998, 5, 9};

    // Rows of a novel's weeks.
    private static final int SHEETS = 0;
    private static final int ADVERTS = 1;
    private static final int WORDS_IN_WEEK = 2;
    private static final int SCENES_IN_WEEK = 3;
    private static final int WEEK_ROWS = 4;

    // Numbers of a novel, numbered as count() numbers them.
    private static final int ALL_SCENES = 0;
    private static final int PRINTED_SCENES = 1;
    private static final int PRESENT_WEEK = 2;
    private static final int CUT = 3;
    private static final int SET_SCENES = 4;
    private static final int SHEET_WORDS = 5;
    private static final int LEVEL = 6;
    private static final int QUOTA = 7;
    private static final int RATE = 8;
    private static final int OWED = 9;
    private static final int PRINTED_WORDS = 10;
    private static final int CUT_WORDS = 11;
    private static final int INSTALMENTS = 12;
    private static final int SKIPPED_WEEKS = 13;
    private static final int LATE_CUTS = 14;
    private static final int EARNED = 15;
    private static final int FINES = 16;
    private static final int NUMBERS = 17;

    // What count() tells beside the novel's own numbers.
    private static final int LAST_STRAND = 17;
    private static final int SNAPSHOTS = 18;
    private static final int STATES = 19;
    private static final int TEXT_LENGTH = 20;

    // setNumber() sets the numbers from SHEET_WORDS on, within these.
    private static final int[] LOWEST_OF_NUMBER = {50, 0, 0, 1};
    private static final int[] HIGHEST_OF_NUMBER = {999, 9, 999, 9};

    private final Moment now = new Moment();
    private final History history = new History();
    private final SceneText text = new SceneText();
    private final PlanTable table = new PlanTable();

    public CliffSerial() {
    }

    // ---- scenes

    public int insert(int at, int words, int slack, int strand, int tension) {
        int[] numbers = now.novel.numbers;
        if (at < numbers[PRINTED_SCENES] || at > numbers[ALL_SCENES]
                || !isScene(words, slack, strand, tension)) {
            return INVALID_ARGUMENT;
        }
        if (isSet()) {
            return ILLEGAL_STATE;
        }
        if (numbers[ALL_SCENES] >= MOST_SCENES) {
            return CAPACITY_EXCEEDED;
        }
        history.record(now);
        now.novel.addScene(at, words, slack, strand, tension);
        return numbers[ALL_SCENES];
    }

    public int remove(int at) {
        if (!now.novel.isToCome(at)) {
            return INVALID_ARGUMENT;
        }
        if (isSet()) {
            return ILLEGAL_STATE;
        }
        history.record(now);
        now.novel.dropScene(at);
        return now.novel.numbers[ALL_SCENES];
    }

    public int change(int at, int what, int value) {
        if (!now.novel.isToCome(at) || what < WORDS || what > TENSION || !fits(at, what, value)) {
            return INVALID_ARGUMENT;
        }
        if (isSet()) {
            return ILLEGAL_STATE;
        }
        history.record(now);
        int previous = now.novel.scenes[what][at];
        now.novel.scenes[what][at] = value;
        return previous;
    }

    private boolean isSet() {
        return now.novel.numbers[SET_SCENES] > 0;
    }

    private static boolean isScene(int words, int slack, int strand, int tension) {
        return isOfScene(WORDS, words) && isOfScene(SLACK, slack) && isOfScene(STRAND, strand)
                && isOfScene(TENSION, tension) && slack < words;
    }

    private static boolean isOfScene(int row, int value) {
        return value >= LOWEST_OF_SCENE[row] && value <= HIGHEST_OF_SCENE[row];
    }

    private boolean fits(int at, int row, int value) {
        if (row == WORDS && value <= now.novel.scenes[SLACK][at]) {
            return false;
        }
        if (row == SLACK && value >= now.novel.scenes[WORDS][at]) {
            return false;
        }
        return isOfScene(row, value);
    }

    // ---- paper and contract

    public int setWeek(int week, int sheets, int adverts) {
        if (week < now.novel.numbers[PRESENT_WEEK] || week >= WEEKS || sheets < 1
                || sheets > MOST_SHEETS || adverts < 0 || adverts > MOST_ADVERTS) {
            return INVALID_ARGUMENT;
        }
        history.record(now);
        now.novel.weeks[SHEETS][week] = sheets;
        now.novel.weeks[ADVERTS][week] = adverts;
        return now.novel.roomOf(week);
    }

    public int setNumber(int what, int value) {
        if (what < 0 || what >= LOWEST_OF_NUMBER.length || value < LOWEST_OF_NUMBER[what]
                || value > HIGHEST_OF_NUMBER[what]) {
            return INVALID_ARGUMENT;
        }
        history.record(now);
        int previous = now.novel.numbers[SHEET_WORDS + what];
        now.novel.numbers[SHEET_WORDS + what] = value;
        return previous;
    }

    // ---- a week

    public int ask(int words) {
        if (words < 0 || words > MOST_CUT) {
            return INVALID_ARGUMENT;
        }
        history.record(now);
        int previous = now.novel.numbers[CUT];
        now.novel.numbers[CUT] = words;
        if (isSet()) {
            now.novel.numbers[LATE_CUTS]++;
        }
        return previous;
    }

    public int set(int scenes) {
        if (scenes < 1 || scenes > now.novel.toCome()) {
            return INVALID_ARGUMENT;
        }
        if (isSet() || !now.novel.isGood(scenes)) {
            return ILLEGAL_STATE;
        }
        history.record(now);
        now.novel.numbers[SET_SCENES] = scenes;
        return now.novel.wordsOfNext(scenes);
    }

    public int unset() {
        if (!isSet()) {
            return ILLEGAL_STATE;
        }
        history.record(now);
        int scenes = now.novel.numbers[SET_SCENES];
        now.novel.numbers[SET_SCENES] = 0;
        return scenes;
    }

    public int mend() {
        if (!isSet() || now.novel.isGood(now.novel.numbers[SET_SCENES])) {
            return ILLEGAL_STATE;
        }
        int scenes = nearestGood(now.novel.numbers[SET_SCENES]);
        if (scenes == 0) {
            return ILLEGAL_STATE;
        }
        history.record(now);
        now.novel.numbers[SET_SCENES] = scenes;
        return scenes;
    }

    private int nearestGood(int scenes) {
        for (int apart = 1; apart <= MOST_SCENES; apart++) {
            if (now.novel.isGood(scenes - apart)) {
                return scenes - apart;
            }
            if (now.novel.isGood(scenes + apart)) {
                return scenes + apart;
            }
        }
        return 0;
    }

    public int print() {
        if (!isSet() || !now.novel.isGood(now.novel.numbers[SET_SCENES])) {
            return ILLEGAL_STATE;
        }
        history.record(now);
        return now.novel.printInstalment(now.novel.numbers[SET_SCENES]);
    }

    public int skip() {
        if (isSet() || now.novel.numbers[PRESENT_WEEK] >= WEEKS) {
            return ILLEGAL_STATE;
        }
        history.record(now);
        now.novel.numbers[SKIPPED_WEEKS]++;
        now.novel.passWeek(0, 0);
        return now.novel.numbers[OWED];
    }

    // ---- snapshots

    public int take(int slot) {
        if (slot < 0 || slot >= SLOTS) {
            return INVALID_ARGUMENT;
        }
        history.record(now);
        now.slots[slot].copyFrom(now.novel);
        now.taken[slot] = true;
        return now.novel.toCome();
    }

    public int restore(int slot) {
        if (slot < 0 || slot >= SLOTS) {
            return INVALID_ARGUMENT;
        }
        if (!now.taken[slot]) {
            return ILLEGAL_STATE;
        }
        history.record(now);
        now.novel.copyFrom(now.slots[slot]);
        return now.novel.toCome();
    }

    public int undo() {
        if (history.kept == 0) {
            return ILLEGAL_STATE;
        }
        history.goBack(now);
        return history.kept;
    }

    // ---- text

    public int append(int character) {
        if (character < 1 || character > HIGHEST_CHARACTER) {
            return INVALID_ARGUMENT;
        }
        if (text.length >= MOST_CHARACTERS) {
            return CAPACITY_EXCEEDED;
        }
        text.characters[text.length] = character;
        text.length++;
        return text.length;
    }

    public int clearText() {
        int previous = text.length;
        text.length = 0;
        return previous;
    }

    public int read() {
        int fault = text.findFault();
        if (fault != NONE) {
            return TEXT_FAULT - fault;
        }
        if (!text.slacksFit()) {
            return INVALID_ARGUMENT;
        }
        if (isSet()) {
            return ILLEGAL_STATE;
        }
        int[] numbers = now.novel.numbers;
        if (numbers[ALL_SCENES] + text.found > MOST_SCENES) {
            return CAPACITY_EXCEEDED;
        }
        history.record(now);
        int[][] rows = text.scenes;
        for (int i = 0; i < text.found; i++) {
            now.novel.addScene(numbers[ALL_SCENES], rows[WORDS][i], rows[SLACK][i],
                    rows[STRAND][i], rows[TENSION][i]);
        }
        text.length = 0;
        return text.found;
    }

    // ---- looking

    public int count(int what) {
        if (what >= 0 && what < NUMBERS) {
            return now.novel.numbers[what];
        }
        switch (what) {
            case LAST_STRAND:
                return now.novel.strandBefore(now.novel.numbers[PRINTED_SCENES]);
            case SNAPSHOTS:
                return now.snapshots();
            case STATES:
                return history.kept;
            case TEXT_LENGTH:
                return text.length;
            default:
                return INVALID_ARGUMENT;
        }
    }

    public int scene(int scene, int what) {
        Novel novel = now.novel;
        if (scene < 0 || scene >= novel.numbers[ALL_SCENES] || what < WORDS || what > CLIFF) {
            return INVALID_ARGUMENT;
        }
        if (what < SCENE_ROWS) {
            return novel.scenes[what][scene];
        }
        int tension = novel.scenes[TENSION][scene];
        return novel.isCliff(scene, tension, novel.numbers[LEVEL]) ? 1 : 0;
    }

    public int week(int week, int what) {
        if (week < 0 || week >= WEEKS) {
            return INVALID_ARGUMENT;
        }
        switch (what) {
            case 0:
                return now.novel.weeks[SHEETS][week];
            case 1:
                return now.novel.weeks[ADVERTS][week];
            case 2:
                return now.novel.roomOf(week);
            case 3:
                return now.novel.weeks[WORDS_IN_WEEK][week];
            case 4:
                return now.novel.weeks[SCENES_IN_WEEK][week];
            default:
                return INVALID_ARGUMENT;
        }
    }

    public int why(int scenes) {
        if (now.novel.numbers[PRESENT_WEEK] >= WEEKS) {
            return ILLEGAL_STATE;
        }
        return now.novel.reasonNow(scenes, now.novel.numbers[CUT]);
    }

    public int cutFrom(int scenes, int scene) {
        int from = now.novel.numbers[PRINTED_SCENES];
        if (scenes < 1 || scenes > now.novel.toCome() || scene < from || scene >= from + scenes) {
            return INVALID_ARGUMENT;
        }
        int cut = now.novel.numbers[CUT];
        if (now.novel.sum(SLACK, from, from + scenes) < cut) {
            return NONE;
        }
        return now.novel.cutOf(scene, from + scenes, cut);
    }

    public int since(int strand) {
        if (strand < 0 || strand >= STRANDS) {
            return INVALID_ARGUMENT;
        }
        Novel novel = now.novel;
        for (int i = novel.numbers[PRINTED_SCENES] - 1; i >= 0; i--) {
            if (novel.scenes[STRAND][i] == strand) {
                return novel.numbers[PRESENT_WEEK] - novel.scenes[PRINTED_IN][i] - 1;
            }
        }
        return NONE;
    }

    public int strand(int strand, int what) {
        if (strand < 0 || strand >= STRANDS || what < 0 || what > 1) {
            return INVALID_ARGUMENT;
        }
        int[] numbers = now.novel.numbers;
        return what == 0 ? now.novel.wordsOfStrand(strand, 0, numbers[PRINTED_SCENES])
                : now.novel.wordsOfStrand(strand, numbers[PRINTED_SCENES], numbers[ALL_SCENES]);
    }

    // ---- plans, which change nothing

    public int plan(int what) {
        if (what < 0 || what > 4) {
            return INVALID_ARGUMENT;
        }
        fillTable();
        if (table.plansFound() == 0) {
            return NONE;
        }
        switch (what) {
            case 0:
                return table.instalments();
            case 1:
                return table.tensions();
            default:
                return moneyOfPlan(what);
        }
    }

    public int planned(int instalment, int what) {
        if (instalment < 0 || what < 0 || what > 2) {
            return INVALID_ARGUMENT;
        }
        fillTable();
        if (table.plansFound() == 0 || instalment >= table.instalments()) {
            return NONE;
        }
        switch (what) {
            case 0:
                return table.startOf(instalment + 1) - table.startOf(instalment);
            case 1:
                return plannedWords(instalment);
            default:
                int week = now.novel.numbers[PRESENT_WEEK] + instalment;
                return now.novel.roomOf(week) - plannedWords(instalment);
        }
    }

    public int plans() {
        fillTable();
        return table.plansFound();
    }

    public int mostCut() {
        int[] numbers = now.novel.numbers;
        if (numbers[PRESENT_WEEK] >= WEEKS) {
            return NONE;
        }
        // The cut touches the first instalment only: what may follow it is the same by each cut.
        table.fill(now.novel, 0, numbers[LEVEL]);
        int most = NONE;
        for (int scenes = 1; scenes <= now.novel.toCome(); scenes++) {
            if (table.plansBehindFirst(scenes) > 0) {
                most = Math.max(most, now.novel.mostGoodCut(scenes));
            }
        }
        return most;
    }

    public int tooHigh() {
        for (int level = 0; level <= HIGHEST_LEVEL; level++) {
            table.fill(now.novel, now.novel.numbers[CUT], level);
            if (table.plansFound() == 0) {
                return level;
            }
        }
        return NONE;
    }

    private void fillTable() {
        table.fill(now.novel, now.novel.numbers[CUT], now.novel.numbers[LEVEL]);
    }

    private int plannedWords(int instalment) {
        int words = now.novel.sum(WORDS, table.startOf(instalment), table.startOf(instalment + 1));
        return instalment == 0 ? words - now.novel.numbers[CUT] : words;
    }

    private int moneyOfPlan(int what) {
        Novel novel = now.novel;
        int owed = novel.numbers[OWED];
        int fines = 0;
        int words = 0;
        for (int instalment = 0; instalment < table.instalments(); instalment++) {
            owed = novel.owedAfter(owed, plannedWords(instalment));
            fines += fineFor(owed);
            words += plannedWords(instalment);
        }
        switch (what) {
            case 2:
                return owed;
            case 3:
                return novel.payFor(words, table.tensions());
            default:
                return fines;
        }
    }

    private static int fineFor(int owed) {
        return Math.max(0, owed) / PART_FINED;
    }

    /** All that a snapshot keeps. */
    private static final class Novel {
        final int[] numbers = new int[NUMBERS];
        final int[][] scenes = new int[SCENE_ROWS][MOST_SCENES];
        final int[][] weeks = new int[WEEK_ROWS][WEEKS];

        Novel() {
            numbers[SHEET_WORDS] = 300;
            numbers[LEVEL] = 5;
            numbers[QUOTA] = 400;
            numbers[RATE] = 2;
            for (int week = 0; week < WEEKS; week++) {
                weeks[SHEETS][week] = 2;
                weeks[WORDS_IN_WEEK][week] = NONE;
                weeks[SCENES_IN_WEEK][week] = NONE;
            }
        }

        void copyFrom(Novel other) {
            System.arraycopy(other.numbers, 0, numbers, 0, NUMBERS);
            for (int row = 0; row < SCENE_ROWS; row++) {
                System.arraycopy(other.scenes[row], 0, scenes[row], 0, MOST_SCENES);
            }
            for (int row = 0; row < WEEK_ROWS; row++) {
                System.arraycopy(other.weeks[row], 0, weeks[row], 0, WEEKS);
            }
        }

        int toCome() {
            return numbers[ALL_SCENES] - numbers[PRINTED_SCENES];
        }

        boolean isToCome(int scene) {
            return scene >= numbers[PRINTED_SCENES] && scene < numbers[ALL_SCENES];
        }

        void addScene(int at, int words, int slack, int strand, int tension) {
            for (int row = 0; row < SCENE_ROWS; row++) {
                for (int i = numbers[ALL_SCENES]; i > at; i--) {
                    scenes[row][i] = scenes[row][i - 1];
                }
            }
            scenes[WORDS][at] = words;
            scenes[SLACK][at] = slack;
            scenes[STRAND][at] = strand;
            scenes[TENSION][at] = tension;
            scenes[WORDS_CUT][at] = 0;
            scenes[PRINTED_IN][at] = NONE;
            numbers[ALL_SCENES]++;
        }

        void dropScene(int at) {
            for (int row = 0; row < SCENE_ROWS; row++) {
                for (int i = at + 1; i < numbers[ALL_SCENES]; i++) {
                    scenes[row][i - 1] = scenes[row][i];
                }
            }
            numbers[ALL_SCENES]--;
        }

        int roomOf(int week) {
            return Math.max(0, weeks[SHEETS][week] * numbers[SHEET_WORDS] - weeks[ADVERTS][week]);
        }

        int sum(int row, int from, int end) {
            int sum = 0;
            for (int i = from; i < end; i++) {
                sum += scenes[row][i];
            }
            return sum;
        }

        int wordsOfStrand(int strand, int from, int end) {
            int words = 0;
            for (int i = from; i < end; i++) {
                if (scenes[STRAND][i] == strand) {
                    words += scenes[WORDS][i] - scenes[WORDS_CUT][i];
                }
            }
            return words;
        }

        int wordsOfNext(int count) {
            int from = numbers[PRINTED_SCENES];
            return sum(WORDS, from, from + count) - numbers[CUT];
        }

        int strandBefore(int scene) {
            return scene > 0 ? scenes[STRAND][scene - 1] : NONE;
        }

        /** The words that a cut takes from a scene of the instalment that ends ahead of end. */
        int cutOf(int scene, int end, int cut) {
            int left = Math.max(0, cut - sum(SLACK, scene + 1, end));
            return Math.min(left, scenes[SLACK][scene]);
        }

        int tensionAfter(int scene, int wordsCut) {
            int tension = scenes[TENSION][scene];
            if (2 * wordsCut <= scenes[SLACK][scene]) {
                return tension;
            }
            return tension > LOST_TENSION ? tension - LOST_TENSION : 0;
        }

        int lastTension(int end, int cut) {
            return tensionAfter(end - 1, Math.min(cut, scenes[SLACK][end - 1]));
        }

        boolean isCliff(int last, int tension, int level) {
            int behind = last + 1;
            return tension >= level && behind < numbers[ALL_SCENES]
                    && (scenes[STRAND][behind] != scenes[STRAND][last]
                    || scenes[TENSION][behind] < tension);
        }

        /** The first reason why so many scenes are not good for a week ahead, or 0. */
        int reason(int from, int count, int week, int cut, int level) {
            if (count < 1 || count > numbers[ALL_SCENES] - from) {
                return 1;
            }
            int end = from + count;
            if (sum(SLACK, from, end) < cut) {
                return 2;
            }
            int words = sum(WORDS, from, end) - cut;
            if (words > roomOf(week)) {
                return 3;
            }
            if (words <= roomOf(week) - numbers[SHEET_WORDS]) {
                return 4;
            }
            if (end == numbers[ALL_SCENES]) {
                return 0;
            }
            if (!isCliff(end - 1, lastTension(end, cut), level)) {
                return 5;
            }
            return scenes[STRAND][end - 1] == strandBefore(from) ? 6 : 0;
        }

        int reasonNow(int count, int cut) {
            return reason(numbers[PRINTED_SCENES], count, numbers[PRESENT_WEEK], cut, numbers[LEVEL]);
        }

        boolean isGood(int count) {
            return numbers[PRESENT_WEEK] < WEEKS && reasonNow(count, numbers[CUT]) == 0;
        }

        /** The greatest cut by which so many scenes are good for the present week, or NONE. */
        int mostGoodCut(int count) {
            int from = numbers[PRINTED_SCENES];
            int end = from + count;
            int needed = sum(WORDS, from, end) - roomOf(numbers[PRESENT_WEEK]);
            int most = Math.min(needed + numbers[SHEET_WORDS] - 1, sum(SLACK, from, end));
            most = Math.min(most, MOST_CUT);
            if (most >= 0 && reasonNow(count, most) == 0) {
                return most;
            }
            // A smaller cut mends only a lost cliff, and half of the last slack loses none.
            most = Math.min(most, scenes[SLACK][end - 1] / 2);
            return most >= 0 && reasonNow(count, most) == 0 ? most : NONE;
        }

        int owedAfter(int owed, int words) {
            return Math.max(owed + numbers[QUOTA] - words, -numbers[QUOTA]);
        }

        int payFor(int words, int tension) {
            return numbers[RATE] * words + PAY_FOR_TENSION * tension;
        }

        int printInstalment(int count) {
            int from = numbers[PRINTED_SCENES];
            int end = from + count;
            int words = wordsOfNext(count);
            for (int i = from; i < end; i++) {
                int wordsCut = cutOf(i, end, numbers[CUT]);
                scenes[TENSION][i] = tensionAfter(i, wordsCut);
                scenes[WORDS_CUT][i] = wordsCut;
                scenes[PRINTED_IN][i] = numbers[PRESENT_WEEK];
            }
            numbers[PRINTED_SCENES] = end;
            numbers[SET_SCENES] = 0;
            numbers[PRINTED_WORDS] += words;
            numbers[CUT_WORDS] += numbers[CUT];
            numbers[INSTALMENTS]++;
            numbers[EARNED] += payFor(words, scenes[TENSION][end - 1]);
            passWeek(words, count);
            return words;
        }

        void passWeek(int words, int count) {
            int week = numbers[PRESENT_WEEK];
            weeks[WORDS_IN_WEEK][week] = words;
            weeks[SCENES_IN_WEEK][week] = count;
            numbers[OWED] = owedAfter(numbers[OWED], words);
            numbers[FINES] += fineFor(numbers[OWED]);
            numbers[CUT] = 0;
            numbers[PRESENT_WEEK]++;
        }
    }

    /** All that a state of the history keeps: the novel and the slots. */
    private static final class Moment {
        final Novel novel = new Novel();
        final Novel[] slots = new Novel[SLOTS];
        final boolean[] taken = new boolean[SLOTS];

        Moment() {
            for (int slot = 0; slot < SLOTS; slot++) {
                slots[slot] = new Novel();
            }
        }

        void copyFrom(Moment other) {
            novel.copyFrom(other.novel);
            for (int slot = 0; slot < SLOTS; slot++) {
                slots[slot].copyFrom(other.slots[slot]);
                taken[slot] = other.taken[slot];
            }
        }

        int snapshots() {
            int sum = 0;
            for (int slot = 0; slot < SLOTS; slot++) {
                sum += taken[slot] ? 1 : 0;
            }
            return sum;
        }
    }

    /** The states that undo() goes back to, the oldest first. */
    private static final class History {
        final Moment[] states = new Moment[MOST_STATES];
        int kept = 0;

        History() {
            for (int i = 0; i < MOST_STATES; i++) {
                states[i] = new Moment();
            }
        }

        void record(Moment now) {
            if (kept == MOST_STATES) {
                dropOldest();
            }
            states[kept].copyFrom(now);
            kept++;
        }

        private void dropOldest() {
            Moment oldest = states[0];
            for (int i = 1; i < MOST_STATES; i++) {
                states[i - 1] = states[i];
            }
            states[MOST_STATES - 1] = oldest;
            kept--;
        }

        void goBack(Moment now) {
            kept--;
            now.copyFrom(states[kept]);
        }
    }

    /** The text, and the scenes that were found in it. */
    private static final class SceneText {
        final int[] characters = new int[MOST_CHARACTERS];
        final int[][] scenes = new int[TENSION + 1][MOST_SCENES];
        int length = 0;
        int found = 0;
        private int at = 0;

        /** Finds the scenes; tells the index of the first character that is wrong, or NONE. */
        int findFault() {
            at = 0;
            for (found = 0; found < MOST_SCENES; found++) {
                if (!findScene()) {
                    return at;
                }
                if (at == length) {
                    found++;
                    return NONE;
                }
                if (character() != ';') {
                    return at;
                }
                at++;
            }
            // So many scenes with a ";" behind each fill the whole text: it ends too early.
            return at;
        }

        boolean slacksFit() {
            for (int i = 0; i < found; i++) {
                if (scenes[SLACK][i] >= scenes[WORDS][i]) {
                    return false;
                }
            }
            return true;
        }

        private int character() {
            return at < length ? characters[at] : 0;
        }

        private boolean findScene() {
            int letter = character();
            if (letter < 'a' || letter > 'f') {
                return false;
            }
            at++;
            scenes[STRAND][found] = letter - 'a';
            scenes[WORDS][found] = findNumber();
            if (scenes[WORDS][found] == 0) {
                return false;
            }
            return findSlack() && findTension();
        }

        private boolean findSlack() {
            scenes[SLACK][found] = 0;
            if (character() != '-') {
                return true;
            }
            at++;
            scenes[SLACK][found] = findNumber();
            return scenes[SLACK][found] > 0;
        }

        private boolean findTension() {
            if (character() != '!') {
                return false;
            }
            at++;
            int digit = character();
            if (digit < '0' || digit > '9') {
                return false;
            }
            at++;
            scenes[TENSION][found] = digit - '0';
            return true;
        }

        /** A number of one to three digits that does not begin with 0; 0 if there is none. */
        private int findNumber() {
            int number = 0;
            for (int digits = 0; digits < 3; digits++) {
                int digit = character();
                if (digit < (digits == 0 ? '1' : '0') || digit > '9') {
                    return number;
                }
                number = 10 * number + digit - '0';
                at++;
            }
            return number;
        }
    }

    /**
     * The plans for the scenes from each one on, if the instalments from a certain one on are
     * left for them: rows by instalment, places in a row by scene. An instalment that begins
     * with a scene follows one that ends ahead of it, so that no more has to be known.
     */
    private static final class PlanTable {
        final int[][] plans = new int[MOST_SCENES + 1][MOST_SCENES + 1];
        final int[][] fewest = new int[MOST_SCENES + 1][MOST_SCENES + 1];
        final int[][] greatest = new int[MOST_SCENES + 1][MOST_SCENES + 1];
        final int[][] counts = new int[MOST_SCENES + 1][MOST_SCENES + 1];
        private int begin = 0;
        private int end = 0;

        void fill(Novel novel, int cut, int level) {
            begin = novel.numbers[PRINTED_SCENES];
            end = novel.numbers[ALL_SCENES];
            int most = Math.min(end - begin, WEEKS - novel.numbers[PRESENT_WEEK]);
            for (int row = most; row >= 0; row--) {
                for (int from = begin + row; from < end; from++) {
                    plans[row][from] = 0;
                }
                plans[row][end] = 1;
                fewest[row][end] = 0;
                greatest[row][end] = 0;
            }
            for (int row = most - 1; row > 0; row--) {
                for (int from = begin + row; from < end; from++) {
                    fillPlace(novel, row, from, 0, level);
                }
            }
            if (most > 0) {
                fillPlace(novel, 0, begin, cut, level);
            }
        }

        private void fillPlace(Novel novel, int row, int from, int cut, int level) {
            int week = novel.numbers[PRESENT_WEEK] + row;
            for (int count = 1; count <= end - from; count++) {
                int next = from + count;
                if (plans[row + 1][next] > 0 && novel.reason(from, count, week, cut, level) == 0) {
                    offer(row, from, count, novel.lastTension(next, cut));
                    plans[row][from] += plans[row + 1][next];
                }
            }
        }

        /** Keeps the better one; of two that are as good the one that was offered first. */
        private void offer(int row, int from, int count, int tension) {
            int instalments = fewest[row + 1][from + count] + 1;
            int tensions = greatest[row + 1][from + count] + tension;
            if (plans[row][from] == 0 || instalments < fewest[row][from]
                    || (instalments == fewest[row][from] && tensions > greatest[row][from])) {
                fewest[row][from] = instalments;
                greatest[row][from] = tensions;
                counts[row][from] = count;
            }
        }

        int plansFound() {
            return begin < end ? plans[0][begin] : 0;
        }

        /** Of so many scenes in the first instalment; there has to be a present week. */
        int plansBehindFirst(int count) {
            return plans[1][begin + count];
        }

        int instalments() {
            return fewest[0][begin];
        }

        int tensions() {
            return greatest[0][begin];
        }

        /** The first scene of an instalment of the best plan, or of none behind its last one. */
        int startOf(int instalment) {
            int start = begin;
            for (int row = 0; row < instalment; row++) {
                start += counts[row][start];
            }
            return start;
        }
    }
}
