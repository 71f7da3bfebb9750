import java.util.ArrayList;
import java.util.List;

/**
 * The document once more, in its plainest form and without regard to time or room: states are
 * copied whole, every plan is written out, every cut and level is tried.
 */
final class Reference {
    private static final class Scene implements Cloneable {
        int words;
        int slack;
        int strand;
        int tension;
        int cut = 0;
        int week = Check.NONE;

        Scene(int words, int slack, int strand, int tension) {
            this.words = words;
            this.slack = slack;
            this.strand = strand;
            this.tension = tension;
        }

        Scene copy() {
            Scene copy = new Scene(words, slack, strand, tension);
            copy.cut = cut;
            copy.week = week;
            return copy;
        }
    }

    private static final class Kept {
        List<Scene> scenes = new ArrayList<>();
        int printed = 0;
        int week = 0;
        int cut = 0;
        int set = 0;
        int sheet = 300;
        int level = 5;
        int quota = 400;
        int rate = 2;
        int owed = 0;
        int late = 0;
        int skipped = 0;
        int earned = 0;
        int fines = 0;
        int[] sheets = new int[30];
        int[] adverts = new int[30];
        List<int[]> passed = new ArrayList<>();

        Kept() {
            java.util.Arrays.fill(sheets, 2);
        }

        Kept copy() {
            Kept copy = new Kept();
            for (Scene scene : scenes) {
                copy.scenes.add(scene.copy());
            }
            copy.printed = printed;
            copy.week = week;
            copy.cut = cut;
            copy.set = set;
            copy.sheet = sheet;
            copy.level = level;
            copy.quota = quota;
            copy.rate = rate;
            copy.owed = owed;
            copy.late = late;
            copy.skipped = skipped;
            copy.earned = earned;
            copy.fines = fines;
            copy.sheets = sheets.clone();
            copy.adverts = adverts.clone();
            copy.passed = new ArrayList<>(passed);
            return copy;
        }
    }

    private record State(Kept kept, Kept[] slots) {
    }

    private Kept k = new Kept();
    private Kept[] slots = new Kept[2];
    private final List<State> history = new ArrayList<>();
    private String text = "";

    // The best plan that was found, and how many there were.
    private long found;
    private int[] best;
    private int bestTension;

    private void record() {
        history.add(new State(k.copy(), slots.clone()));
        if (history.size() > 6) {
            history.remove(0);
        }
    }

    private static boolean in(int value, int low, int high) {
        return low <= value && value <= high;
    }

    private int toCome() {
        return k.scenes.size() - k.printed;
    }

    private boolean comes(int at) {
        return in(at, k.printed, k.scenes.size() - 1);
    }

    int insert(int at, int words, int slack, int strand, int tension) {
        if (!in(at, k.printed, k.scenes.size()) || !in(words, 1, 999) || !in(slack, 0, words - 1)
                || !in(strand, 0, 5) || !in(tension, 0, 9)) {
            return Check.INVALID;
        }
        if (k.set > 0) {
            return Check.ILLEGAL;
        }
        if (k.scenes.size() == 20) {
            return Check.FULL;
        }
        record();
        k.scenes.add(at, new Scene(words, slack, strand, tension));
        return k.scenes.size();
    }

    int remove(int at) {
        if (!comes(at)) {
            return Check.INVALID;
        }
        if (k.set > 0) {
            return Check.ILLEGAL;
        }
        record();
        k.scenes.remove(at);
        return k.scenes.size();
    }

    int change(int at, int what, int value) {
        if (!comes(at) || !in(what, 0, 3)) {
            return Check.INVALID;
        }
        Scene changed = k.scenes.get(at).copy();
        int previous = what == 0 ? changed.words : what == 1 ? changed.slack
                : what == 2 ? changed.strand : changed.tension;
        if (what == 0) {
            changed.words = value;
        } else if (what == 1) {
            changed.slack = value;
        } else if (what == 2) {
            changed.strand = value;
        } else {
            changed.tension = value;
        }
        if (!in(changed.words, 1, 999) || !in(changed.slack, 0, changed.words - 1)
                || !in(changed.strand, 0, 5) || !in(changed.tension, 0, 9)) {
            return Check.INVALID;
        }
        if (k.set > 0) {
            return Check.ILLEGAL;
        }
        record();
        k.scenes.set(at, changed);
        return previous;
    }

    private int room(int week) {
        int room = k.sheets[week] * k.sheet - k.adverts[week];
        return room < 0 ? 0 : room;
    }

    int setWeek(int week, int sheets, int adverts) {
        if (!in(week, k.week, 29) || !in(sheets, 1, 4) || !in(adverts, 0, 999)) {
            return Check.INVALID;
        }
        record();
        k.sheets[week] = sheets;
        k.adverts[week] = adverts;
        return room(week);
    }

    int setNumber(int what, int value) {
        int previous;
        switch (what) {
            case 0:
                if (!in(value, 50, 999)) {
                    return Check.INVALID;
                }
                record();
                previous = k.sheet;
                k.sheet = value;
                return previous;
            case 1:
                if (!in(value, 0, 9)) {
                    return Check.INVALID;
                }
                record();
                previous = k.level;
                k.level = value;
                return previous;
            case 2:
                if (!in(value, 0, 999)) {
                    return Check.INVALID;
                }
                record();
                previous = k.quota;
                k.quota = value;
                return previous;
            case 3:
                if (!in(value, 1, 9)) {
                    return Check.INVALID;
                }
                record();
                previous = k.rate;
                k.rate = value;
                return previous;
            default:
                return Check.INVALID;
        }
    }

    int ask(int words) {
        if (!in(words, 0, 999)) {
            return Check.INVALID;
        }
        record();
        int previous = k.cut;
        k.cut = words;
        k.late += k.set > 0 ? 1 : 0;
        return previous;
    }

    /** The words that are cut from each scene, or null if the slacks are too small. */
    private int[] cuts(int from, int scenes, int cut) {
        int[] cuts = new int[scenes];
        int left = cut;
        for (int i = scenes - 1; i >= 0; i--) {
            while (left > 0 && cuts[i] < k.scenes.get(from + i).slack) {
                cuts[i]++;
                left--;
            }
        }
        return left == 0 ? cuts : null;
    }

    private static int tensionLeft(Scene scene, int cut) {
        int tension = scene.tension;
        if (2 * cut > scene.slack) {
            tension -= 2;
        }
        return tension < 0 ? 0 : tension;
    }

    private int words(int from, int scenes) {
        int words = 0;
        for (Scene scene : k.scenes.subList(from, from + scenes)) {
            words += scene.words;
        }
        return words;
    }

    private boolean cliff(int last, int tension, int level) {
        if (last + 1 >= k.scenes.size() || tension < level) {
            return false;
        }
        Scene behind = k.scenes.get(last + 1);
        return behind.strand != k.scenes.get(last).strand || behind.tension < tension;
    }

    private int reason(int from, int scenes, int week, int cut, int level) {
        if (scenes <= 0 || scenes > k.scenes.size() - from) {
            return 1;
        }
        int[] cuts = cuts(from, scenes, cut);
        if (cuts == null) {
            return 2;
        }
        int words = words(from, scenes) - cut;
        if (words > room(week)) {
            return 3;
        }
        if (words <= room(week) - k.sheet) {
            return 4;
        }
        int last = from + scenes - 1;
        if (last == k.scenes.size() - 1) {
            return 0;
        }
        if (!cliff(last, tensionLeft(k.scenes.get(last), cuts[scenes - 1]), level)) {
            return 5;
        }
        if (from > 0 && k.scenes.get(from - 1).strand == k.scenes.get(last).strand) {
            return 6;
        }
        return 0;
    }

    private boolean good(int scenes) {
        return k.week < 30 && reason(k.printed, scenes, k.week, k.cut, k.level) == 0;
    }

    int set(int scenes) {
        if (scenes < 1 || scenes > toCome()) {
            return Check.INVALID;
        }
        if (k.set > 0 || k.week == 30 || !good(scenes)) {
            return Check.ILLEGAL;
        }
        record();
        k.set = scenes;
        return words(k.printed, scenes) - k.cut;
    }

    int unset() {
        if (k.set == 0) {
            return Check.ILLEGAL;
        }
        record();
        int scenes = k.set;
        k.set = 0;
        return scenes;
    }

    int mend() {
        if (k.set == 0 || good(k.set)) {
            return Check.ILLEGAL;
        }
        int nearest = 0;
        for (int scenes = 1; scenes <= toCome(); scenes++) {
            if (good(scenes) && (nearest == 0 || Math.abs(scenes - k.set) < Math.abs(nearest - k.set))) {
                nearest = scenes;
            }
        }
        if (nearest == 0) {
            return Check.ILLEGAL;
        }
        record();
        k.set = nearest;
        return nearest;
    }

    private int owedThen(int owed, int words) {
        int then = owed + k.quota - words;
        return then < -k.quota ? -k.quota : then;
    }

    private void pass(int words, int scenes, int cut) {
        k.passed.add(new int[] {words, scenes, cut});
        k.owed = owedThen(k.owed, words);
        k.fines += k.owed > 0 ? k.owed / 10 : 0;
        k.cut = 0;
        k.week++;
    }

    int print() {
        if (k.set == 0 || !good(k.set)) {
            return Check.ILLEGAL;
        }
        record();
        int[] cuts = cuts(k.printed, k.set, k.cut);
        int words = words(k.printed, k.set) - k.cut;
        for (int i = 0; i < k.set; i++) {
            Scene scene = k.scenes.get(k.printed + i);
            scene.tension = tensionLeft(scene, cuts[i]);
            scene.cut = cuts[i];
            scene.week = k.week;
        }
        k.printed += k.set;
        k.earned += k.rate * words + 10 * k.scenes.get(k.printed - 1).tension;
        int scenes = k.set;
        k.set = 0;
        pass(words, scenes, k.cut);
        return words;
    }

    int skip() {
        if (k.set > 0 || k.week == 30) {
            return Check.ILLEGAL;
        }
        record();
        k.skipped++;
        pass(0, 0, 0);
        return k.owed;
    }

    int take(int slot) {
        if (!in(slot, 0, 1)) {
            return Check.INVALID;
        }
        record();
        slots[slot] = k.copy();
        return toCome();
    }

    int restore(int slot) {
        if (!in(slot, 0, 1)) {
            return Check.INVALID;
        }
        if (slots[slot] == null) {
            return Check.ILLEGAL;
        }
        record();
        k = slots[slot].copy();
        return toCome();
    }

    int undo() {
        if (history.isEmpty()) {
            return Check.ILLEGAL;
        }
        State state = history.remove(history.size() - 1);
        k = state.kept();
        slots = state.slots();
        return history.size();
    }

    int append(int character) {
        if (!in(character, 1, 255)) {
            return Check.INVALID;
        }
        if (text.length() == 100) {
            return Check.FULL;
        }
        text += (char) character;
        return text.length();
    }

    int clearText() {
        int previous = text.length();
        text = "";
        return previous;
    }

    private static final String SCENE = "[a-f][1-9][0-9]{0,2}(-[1-9][0-9]{0,2})?![0-9]";

    private static boolean isText(String text) {
        return text.matches(SCENE + "(;" + SCENE + ")*");
    }

    /** Whether something can be put behind it that makes it a text of scenes. */
    private static boolean canGoOn(String text) {
        String[] ends = {"", "a1!0", "1!0", "!0", "0"};
        for (String end : ends) {
            if (isText(text + end)) {
                return true;
            }
        }
        return false;
    }

    private int fault() {
        if (isText(text)) {
            return -1;
        }
        for (int length = 1; length <= text.length(); length++) {
            if (!canGoOn(text.substring(0, length))) {
                return length - 1;
            }
        }
        return text.length();
    }

    int read() {
        int fault = fault();
        if (fault >= 0) {
            return -1000 - fault;
        }
        List<Scene> read = new ArrayList<>();
        for (String part : text.split(";")) {
            String[] numbers = part.substring(1).split("[-!]");
            int slack = part.indexOf('-') < 0 ? 0 : Integer.parseInt(numbers[1]);
            read.add(new Scene(Integer.parseInt(numbers[0]), slack, part.charAt(0) - 'a',
                    Integer.parseInt(numbers[numbers.length - 1])));
        }
        for (Scene scene : read) {
            if (scene.slack >= scene.words) {
                return Check.INVALID;
            }
        }
        if (k.set > 0) {
            return Check.ILLEGAL;
        }
        if (k.scenes.size() + read.size() > 20) {
            return Check.FULL;
        }
        record();
        k.scenes.addAll(read);
        text = "";
        return read.size();
    }

    int count(int what) {
        int words = 0;
        int cut = 0;
        int instalments = 0;
        for (int[] week : k.passed) {
            words += week[0];
            cut += week[2];
            instalments += week[1] > 0 ? 1 : 0;
        }
        int snapshots = (slots[0] == null ? 0 : 1) + (slots[1] == null ? 0 : 1);
        int strand = k.printed == 0 ? Check.NONE : k.scenes.get(k.printed - 1).strand;
        int[] all = {k.scenes.size(), k.printed, k.week, k.cut, k.set, k.sheet, k.level, k.quota, k.rate, k.owed,
            words, cut, instalments, k.skipped, k.late, k.earned, k.fines, strand, snapshots, history.size(),
            text.length()};
        return in(what, 0, 20) ? all[what] : Check.INVALID;
    }

    int scene(int at, int what) {
        if (!in(at, 0, k.scenes.size() - 1) || !in(what, 0, 6)) {
            return Check.INVALID;
        }
        Scene s = k.scenes.get(at);
        int[] all = {s.words, s.slack, s.strand, s.tension, s.cut, s.week, cliff(at, s.tension, k.level) ? 1 : 0};
        return all[what];
    }

    int week(int week, int what) {
        if (!in(week, 0, 29) || !in(what, 0, 4)) {
            return Check.INVALID;
        }
        int[] passed = week < k.passed.size() ? k.passed.get(week) : new int[] {Check.NONE, Check.NONE};
        int[] all = {k.sheets[week], k.adverts[week], room(week), passed[0], passed[1]};
        return all[what];
    }

    int why(int scenes) {
        return k.week == 30 ? Check.ILLEGAL : reason(k.printed, scenes, k.week, k.cut, k.level);
    }

    int cutFrom(int scenes, int scene) {
        if (!in(scenes, 1, toCome()) || !in(scene, k.printed, k.printed + scenes - 1)) {
            return Check.INVALID;
        }
        int[] cuts = cuts(k.printed, scenes, k.cut);
        return cuts == null ? Check.NONE : cuts[scene - k.printed];
    }

    int since(int strand) {
        if (!in(strand, 0, 5)) {
            return Check.INVALID;
        }
        int since = Check.NONE;
        for (Scene scene : k.scenes) {
            if (scene.strand == strand && scene.week != Check.NONE) {
                since = k.week - scene.week - 1;
            }
        }
        return since;
    }

    int strand(int strand, int what) {
        if (!in(strand, 0, 5) || !in(what, 0, 1)) {
            return Check.INVALID;
        }
        int words = 0;
        for (Scene scene : k.scenes) {
            boolean printed = scene.week != Check.NONE;
            if (scene.strand == strand && printed == (what == 0)) {
                words += scene.words - scene.cut;
            }
        }
        return words;
    }

    /** Writes out every plan that begins with the instalments in counts; shorter ones go first. */
    private void tryPlans(int from, List<Integer> counts, int tension, int cut, int level) {
        if (from == k.scenes.size()) {
            found++;
            if (best == null || counts.size() < best.length
                    || (counts.size() == best.length && tension > bestTension)) {
                best = counts.stream().mapToInt(Integer::intValue).toArray();
                bestTension = tension;
            }
            return;
        }
        int week = k.week + counts.size();
        int cutHere = counts.isEmpty() ? cut : 0;
        for (int scenes = 1; week < 30 && scenes <= k.scenes.size() - from; scenes++) {
            if (reason(from, scenes, week, cutHere, level) == 0) {
                int last = from + scenes - 1;
                int left = tensionLeft(k.scenes.get(last), cuts(from, scenes, cutHere)[scenes - 1]);
                counts.add(scenes);
                tryPlans(last + 1, counts, tension + left, cut, level);
                counts.remove(counts.size() - 1);
            }
        }
    }

    private boolean findPlans(int cut, int level) {
        found = 0;
        best = null;
        bestTension = 0;
        if (toCome() > 0) {
            tryPlans(k.printed, new ArrayList<>(), 0, cut, level);
        }
        return found > 0;
    }

    int plan(int what) {
        if (!in(what, 0, 4)) {
            return Check.INVALID;
        }
        if (!findPlans(k.cut, k.level)) {
            return Check.NONE;
        }
        int owed = k.owed;
        int earned = 0;
        int fines = 0;
        int from = k.printed;
        for (int i = 0; i < best.length; i++) {
            int words = words(from, best[i]) - (i == 0 ? k.cut : 0);
            owed = owedThen(owed, words);
            fines += owed > 0 ? owed / 10 : 0;
            earned += k.rate * words;
            from += best[i];
        }
        int[] all = {best.length, bestTension, owed, earned + 10 * bestTension, fines};
        return all[what];
    }

    int planned(int instalment, int what) {
        if (instalment < 0 || !in(what, 0, 2)) {
            return Check.INVALID;
        }
        if (!findPlans(k.cut, k.level) || instalment >= best.length) {
            return Check.NONE;
        }
        int from = k.printed;
        for (int i = 0; i < instalment; i++) {
            from += best[i];
        }
        int words = words(from, best[instalment]) - (instalment == 0 ? k.cut : 0);
        int[] all = {best[instalment], words, room(k.week + instalment) - words};
        return all[what];
    }

    int plans() {
        findPlans(k.cut, k.level);
        return (int) found;
    }

    /** Whether there is a plan, without writing out all: dead[week][scene] has failed already. */
    private boolean planFrom(int from, int week, int cut, int level, boolean[][] dead) {
        if (from == k.scenes.size()) {
            return true;
        }
        if (week == 30 || dead[week][from]) {
            return false;
        }
        for (int scenes = 1; scenes <= k.scenes.size() - from; scenes++) {
            if (reason(from, scenes, week, cut, level) == 0 && planFrom(from + scenes, week + 1, 0, level, dead)) {
                return true;
            }
        }
        dead[week][from] = true;
        return false;
    }

    private boolean isPlan(int cut, int level) {
        return toCome() > 0 && planFrom(k.printed, k.week, cut, level, new boolean[30][20]);
    }

    int mostCut() {
        int most = Check.NONE;
        for (int cut = 0; cut <= 999; cut++) {
            most = isPlan(cut, k.level) ? cut : most;
        }
        return most;
    }

    int tooHigh() {
        for (int level = 0; level <= 9; level++) {
            if (!isPlan(k.cut, level)) {
                return level;
            }
        }
        return Check.NONE;
    }
}
