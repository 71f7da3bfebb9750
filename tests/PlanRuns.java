/** Many novels, the same ones each time, of which a good part has many plans, against the reference. */
final class PlanRuns {
    private static final int NOVELS = 5000;

    private long seed;
    private final CliffSerial x = new CliffSerial();
    private final Reference y = new Reference();
    private final StringBuilder calls = new StringBuilder();

    private static int withPlan = 0;
    private static int withManyPlans = 0;
    private static int withThreeInstalments = 0;
    private static int withCutAndPlan = 0;

    private PlanRuns(long seed) {
        this.seed = seed;
    }

    static void run() {
        for (int seed = 1; seed <= NOVELS && Check.failed < 20; seed++) {
            PlanRuns run = new PlanRuns(seed);
            run.write(run.between(1, 12));
            run.compare();
        }
        Check.holds("novels with a plan: " + withPlan, withPlan >= 1000);
        Check.holds("novels with many plans: " + withManyPlans, withManyPlans >= 500);
        Check.holds("novels with three instalments and more: " + withThreeInstalments, withThreeInstalments >= 200);
        Check.holds("novels with a cut and a plan: " + withCutAndPlan, withCutAndPlan >= 200);
    }

    private int below(int bound) {
        seed = seed * 6364136223846793005L + 1442695040888963407L;
        return (int) ((seed >>> 33) % bound);
    }

    private int between(int low, int high) {
        return low + below(high - low + 1);
    }

    private boolean oneIn(int many) {
        return below(many) == 0;
    }

    private void due(String call, int got, int want) {
        calls.append(' ').append(call);
        Check.due("plan run:" + calls, got, want);
    }

    /** Small scenes against the sheets, and tensions that lie close together, so that plans are as good. */
    private void write(int scenes) {
        int sheet = between(50, 250);
        setNumber(0, sheet);
        setNumber(1, below(8));
        setNumber(2, oneIn(2) ? below(1000) : below(200));
        int weeks = oneIn(20) ? below(30) : below(3);
        for (int i = 0; i < weeks; i++) {
            due("skip()", x.skip(), y.skip());
        }
        int mostSheets = oneIn(3) ? 1 : between(2, 4);
        for (int week = weeks; week < Math.min(30, weeks + scenes); week++) {
            int sheets = between(1, mostSheets);
            int adverts = oneIn(3) ? below(100) : 0;
            due("setWeek(" + week + ", " + sheets + ", " + adverts + ")",
                    x.setWeek(week, sheets, adverts), y.setWeek(week, sheets, adverts));
        }
        int strands = between(2, 6);
        int calmest = below(8);
        for (int i = 0; i < scenes; i++) {
            int words = between(1, oneIn(2) ? sheet : Math.max(1, sheet / 3));
            insert(i, words, oneIn(2) ? 0 : below(words), below(strands), between(calmest, 9));
        }
        if (oneIn(2)) {
            printFirst(scenes);
        }
        ask(oneIn(2) ? 0 : below(60));
    }

    private void setNumber(int what, int value) {
        due("setNumber(" + what + ", " + value + ")", x.setNumber(what, value), y.setNumber(what, value));
    }

    private void insert(int at, int words, int slack, int strand, int tension) {
        due("insert(" + at + ", " + words + ", " + slack + ", " + strand + ", " + tension + ")",
                x.insert(at, words, slack, strand, tension), y.insert(at, words, slack, strand, tension));
    }

    private void ask(int words) {
        due("ask(" + words + ")", x.ask(words), y.ask(words));
    }

    private void printFirst(int scenes) {
        for (int count = 1; count <= scenes && y.count(4) == 0; count++) {
            due("set(" + count + ")", x.set(count), y.set(count));
        }
        if (oneIn(2)) {
            ask(below(30));
        }
        due("mend()", x.mend(), y.mend());
        due("print()", x.print(), y.print());
        due("unset()", x.unset(), y.unset());
    }

    private void compare() {
        int instalments = y.plan(0);
        for (int what = 0; what <= 4; what++) {
            due("plan(" + what + ")", x.plan(what), y.plan(what));
        }
        for (int i = 0; i <= Math.max(0, instalments); i++) {
            for (int what = 0; what <= 2; what++) {
                due("planned(" + i + ", " + what + ")", x.planned(i, what), y.planned(i, what));
            }
        }
        int plans = y.plans();
        due("plans()", x.plans(), plans);
        due("mostCut()", x.mostCut(), y.mostCut());
        due("tooHigh()", x.tooHigh(), y.tooHigh());
        withPlan += plans > 0 ? 1 : 0;
        withManyPlans += plans > 1 ? 1 : 0;
        withThreeInstalments += instalments > 2 ? 1 : 0;
        withCutAndPlan += plans > 0 && y.count(3) > 0 ? 1 : 0;
    }
}
