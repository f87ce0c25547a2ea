/**
 * '3.' and the promises that reckon, at each case that the document names and at its neighbour.
 * The sentence that each test rests on stands ahead of it.
 */
public final class ReckonEdgesTest {
    private static final int NONE = RuleByLot.NONE;

    private ReckonEdgesTest() {
    }

    public static void main(String[] args) {
        free();
        quarrels();
        cover();
        coverOfLikeOnes();
        covering();
        allowed();
        finishInRange();
        finishOfWork();
        finishOfEach();
        finishTodayNot();
        finishBeyondTheBox();
        mostInRange();
        mostOfLikeOnes();
        mostOfAny();
        mostAt();
        fairInRange();
        fairByTheBox();
        chance();
        fitsInRange();
        fits();
        watch();
        watchOfLikeOnes();
        watchAsItWas();
        waits();
        notice();
        byteAt();
        said();
        saidOfToday();
        saidOfNumbers();
        saidInOrder();
        saidByTwentyOnes();
        Checks.finish("ReckonEdgesTest");
    }

    private static void due(String call, long got, long want) {
        Checks.due(call, got, want);
    }

    private static void due(String call, boolean got, boolean want) {
        Checks.due(call, got, want);
    }

    private static String chapters(int n, int slips) {
        StringBuilder text = new StringBuilder();
        for (int i = 0; i < n; i++) {
            text.append("chapter c").append((char) ('a' + i)).append(' ').append(slips).append(';');
        }
        return text.toString();
    }

    private static String deeds(int n) {
        StringBuilder text = new StringBuilder();
        for (int i = 0; i < n; i++) {
            text.append("deed d").append((char) ('a' + i)).append(';');
        }
        return text.toString();
    }

    // "DEEDS that no CHAPTER bars, as bits"
    private static void free() {
        due("no DEEDS", new RuleByLot().free(), 0);
        due("no CHAPTERS", Checks.with(deeds(8)).free(), 255);
        due("one DEED", Checks.with(deeds(1)).free(), 1);
        due("none bars", Checks.with(deeds(3) + chapters(10, 1) + "must cj dc;").free(), 7);
        due("the last bars the last", Checks.with(deeds(8) + chapters(10, 1) + "bars cj dh;").free(), 127);
        due("the first bars the first", Checks.with(deeds(8) + chapters(10, 1) + "bars ca da;").free(), 254);
        due("all are barred", Checks.with(deeds(2) + chapters(2, 1) + "bars ca da;bars cb db;").free(), 0);
        RuleByLot x = Checks.with(deeds(2) + chapters(2, 1) + "bars ca da;once;");
        x.fold(0);
        x.night();
        due("the box does not count", x.free(), 2);
    }

    // "QUARREL: two CHAPTERS of which one says that must be done what the other one bars"; "NONE: no such one"
    private static void quarrels() {
        RuleByLot x = Checks.with(deeds(2) + chapters(10, 1) + "must ca da;bars cj da;bars cb db;must cc da;bars cd da;");
        due("the first with the last", x.quarrels(0), 1 << 9 | 1 << 3);
        due("the last with the first", x.quarrels(9), 1 | 1 << 2);
        due("of another DEED", x.quarrels(1), 0);
        due("one that says nothing", x.quarrels(4), 0);
        due("quarrels(-1)", x.quarrels(-1), NONE);
        due("quarrels(10)", x.quarrels(10), NONE);
        due("quarrels(min)", x.quarrels(Integer.MIN_VALUE), NONE);
        due("quarrels(max)", x.quarrels(Integer.MAX_VALUE), NONE);
        due("both must", Checks.with("deed a;chapter b 1;chapter c 1;must b a;must c a;").quarrels(0), 0);
        due("both bar", Checks.with("deed a;chapter b 1;chapter c 1;bars b a;bars c a;").quarrels(0), 0);
        due("none with itself", Checks.with("deed a;deed b;chapter c 1;must c a;bars c b;").quarrels(0), 0);
        due("no CHAPTERS", new RuleByLot().quarrels(0), NONE);
    }

    private static void dueCover(String rules, int many, int bits) {
        RuleByLot x = Checks.with(deeds(8) + chapters(10, 1) + rules);
        due("cover() by " + rules, x.cover(), many);
        due("covering() by " + rules, x.covering(), bits);
    }

    // "COVER: the fewest CHAPTERS such that each DEED that must be done by some must be by one of them"
    private static void cover() {
        dueCover("", 0, 0);
        dueCover("bars ca da;bars cb db;", 0, 0);
        dueCover("must cj dh;", 1, 512);
        dueCover("must ca da;", 1, 1);
        dueCover("must ca da;must cb db;must cj da;must cj db;", 1, 512);
        dueCover("must ca da;must cb db;must cc dc;must cd dd;must ce de;must cf df;must cg dg;must ch dh;", 8, 255);
        dueCover("must cj da;must ci db;must ch dc;must cg dd;must cf de;must ce df;must cd dg;must cc dh;", 8, 1020);
        // The greedy way, first the one with most, would need three.
        dueCover("must ca da;must ca db;must ca dc;must ca dd;must cb da;must cb db;must cb de;must cc dc;must cc dd;must cc df;", 2, 6);
        due("cover() of no CHAPTERS", Checks.with(deeds(8)).cover(), 0);
    }

    // "of like ones the least as bits"
    private static void coverOfLikeOnes() {
        dueCover("must ca da;must cb da;", 1, 1);
        dueCover("must ci da;must cj da;", 1, 256);
        dueCover("must ca da;must cd db;must cb da;must cc db;", 2, 5);
        // a with d is 9, b with c is 6.
        dueCover("must ca da;must ca db;must cd dc;must cd dd;must cb da;must cb dc;must cc db;must cc dd;", 2, 6);
    }

    // "Which, as bits, by the latest cover(); NONE ahead of any"
    private static void covering() {
        RuleByLot x = Checks.with(deeds(1) + chapters(1, 1) + "must ca da;");
        due("ahead of any", x.covering(), NONE);
        x.cover();
        due("by the latest", x.covering(), 1);
        Checks.house(x, "");
        due("behind a new HOUSE", x.covering(), 1);
        x.cover();
        due("by the latest of none", x.covering(), 0);
    }

    private static void dueAllowed(RuleByLot x, int d, long above, long below) {
        due("allowed(" + d + ", 0)", x.allowed(d, 0), above);
        due("allowed(" + d + ", 1)", x.allowed(d, 1), below);
    }

    // "How likely a DEED may be done on a day, drawn from the box as it is now"; "0 above, 1 below, in least terms"
    private static void allowed() {
        RuleByLot x = Checks.with("deed a;deed b;deed d;chapter c 2;chapter e 2;chapter f 4;bars c a;bars e a;bars f a;"
                + "bars e b;bars f b;must c d;once;");
        dueAllowed(x, 0, 0, 1);
        dueAllowed(x, 1, 1, 4);
        dueAllowed(x, 2, 1, 1);
        x.fold(0);
        dueAllowed(x, 1, 1, 7);
        x.night();
        x.fold(0);
        dueAllowed(x, 1, 0, 1);
        x.night();
        x.fold(1);
        dueAllowed(x, 1, 0, 1);
        Checks.dueNoSuch("allowed(-1, 0)", () -> x.allowed(-1, 0));
        Checks.dueNoSuch("allowed(3, 0)", () -> x.allowed(3, 0));
        Checks.dueNoSuch("allowed(0, -1)", () -> x.allowed(0, -1));
        Checks.dueNoSuch("allowed(0, 2)", () -> x.allowed(0, 2));
        Checks.dueNoSuch("no CHAPTERS", () -> Checks.with("deed a;").allowed(0, 0));
        Checks.dueNoSuch("no DEEDS", () -> Checks.with("chapter c 1;").allowed(0, 0));
        dueAllowed(Checks.with("deed a;chapter c 1;"), 0, 1, 1);
        dueAllowed(Checks.with("deed a;" + chapters(10, 9) + "bars ca a;"), 0, 9, 10);
    }

    private static void dueFinish(RuleByLot x, int m, int d, int k, long above, long below) {
        due("finish(" + m + ", " + d + ", " + k + ", 0)", x.finish(m, d, k, 0), above);
        due("finish(" + m + ", " + d + ", " + k + ", 1)", x.finish(m, d, k, 1), below);
    }

    // "FINISH of a MONK and a DEED in k (1 to 8) days. NoSuchElementException: no such ones, no CHAPTERS"
    private static void finishInRange() {
        RuleByLot x = Checks.with("deed a;deed b;monk m;monk n;chapter c 1;work n b 1;");
        for (int k : new int[] {Integer.MIN_VALUE, -1, 0, 9, Integer.MAX_VALUE}) {
            Checks.dueNoSuch("finish in " + k, () -> x.finish(1, 1, k, 0));
        }
        dueFinish(x, 1, 1, 1, 1, 1);
        dueFinish(x, 1, 1, 8, 1, 1);
        for (int bad : new int[] {Integer.MIN_VALUE, -1, 2, Integer.MAX_VALUE}) {
            Checks.dueNoSuch("finish of MONK " + bad, () -> x.finish(bad, 0, 1, 0));
            Checks.dueNoSuch("finish of DEED " + bad, () -> x.finish(0, bad, 1, 0));
            Checks.dueNoSuch("finish, what " + bad, () -> x.finish(0, 0, 1, bad));
        }
        Checks.dueNoSuch("no CHAPTERS", () -> Checks.with("deed a;monk m;").finish(0, 0, 1, 0));
        Checks.dueNoSuch("no MONKS", () -> Checks.with("deed a;chapter c 1;").finish(0, 0, 1, 0));
        Checks.dueNoSuch("no DEEDS", () -> Checks.with("monk m;chapter c 1;").finish(0, 0, 1, 0));
    }

    // "how likely he could do all WORK of it that he has left, if on each of the next k days .. he does it once"
    private static void finishOfWork() {
        for (int work = 1; work <= 20; work++) {
            RuleByLot x = Checks.with("deed a;monk m;chapter c 3;work m a " + work + ";");
            for (int k = 1; k <= 8; k++) {
                dueFinish(x, 0, 0, k, k >= work ? 1 : 0, 1);
            }
        }
        RuleByLot none = Checks.with("deed a;monk m;chapter c 1;bars c a;");
        dueFinish(none, 0, 0, 1, 1, 1);
        RuleByLot never = Checks.with("deed a;monk m;chapter c 1;bars c a;work m a 1;");
        dueFinish(never, 0, 0, 8, 0, 1);
        // Half of the slips: of k draws at least w, by the row of binomials.
        RuleByLot half = Checks.with("deed a;monk m;chapter c 3;chapter e 3;bars e a;work m a 8;");
        dueFinish(half, 0, 0, 7, 0, 1);
        dueFinish(half, 0, 0, 8, 1, 256);
        RuleByLot seven = Checks.with("deed a;monk m;chapter c 3;chapter e 3;bars e a;work m a 7;");
        dueFinish(seven, 0, 0, 8, 9, 256);
        RuleByLot one = Checks.with("deed a;monk m;chapter c 3;chapter e 3;bars e a;work m a 1;");
        dueFinish(one, 0, 0, 8, 255, 256);
        RuleByLot four = Checks.with("deed a;monk m;chapter c 3;chapter e 3;bars e a;work m a 4;");
        dueFinish(four, 0, 0, 8, 163, 256);
    }

    private static void finishOfEach() {
        RuleByLot x = Checks.with("deed a;deed b;deed d;monk m;monk n;chapter c 1;work m a 1;work m d 3;work n a 2;work n b 4;");
        int[][] work = {{1, 0, 3}, {2, 4, 0}};
        for (int m = 0; m < 2; m++) {
            for (int d = 0; d < 3; d++) {
                for (int k = 1; k <= 5; k++) {
                    dueFinish(x, m, d, k, k >= work[m][d] ? 1 : 0, 1);
                }
            }
        }
    }

    // "(drawn by lot from the box as it is now, today's not)"
    private static void finishTodayNot() {
        RuleByLot x = Checks.with("deed a;monk m;chapter c 1;chapter e 1;bars e a;work m a 1;");
        dueFinish(x, 0, 0, 1, 1, 2);
        x.fold(0);
        dueFinish(x, 0, 0, 1, 1, 2);
        x.does(0, 0);
        dueFinish(x, 0, 0, 1, 1, 1);
        x.undo();
        x.undo();
        x.fold(1);
        dueFinish(x, 0, 0, 1, 1, 2);
        RuleByLot y = Checks.with("deed a;monk m;chapter c 1;chapter e 1;bars e a;work m a 1;once;");
        dueFinish(y, 0, 0, 1, 1, 2);
        dueFinish(y, 0, 0, 2, 1, 1);
        y.fold(0);
        // The slip that allows it is out; on the day behind the next one all are back.
        dueFinish(y, 0, 0, 1, 0, 1);
        dueFinish(y, 0, 0, 2, 1, 2);
        dueFinish(y, 0, 0, 3, 1, 1);
        y.undo();
        y.fold(1);
        dueFinish(y, 0, 0, 1, 1, 1);
    }

    private static void finishBeyondTheBox() {
        // Of two slips one allows it: each full box gives one, what is begun gives one half.
        RuleByLot x = Checks.with("deed a;monk m;chapter c 1;chapter e 1;bars e a;work m a 4;once;");
        dueFinish(x, 0, 0, 6, 0, 1);
        dueFinish(x, 0, 0, 7, 1, 2);
        dueFinish(x, 0, 0, 8, 1, 1);
        RuleByLot y = Checks.with("deed a;monk m;chapter c 1;work m a 8;once;");
        dueFinish(y, 0, 0, 7, 0, 1);
        dueFinish(y, 0, 0, 8, 1, 1);
        // Three of four allow it; in eight days all six, in seven five for sure and six by one in four.
        RuleByLot z = Checks.with("deed a;monk m;chapter c 3;chapter e 1;bars e a;work m a 6;once;");
        dueFinish(z, 0, 0, 6, 0, 1);
        dueFinish(z, 0, 0, 7, 1, 4);
        dueFinish(z, 0, 0, 8, 1, 1);
    }

    // "MOST in k (1 to 4) days: how much WORK; NONE: not as told, no CHAPTERS"
    private static void mostInRange() {
        RuleByLot x = Checks.with("deed a;monk m;chapter c 1;work m a 20;");
        for (int k : new int[] {Integer.MIN_VALUE, -1, 0, 5, Integer.MAX_VALUE}) {
            due("most(" + k + ")", x.most(k), NONE);
            due("mostAt ahead of any", x.mostAt(0), NONE);
        }
        for (int k = 1; k <= 4; k++) {
            due("most(" + k + ")", x.most(k), k);
        }
        due("no CHAPTERS", Checks.with("deed a;monk m;work m a 2;").most(1), NONE);
        due("no WORK", Checks.with("chapter c 1;").most(4), 0);
    }

    private static void dueMost(RuleByLot x, int k, int work, int... chosen) {
        due("most(" + k + ")", x.most(k), work);
        for (int i = 0; i < 4; i++) {
            due("mostAt(" + i + ") of " + k, x.mostAt(i), i < chosen.length ? chosen[i] : NONE);
        }
    }

    // "of like ones the first: CHAPTER by CHAPTER the least, in rising order"
    private static void mostOfLikeOnes() {
        RuleByLot x = Checks.with("deed a;deed b;monk m;chapter c 1;chapter e 1;chapter f 1;bars c a;bars e b;"
                + "bars f a;bars f b;work m a 1;work m b 1;");
        dueMost(x, 1, 1, 0);
        dueMost(x, 2, 2, 0, 1);
        dueMost(x, 3, 2, 0, 0, 1);
        dueMost(x, 4, 2, 0, 0, 0, 1);
        RuleByLot y = Checks.with("deed a;monk m;chapter c 1;chapter e 1;bars c a;work m a 3;");
        dueMost(y, 1, 1, 1);
        dueMost(y, 3, 3, 1, 1, 1);
        dueMost(y, 4, 3, 0, 1, 1, 1);
        RuleByLot z = Checks.with("deed a;monk m;" + chapters(10, 1));
        dueMost(z, 4, 0, 0, 0, 0, 0);
        // Two are needed once each, the others bar all.
        StringBuilder bars = new StringBuilder("bars ca b;bars cj a;");
        for (char c = 'b'; c < 'j'; c++) {
            bars.append("bars c").append(c).append(" a;bars c").append(c).append(" b;");
        }
        RuleByLot w = Checks.with("deed a;deed b;monk m;monk n;" + chapters(10, 1) + bars + "work m a 1;work n b 3;");
        dueMost(w, 4, 4, 0, 9, 9, 9);
        dueMost(w, 3, 3, 0, 9, 9);
        dueMost(w, 1, 1, 0);
        StringBuilder all = new StringBuilder();
        for (char c = 'a'; c < 'j'; c++) {
            all.append("bars c").append(c).append(" a;");
        }
        RuleByLot last = Checks.with("deed a;monk m;" + chapters(10, 1) + all + "work m a 20;");
        dueMost(last, 4, 4, 9, 9, 9, 9);
        dueMost(last, 1, 1, 9);
        // Without WORK all are alike, whatever was chosen ahead of that.
        Checks.house(last, "deed a;monk m;" + chapters(10, 1));
        dueMost(last, 4, 0, 0, 0, 0, 0);
    }

    // "CHAPTERS drawn as one likes (any of them, as often as one likes) so that all MONKS together .."
    private static void mostOfAny() {
        RuleByLot x = Checks.with("deed a;monk m;monk n;chapter c 1;chapter e 1;bars c a;work m a 2;work n a 20;once;");
        x.fold(1);
        x.night();
        due("no slip of it is in the box", x.chapter(1, 1), 0);
        dueMost(x, 2, 4, 1, 1);
        dueMost(x, 3, 5, 1, 1, 1);
        x.fold(0);
        dueMost(x, 1, 2, 1);
    }

    // "The i-th CHAPTER (from 0) by the latest most() that was not NONE; NONE: none such, or ahead of any"
    private static void mostAt() {
        RuleByLot x = Checks.with("deed a;monk m;chapter c 1;chapter e 1;bars c a;work m a 20;");
        for (int i = -1; i < 5; i++) {
            due("mostAt(" + i + ") ahead of any", x.mostAt(i), NONE);
        }
        x.most(4);
        int[] want = {NONE, 1, 1, 1, 1, NONE};
        for (int i = -1; i < 5; i++) {
            due("mostAt(" + i + ") of 4", x.mostAt(i), want[i + 1]);
        }
        due("mostAt(max)", x.mostAt(Integer.MAX_VALUE), NONE);
        due("mostAt(min)", x.mostAt(Integer.MIN_VALUE), NONE);
        x.most(2);
        due("mostAt(1) of 2", x.mostAt(1), 1);
        due("mostAt(2) of 2", x.mostAt(2), NONE);
        x.most(5);
        x.most(0);
        due("mostAt(1) behind NONE", x.mostAt(1), 1);
        Checks.house(x, "");
        due("most without CHAPTERS", x.most(1), NONE);
        due("mostAt(1) behind a new HOUSE", x.mostAt(1), 1);
    }

    private static int fairOf(RuleByLot x, int... draws) {
        Checks.put(x, draws);
        int answer = x.fair();
        due("the tape behind fair()", x.count(5), 0);
        return answer;
    }

    // "(a byte for each draw: a CHAPTER; 1 to 8 of them ..)"; "-2: not as told"
    private static void fairInRange() {
        RuleByLot x = Checks.with(chapters(10, 1));
        due("none", fairOf(x), -2);
        due("1", fairOf(x, 9), NONE);
        due("8", fairOf(x, 9, 8, 7, 6, 5, 4, 3, 2), NONE);
        due("9", fairOf(x, 9, 8, 7, 6, 5, 4, 3, 2, 1), -2);
        due("20", fairOf(x, new int[20]), -2);
        due("CHAPTER 10", fairOf(x, 10), -2);
        due("CHAPTER 255", fairOf(x, 255), -2);
        due("CHAPTER 10 behind others", fairOf(x, 0, 1, 2, 3, 4, 5, 6, 10), -2);
        due("CHAPTER 9 behind others", fairOf(x, 0, 1, 2, 3, 4, 5, 6, 9), NONE);
        due("no CHAPTERS", fairOf(new RuleByLot(), 0), -2);
        RuleByLot y = Checks.with("chapter c 1;once;chapter e 1;");
        due("not as told behind one that can't be", fairOf(y, 0, 0, 2), -2);
    }

    // "the first draw that can't be (no slip of it would be in the box)"
    private static void fairByTheBox() {
        RuleByLot x = Checks.with("chapter c 1;chapter e 2;once;");
        due("the first again", fairOf(x, 0, 0), 1);
        due("the second again", fairOf(x, 1, 1), NONE);
        due("the second thrice", fairOf(x, 1, 1, 1), 2);
        due("two that can't be", fairOf(x, 0, 0, 0), 1);
        due("all come back", fairOf(x, 0, 1, 1, 0), NONE);
        due("all come back, then twice", fairOf(x, 1, 1, 0, 0, 0), 4);
        due("the eighth", fairOf(x, 0, 1, 1, 0, 1, 1, 0, 0), 7);
        due("the eighth can be", fairOf(x, 0, 1, 1, 0, 1, 1, 0, 1), NONE);
        x.fold(0);
        // "from the box as it is now on"
        due("what is out", fairOf(x, 0), 0);
        due("what is in", fairOf(x, 1, 1, 0), NONE);
        due("what comes back", fairOf(x, 1, 0), 1);
        due("the box stays", x.now(4), 2);
        RuleByLot y = Checks.with("chapter c 1;chapter e 2;");
        y.fold(0);
        due("slips go back", fairOf(y, 0, 0, 0, 0, 0, 0, 0, 0), NONE);
    }

    private static void dueChance(RuleByLot x, long above, long below) {
        due("chance(0)", x.chance(0), above);
        due("chance(1)", x.chance(1), below);
    }

    // "How likely they come so, by the latest fair() that was NONE. NoSuchElementException: ahead of any, another what"
    private static void chance() {
        RuleByLot x = Checks.with("chapter c 2;chapter e 2;once;");
        Checks.dueNoSuch("ahead of any", () -> x.chance(0));
        fairOf(x);
        Checks.dueNoSuch("behind -2", () -> x.chance(1));
        fairOf(x, 0, 0, 0);
        Checks.dueNoSuch("behind one that can't be", () -> x.chance(0));
        fairOf(x, 0);
        dueChance(x, 1, 2);
        for (int what : new int[] {Integer.MIN_VALUE, -1, 2, Integer.MAX_VALUE}) {
            Checks.dueNoSuch("chance(" + what + ")", () -> x.chance(what));
        }
        fairOf(x, 0, 0);
        dueChance(x, 1, 6);
        fairOf(x, 0, 0, 0);
        fairOf(x, 7);
        dueChance(x, 1, 6);
        fairOf(x, 0, 0, 1, 1);
        dueChance(x, 1, 6);
        fairOf(x, 0, 0, 1, 1, 1);
        dueChance(x, 1, 12);
        fairOf(x, 0, 1, 0, 1, 0, 0, 1, 1);
        dueChance(x, 1, 36);
        x.fold(0);
        dueChance(x, 1, 36);
        fairOf(x, 1);
        dueChance(x, 2, 3);
        Checks.house(x, "chapter c 9;");
        dueChance(x, 2, 3);
        fairOf(x, 0, 0, 0, 0, 0, 0, 0, 0);
        dueChance(x, 1, 1);
        RuleByLot big = Checks.with(chapters(10, 9).replace("ca 9", "ca 7"));
        fairOf(big, 0, 0, 0, 0, 0, 0, 0, 0);
        dueChance(big, 5764801L, 3596345248055296L);
    }

    private static int fitsOf(RuleByLot x, int... pairs) {
        Checks.put(x, pairs);
        int answer = x.fits();
        due("the tape behind fits()", x.count(5), 0);
        return answer;
    }

    // "(pairs of bytes: a DEED, 1 done, 0 not done; 1 to 8 of them)"; "NONE: not as told"
    private static void fitsInRange() {
        RuleByLot x = Checks.with(deeds(8) + chapters(2, 1));
        due("none", fitsOf(x), NONE);
        due("half a pair", fitsOf(x, 0), NONE);
        due("1 pair", fitsOf(x, 7, 1), 3);
        due("1 pair and a half", fitsOf(x, 7, 1, 0), NONE);
        due("8 pairs", fitsOf(x, 0, 1, 1, 1, 2, 1, 3, 1, 4, 0, 5, 0, 6, 0, 7, 0), 3);
        due("8 pairs and a half", fitsOf(x, 0, 1, 1, 1, 2, 1, 3, 1, 4, 0, 5, 0, 6, 0, 7, 0, 0), NONE);
        due("9 pairs", fitsOf(x, 0, 1, 1, 1, 2, 1, 3, 1, 4, 0, 5, 0, 6, 0, 7, 0, 0, 1), NONE);
        due("DEED 8", fitsOf(x, 8, 1), NONE);
        due("DEED 255", fitsOf(x, 255, 1), NONE);
        due("done 2", fitsOf(x, 0, 2), NONE);
        due("done 255", fitsOf(x, 0, 255), NONE);
        due("done 0", fitsOf(x, 0, 0), 3);
        due("DEED 8 as the last", fitsOf(x, 0, 1, 0, 1, 0, 1, 0, 1, 0, 1, 0, 1, 0, 1, 8, 1), NONE);
        due("done 2 as the last", fitsOf(x, 0, 1, 0, 1, 0, 1, 0, 1, 0, 1, 0, 1, 0, 1, 0, 2), NONE);
        due("no DEEDS", fitsOf(Checks.with(chapters(1, 1)), 0, 1), NONE);
        due("no CHAPTERS", fitsOf(Checks.with(deeds(1)), 0, 1), 0);
    }

    // "CHAPTERS that can have held, if all that was told done was not barred, and what was told not done need not be done"
    private static void fits() {
        RuleByLot x = Checks.with("deed a;deed b;chapter c 1;chapter e 1;chapter f 1;must c a;bars e a;once;");
        due("done", fitsOf(x, 0, 1), 5);
        due("not done", fitsOf(x, 0, 0), 6);
        due("both told", fitsOf(x, 0, 1, 0, 0), 4);
        due("of another DEED", fitsOf(x, 1, 0, 1, 1), 7);
        x.fold(2);
        x.night();
        due("the box does not count", fitsOf(x, 0, 1, 0, 0), 4);
        // Each pair counts, the first as well as the last.
        RuleByLot w = Checks.with("deed a;deed b;deed d;chapter c 1;chapter e 1;chapter f 1;chapter g 1;"
                + "bars c a;bars e b;must f a;must g b;");
        due("done, done", fitsOf(w, 0, 1, 1, 1), 12);
        due("not done, not done", fitsOf(w, 0, 0, 1, 0), 3);
        due("done, not done", fitsOf(w, 0, 1, 1, 0, 2, 0, 2, 1), 6);
        RuleByLot y = Checks.with("deed a;chapter c 1;chapter e 1;must c a;bars e a;");
        due("none fits", fitsOf(y, 0, 1, 0, 0), 0);
        RuleByLot z = Checks.with("deed a;" + chapters(10, 1) + "must ca a;");
        due("all but the first", fitsOf(z, 0, 0), 1022);
        due("all", fitsOf(z, 0, 1), 1023);
    }

    // "the DEED of which the greatest number of these that may still be left, if one sees that it must be done, that it
    // may, or that it is barred, is the least"
    private static void watch() {
        // Of six: a 3 must, 3 may; b 2, 2, 2; d 6 may.
        RuleByLot x = Checks.with("deed d;deed a;deed b;" + chapters(6, 1)
                + "must ca a;must cb a;must cc a;must ca b;must cb b;bars cc b;bars cd b;");
        fitsOf(x, 0, 1);
        due("2, 2 and 2 of six", x.watch(), 2);
        fitsOf(x, 2, 1, 2, 0);
        // e and f alone: none parts them.
        due("of two alike", x.watch(), 0);
        fitsOf(x, 2, 0);
        // c, d, e, f: a 1 must, 3 may; b 2 barred, 2 may.
        due("of four", x.watch(), 2);
        fitsOf(x, 2, 1);
        // a, b, e, f: a 2 and 2, b 2 and 2.
        due("of like ones the first", x.watch(), 1);
        RuleByLot bars = Checks.with("deed a;deed b;" + chapters(3, 1) + "bars ca b;");
        fitsOf(bars, 0, 1);
        due("barred is seen, too", bars.watch(), 1);
        RuleByLot musts = Checks.with("deed a;deed b;" + chapters(3, 1) + "must ca b;");
        fitsOf(musts, 0, 1);
        due("must is seen, too", musts.watch(), 1);
    }

    // "of like ones the first"
    private static void watchOfLikeOnes() {
        RuleByLot x = Checks.with(deeds(8) + chapters(10, 1));
        fitsOf(x, 7, 1);
        due("all alike", x.watch(), 0);
        RuleByLot y = Checks.with(deeds(8) + chapters(10, 1) + "must ca dh;bars cb dg;");
        fitsOf(y, 0, 1);
        due("the seventh and the eighth alike", y.watch(), 6);
        RuleByLot z = Checks.with(deeds(8) + chapters(10, 1) + "must ca dh;");
        fitsOf(z, 0, 1);
        due("the eighth alone", z.watch(), 7);
    }

    // "by the latest fits() above 0 (as it was then); NONE: there were no DEEDS, or ahead of any"
    private static void watchAsItWas() {
        RuleByLot x = Checks.with("deed a;deed b;chapter c 1;chapter e 1;must c b;bars e b;");
        due("ahead of any", x.watch(), NONE);
        fitsOf(x, 1, 2);
        due("behind NONE alone", x.watch(), NONE);
        fitsOf(x, 1, 1, 1, 0);
        due("behind 0 alone", x.watch(), NONE);
        fitsOf(x, 0, 1);
        due("behind one above 0", x.watch(), 1);
        fitsOf(x, 1, 1, 1, 0);
        due("behind 0", x.watch(), 1);
        fitsOf(x, 7, 7);
        due("behind NONE", x.watch(), 1);
        Checks.house(x, "chapter k 1;");
        due("behind a new HOUSE", x.watch(), 1);
        fitsOf(x, 0, 1);
        due("behind NONE in a HOUSE without DEEDS", x.watch(), 1);
        Checks.house(x, "deed a;chapter k 1;");
        fitsOf(x, 0, 1);
        due("by the latest", x.watch(), 0);
    }

    // "WAIT for a CHAPTER: after how many draws at most one of it was drawn ('once' alone)"
    private static void waits() {
        RuleByLot x = Checks.with("chapter c 2;chapter e 1;chapter f 3;once;");
        // All others of the box come ahead of it; if none of it is in, those of the next box, too.
        int[][] want = {{5, 6, 4}, {5, 5, 3}, {9, 4, 2}, {8, 9, 1}, {7, 8, 1}, {6, 7, 1}, {5, 6, 4}};
        int[] folds = {0, 0, 1, 2, 2, 2};
        for (int i = 0; i < want.length; i++) {
            for (int c = 0; c < 3; c++) {
                due("waits(" + c + ") behind " + i, x.waits(c), want[i][c]);
            }
            if (i < folds.length) {
                x.night();
                x.fold(folds[i]);
            }
        }
        // "NONE: there is no such bound, no such one"
        due("waits(-1)", x.waits(-1), NONE);
        due("waits(3)", x.waits(3), NONE);
        due("waits(max)", x.waits(Integer.MAX_VALUE), NONE);
        due("waits without 'once'", Checks.with("chapter c 1;chapter e 1;").waits(0), NONE);
        due("waits without 'once' for the only one", Checks.with("chapter c 1;").waits(0), NONE);
        due("waits with 'once' for the only one", Checks.with("chapter c 9;once;").waits(0), 1);
        due("no CHAPTERS", Checks.with("once;").waits(0), NONE);
    }

    // "NOTICE: if one HOLDS: its NAME and ' holds', then for the DEEDS that must be done, by number, a blank and
    // the NAME; else 'nobody knows'"
    private static void notice() {
        due("in a new object", new RuleByLot().notice(), 12);
        RuleByLot x = Checks.with("deed zzzzzzz;deed a;deed mm;chapter c 1;chapter abcdefg 1;must abcdefg mm;"
                + "must abcdefg zzzzzzz;bars abcdefg a;");
        Checks.dueText("none HOLDS", Checks.notice(x), "nobody knows");
        x.fold(0);
        Checks.dueText("none must be", Checks.notice(x), "c holds");
        x.night();
        Checks.dueText("behind the NIGHT", Checks.notice(x), "nobody knows");
        x.fold(1);
        due("bytes", x.notice(), 13 + 8 + 3);
        Checks.dueText("by number", Checks.notice(x), "abcdefg holds zzzzzzz mm");
        StringBuilder eight = new StringBuilder();
        StringBuilder want = new StringBuilder("zyxwvut holds");
        for (char c = 'a'; c < 'i'; c++) {
            eight.append("deed abcdef").append(c).append(';');
            want.append(" abcdef").append(c);
        }
        eight.append("chapter zyxwvut 1;");
        for (char c = 'a'; c < 'i'; c++) {
            eight.append("must zyxwvut abcdef").append(c).append(';');
        }
        RuleByLot y = Checks.with(eight.toString());
        y.fold(0);
        Checks.dueText("the longest", Checks.notice(y), want.toString());
    }

    // "Byte i of the latest NOTICE; NONE: none such"
    private static void byteAt() {
        RuleByLot x = Checks.with("deed a;chapter c 1;must c a;");
        due("byteAt(0) ahead of any", x.byteAt(0), NONE);
        due("byteAt(-1) ahead of any", x.byteAt(-1), NONE);
        x.notice();
        due("byteAt(-1)", x.byteAt(-1), NONE);
        due("byteAt(0)", x.byteAt(0), 'n');
        due("byteAt(11)", x.byteAt(11), 's');
        due("byteAt(12)", x.byteAt(12), NONE);
        x.fold(0);
        due("byteAt(11) of the latest", x.byteAt(11), 's');
        due("notice", x.notice(), 9);
        due("byteAt(8) of the shorter", x.byteAt(8), 'a');
        due("byteAt(9) of the shorter", x.byteAt(9), NONE);
        due("byteAt(min)", x.byteAt(Integer.MIN_VALUE), NONE);
        due("byteAt(max)", x.byteAt(Integer.MAX_VALUE), NONE);
        Checks.house(x, "");
        due("byteAt(0) behind a new HOUSE", x.byteAt(0), 'c');
    }

    private static void dueSaid(RuleByLot x, String text, int... deeds) {
        due("a FAULT in '" + text + "'", Checks.sentence(x, text) < 0, false);
        due("said(NONE) of '" + text + "'", x.said(NONE), deeds.length);
        for (int k = 0; k < deeds.length; k++) {
            due("said(" + k + ") of '" + text + "'", x.said(k), deeds[k]);
        }
        due("said(" + deeds.length + ") of '" + text + "'", x.said(deeds.length), NONE);
    }

    // "DEEDS of which it may be said: how many (k NONE), or the k-th. NONE: there is no SENTENCE, none such"
    private static void said() {
        RuleByLot x = Checks.with(deeds(8));
        for (int k = -2; k < 9; k++) {
            due("said(" + k + ") without a SENTENCE", x.said(k), NONE);
        }
        dueSaid(x, "free", 0, 1, 2, 3, 4, 5, 6, 7);
        due("said(8)", x.said(8), NONE);
        due("said(-2)", x.said(-2), NONE);
        due("said(min)", x.said(Integer.MIN_VALUE), NONE);
        due("said(max)", x.said(Integer.MAX_VALUE), NONE);
        dueSaid(x, "not free");
        dueSaid(x, "number = 7", 7);
        due("a FAULT", Checks.sentence(x, "numbers"), -1);
        due("it stays", x.said(0), 7);
        due("a FAULT of a new HOUSE", Checks.house(x, "deed"), -5);
        due("it stays then", x.said(0), 7);
        Checks.house(x, deeds(8));
        due("a new HOUSE has no SENTENCE", x.said(NONE), NONE);
        RuleByLot none = Checks.with("chapter c 1;");
        dueSaid(none, "not due");
        dueSaid(new RuleByLot(), "number < 9");
    }

    // "'due' (it must be done today) | 'barred' (it may not be done today) | 'free' (no CHAPTER bars it) | 'done' MONK
    // (he did it today) | 'owed' MONK (he has WORK of it left)"
    private static void saidOfToday() {
        RuleByLot x = Checks.with("deed a;deed b;deed d;monk m;monk n;chapter c 1;chapter e 1;must c a;bars c b;"
                + "must e b;work m a 1;work n a 2;");
        dueSaid(x, "due");
        dueSaid(x, "barred");
        dueSaid(x, "free", 0, 2);
        dueSaid(x, "owed m", 0);
        x.fold(0);
        dueSaid(x, "due", 0);
        dueSaid(x, "barred", 1);
        dueSaid(x, "not barred and not due", 2);
        dueSaid(x, "done m");
        x.does(0, 0);
        dueSaid(x, "done m", 0);
        dueSaid(x, "done n");
        dueSaid(x, "due", 0);
        dueSaid(x, "owed m");
        dueSaid(x, "owed n", 0);
        dueSaid(x, "free", 0, 2);
        x.undo();
        due("said of what is undone", x.said(NONE), 2);
        dueSaid(x, "done m");
        x.does(0, 0);
        due("said of what was done", x.said(0), 0);
        x.night();
        due("said the next DAY", x.said(NONE), 0);
        x.fold(1);
        dueSaid(x, "due", 1);
        dueSaid(x, "barred");
    }

    // "( 'left' | 'musts' | 'number' ) SIGN NUMBER (WORK of it that all have left; CHAPTERS by which it must be done;
    // its number)"
    private static void saidOfNumbers() {
        RuleByLot x = Checks.with("deed a;deed b;deed d;monk m;monk n;chapter c 1;chapter e 1;must c a;bars c b;"
                + "must e a;must e d;work m a 20;work n a 20;work m b 1;");
        dueSaid(x, "left = 40", 0);
        dueSaid(x, "left > 39", 0);
        dueSaid(x, "left > 40");
        dueSaid(x, "left < 40", 1, 2);
        dueSaid(x, "left < 41", 0, 1, 2);
        dueSaid(x, "left = 1", 1);
        dueSaid(x, "left < 1", 2);
        dueSaid(x, "left < 0");
        dueSaid(x, "left > 0", 0, 1);
        dueSaid(x, "left = 20");
        dueSaid(x, "musts = 0", 1);
        dueSaid(x, "musts = 1", 2);
        dueSaid(x, "musts > 1", 0);
        dueSaid(x, "musts < 2", 1, 2);
        dueSaid(x, "musts > 2");
        dueSaid(x, "number < 1", 0);
        dueSaid(x, "number > 1", 2);
        dueSaid(x, "number > 2");
        dueSaid(x, "number < 999", 0, 1, 2);
        dueSaid(x, "number > 999");
        x.fold(0);
        x.does(0, 0);
        dueSaid(x, "left = 39", 0);
    }

    // "COND: ALL { 'or' ALL }. ALL: ONE { 'and' ONE }. ONE: 'not' ONE | ( COND )"
    private static void saidInOrder() {
        RuleByLot x = Checks.with(deeds(4));
        dueSaid(x, "number = 0 or number = 1 and number = 2", 0);
        dueSaid(x, "number = 2 and number = 1 or number = 0", 0);
        dueSaid(x, "(number = 0 or number = 1) and number < 1", 0);
        dueSaid(x, "(number = 0 or number = 1) and number = 2");
        dueSaid(x, "number = 0 or (number = 1 or number = 2) and number > 1", 0, 2);
        dueSaid(x, "not number = 0 or number = 0", 0, 1, 2, 3);
        dueSaid(x, "not (number = 0 or number = 1)", 2, 3);
        dueSaid(x, "not number = 0 and number = 0");
        dueSaid(x, "not (number = 0 and number = 1)", 0, 1, 2, 3);
        dueSaid(x, "not not number = 3", 3);
        dueSaid(x, "number < 3 and number > 0 and not number = 1", 2);
        dueSaid(x, "number = 3 or number = 2 or number = 0", 0, 2, 3);
        dueSaid(x, "not not not not not not not number = 3", 0, 1, 2);
        dueSaid(x, "(((((((number = 3)))))))", 3);
    }

    // "20 ONES": the last one counts as the first does.
    private static void saidByTwentyOnes() {
        RuleByLot x = Checks.with(deeds(8));
        StringBuilder ors = new StringBuilder("number=0");
        StringBuilder ands = new StringBuilder("free");
        for (int i = 1; i < 19; i++) {
            ors.append(" or due");
            ands.append(" and free");
        }
        dueSaid(x, ors + " or number=7", 0, 7);
        dueSaid(x, ands + " and number=7", 7);
        dueSaid(x, "free and(free and(free and(free and(free and(free and(number=7 or number=6 and due or number=1))))))", 1, 7);
        dueSaid(x, "due or(due or(due or(due or(due or(due or(number=7 and free or number=6 and due or number=1))))))", 1, 7);
    }
}
