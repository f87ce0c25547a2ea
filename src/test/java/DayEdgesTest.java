import java.math.BigInteger;

/**
 * '2.' and the promises of days, books and acts undone, at each case that the document names and
 * at its neighbour. The sentence that each test rests on stands ahead of it.
 */
public final class DayEdgesTest {
    private static final int NONE = RuleByLot.NONE;

    // Of c one slip, of e two; c: a must be, b is barred; e: b must be, a may be; m has 1 of a left.
    private static final String HOUSE = "deed a;deed b;monk m;monk n;chapter c 1;chapter e 2;"
            + "must c a;bars c b;must e b;work m a 1;work n b 2;atone b;";

    private DayEdgesTest() {
    }

    public static void main(String[] args) {
        boxFreely();
        boxOnce();
        boxOfOneSlip();
        boxByDays();
        holdsTillNight();
        seedsWrap();
        slipsInOrder();
        whyNoDraw();
        whyNoFold();
        foldIsAsIfByLot();
        whyNoDeed();
        deedsDone();
        atoning();
        night();
        penances();
        lastDay();
        daysToTheEnd();
        daysGoOnWithSeed();
        daysWhileOneHolds();
        deedsOfDays();
        daysInRange();
        undoOfEachAct();
        undoOfEight();
        undoOfRefused();
        undoAcrossHouses();
        ago();
        odds();
        oddsToTheEnd();
        bookAnswers();
        bookWhyDraw();
        bookWhyFold();
        bookWhyDeed();
        bookWhyNight();
        bookWhyDays();
        bookLived();
        bookUndone();
        told();
        Checks.finish("DayEdgesTest");
    }

    private static void due(String call, long got, long want) {
        Checks.due(call, got, want);
    }

    private static void due(String call, boolean got, boolean want) {
        Checks.due(call, got, want);
    }

    private static void dueBox(RuleByLot x, int... slips) {
        int all = 0;
        for (int c = 0; c < slips.length; c++) {
            due("slips of CHAPTER " + c, x.chapter(c, 1), slips[c]);
            all += slips[c];
        }
        due("slips in the box", x.now(4), all);
    }

    private static void dueNow(RuleByLot x, int day, int holds) {
        due("the DAY", x.now(0), day);
        due("the one that HOLDS", x.now(1), holds);
    }

    private static RuleByLot onDay(String house, int day) {
        RuleByLot x = Checks.with(house);
        for (int left = day; left > 0; left -= 30) {
            x.days(Math.min(left, 30), left);
        }
        due("the DAY before", x.now(0), day);
        return x;
    }

    // "a slip that was drawn goes back at once"
    private static void boxFreely() {
        RuleByLot x = Checks.with(HOUSE);
        dueBox(x, 1, 2);
        x.fold(0);
        dueBox(x, 1, 2);
        x.night();
        x.draw(1);
        dueBox(x, 1, 2);
        due("fold of the one slip again", x.undo() >= 0 && x.fold(0) == 0, true);
    }

    // "or, with 'once', stays out; when the box is empty then, all come back at once"
    private static void boxOnce() {
        RuleByLot x = Checks.with(HOUSE + "once;");
        x.fold(0);
        dueBox(x, 0, 2);
        due("SLIPS as told stay", x.chapter(0, 0), 1);
        x.night();
        dueBox(x, 0, 2);
        x.fold(1);
        dueBox(x, 0, 1);
        x.night();
        due("draw from one slip", x.draw(123), 1);
        dueBox(x, 1, 2);
        due("it HOLDS, the box being full", x.now(1), 1);
        x.night();
        dueBox(x, 1, 2);
        due("fold of what came back", x.fold(0), 0);
    }

    private static void boxOfOneSlip() {
        RuleByLot x = Checks.with("chapter c 1;once;");
        for (int i = 0; i < 3; i++) {
            due("the one slip by lot", x.draw(i), 0);
            dueBox(x, 1);
            x.night();
            due("the one slip folded", x.fold(0), 0);
            dueBox(x, 1);
            x.night();
        }
        due("drawn or folded", x.chapter(0, 4), 6);
    }

    private static void boxByDays() {
        RuleByLot x = Checks.with("chapter c 2;chapter e 1;once;");
        for (int i = 1; i <= 6; i++) {
            due("a DAY", x.days(1, i), 1);
            due("slips behind " + i, x.now(4), i % 3 == 0 ? 3 : 3 - i % 3);
        }
        due("each as often as it has slips", x.chapter(0, 4) * 10 + x.chapter(1, 4), 42);
    }

    // "till the NIGHT that CHAPTER alone HOLDS"
    private static void holdsTillNight() {
        RuleByLot x = Checks.with(HOUSE);
        dueNow(x, 0, NONE);
        due("none HOLDS: none must be", x.now(2), 0);
        due("none HOLDS: none is barred", x.now(3), 0);
        x.fold(0);
        dueNow(x, 0, 0);
        due("must by it alone", x.now(2), 1);
        due("barred by it alone", x.now(3), 2);
        x.does(0, 0);
        dueNow(x, 0, 0);
        x.night();
        dueNow(x, 1, NONE);
        due("none must be any more", x.now(2), 0);
        due("none is barred any more", x.now(3), 0);
        x.fold(1);
        due("must by the other", x.now(2), 2);
        due("barred by the other", x.now(3), 0);
    }

    private static int slipOf(int seed, int slips) {
        BigInteger x = BigInteger.valueOf(seed).multiply(BigInteger.valueOf(1103515245)).add(BigInteger.valueOf(12345));
        return x.mod(BigInteger.ONE.shiftLeft(32)).shiftRight(8).mod(BigInteger.valueOf(slips)).intValue();
    }

    private static String tenOf(int slips) {
        StringBuilder text = new StringBuilder();
        for (char c = 'a'; c < 'k'; c++) {
            text.append("chapter ").append(c).append(' ').append(slips).append(';');
        }
        return text.toString();
    }

    // "x becomes x * 1103515245 + 12345 (an int, wrapping), (x >>> 8) % n is the number of the slip"
    private static void seedsWrap() {
        int[] seeds = {0, -1, Integer.MAX_VALUE, Integer.MIN_VALUE};
        int[] slips = {48, 37, 59, 26};
        for (int i = 0; i < seeds.length; i++) {
            due("slip by " + seeds[i] + " by hand", slipOf(seeds[i], 90), slips[i]);
            due("draw(" + seeds[i] + ")", Checks.with(tenOf(9)).draw(seeds[i]), slips[i] / 9);
        }
        for (int i = 0; i < 300; i++) {
            int seed = i * 0x01234567 + i;
            RuleByLot x = Checks.with(tenOf(9));
            due("draw(" + seed + ")", x.draw(seed), slipOf(seed, 90) / 9);
        }
    }

    // "n being how many there are in the box, CHAPTER by CHAPTER from 0"
    private static void slipsInOrder() {
        RuleByLot x = Checks.with("chapter a 1;chapter b 3;chapter c 2;once;");
        int[][] boxes = {{1, 3, 2}, {1, 2, 2}, {1, 1, 2}, {1, 0, 2}, {0, 0, 2}};
        int[] folds = {1, 1, 1, 0};
        for (int i = 0; i < boxes.length; i++) {
            dueBox(x, boxes[i]);
            int slips = boxes[i][0] + boxes[i][1] + boxes[i][2];
            for (int seed = 0; seed < 12; seed++) {
                int slip = slipOf(seed, slips);
                int want = slip < boxes[i][0] ? 0 : slip < boxes[i][0] + boxes[i][1] ? 1 : 2;
                due("draw(" + seed + ") of " + slips, x.draw(seed), want);
                due("undo", x.undo() >= 0, true);
            }
            if (i < folds.length) {
                x.fold(folds[i]);
                x.night();
            }
        }
    }

    // "To DRAW with a seed x: why not: 1 one HOLDS already; 2 there are no CHAPTERS"; "why not 3"
    private static void whyNoDraw() {
        RuleByLot x = Checks.with(HOUSE);
        due("draw", x.draw(7) >= 0, true);
        due("draw as one HOLDS", x.draw(7), -2);
        due("it was drawn once", x.chapter(0, 4) + x.chapter(1, 4), 1);
        x.night();
        due("draw the next DAY", x.draw(7) >= 0, true);
        due("draw in a new object", new RuleByLot().draw(7), -3);
        due("draw without CHAPTERS", Checks.with("deed a;monk m;once;").draw(7), -3);
        due("draw with one", Checks.with("chapter c 1;").draw(7), 0);
        RuleByLot y = onDay(HOUSE, 399);
        due("draw on DAY 399", y.draw(7) >= 0, true);
        due("draw as one HOLDS on DAY 399", y.draw(7), -2);
        y.night();
        due("draw on DAY 400", y.draw(7), -4);
        dueNow(y, 400, NONE);
    }

    // "To FOLD a CHAPTER: 1 one HOLDS already; 2 no slip of it is in the box"; "NONE: no such one"
    private static void whyNoFold() {
        RuleByLot x = Checks.with(HOUSE + "once;");
        due("fold(-1)", x.fold(-1), NONE);
        due("fold(2)", x.fold(2), NONE);
        due("fold(max)", x.fold(Integer.MAX_VALUE), NONE);
        due("fold(1), the last", x.fold(1), 0);
        due("fold as one HOLDS", x.fold(1), 1);
        due("fold(-1) as one HOLDS", x.fold(-1), NONE);
        due("fold(2) as one HOLDS", x.fold(2), NONE);
        x.night();
        due("fold(0), the first", x.fold(0), 0);
        due("fold of what is out as one HOLDS", x.fold(0), 1);
        x.night();
        due("fold of what is out", x.fold(0), 2);
        dueNow(x, 2, NONE);
        due("fold of what is in", x.fold(1), 0);
        due("fold in a new object", new RuleByLot().fold(0), NONE);
        RuleByLot y = onDay(HOUSE, 399);
        due("fold on DAY 399", y.fold(0), 0);
        y.night();
        due("fold on DAY 400", y.fold(0), 3);
        due("fold(2) on DAY 400", y.fold(2), NONE);
        // 399 draws are 133 boxes of three, so one slip is out on DAY 400.
        RuleByLot z = onDay(HOUSE + "once;", 399);
        dueBox(z, 1, 2);
        z.fold(0);
        z.night();
        due("fold of what is out on DAY 400", z.fold(0), 2);
        due("fold of what is in on DAY 400", z.fold(1), 3);
    }

    // "it is drawn as if by lot"
    private static void foldIsAsIfByLot() {
        RuleByLot x = Checks.with(HOUSE + "once;");
        RuleByLot y = Checks.with(HOUSE + "once;");
        x.fold(y.draw(4));
        Checks.dueText("folded", Checks.seen(x), Checks.seen(y));
    }

    // "To DO a DEED: why not, the least: 1 none HOLDS; 2 it is barred; 3 the MONK did it today"
    private static void whyNoDeed() {
        RuleByLot x = Checks.with(HOUSE);
        due("does as none HOLDS", x.does(0, 0), 1);
        for (int bad : new int[] {-1, 2, Integer.MIN_VALUE, Integer.MAX_VALUE}) {
            due("does(" + bad + ", 0) as none HOLDS", x.does(bad, 0), NONE);
            due("does(0, " + bad + ") as none HOLDS", x.does(0, bad), NONE);
        }
        x.fold(0);
        due("does what is barred", x.does(0, 1), 2);
        due("does what must be", x.does(0, 0), 0);
        due("does it again", x.does(0, 0), 3);
        due("the last MONK does it", x.does(1, 0), 0);
        due("the last MONK does it again", x.does(1, 0), 3);
        due("does(2, 0)", x.does(2, 0), NONE);
        due("does(0, 2)", x.does(0, 2), NONE);
        due("does(-1, 0)", x.does(-1, 0), NONE);
        due("does(0, -1)", x.does(0, -1), NONE);
        x.night();
        due("does it behind the NIGHT", x.does(0, 0), 1);
        x.fold(1);
        due("does it the next DAY", x.does(0, 0), 0);
        due("does what is no more barred", x.does(0, 1), 0);
        due("does it twice the next DAY", x.does(0, 1), 3);
    }

    // "he did it; if he has WORK of it left, that is 1 less"
    private static void deedsDone() {
        RuleByLot x = Checks.with(HOUSE);
        x.fold(1);
        x.does(1, 1);
        due("2 less 1", x.left(1, 1), 1);
        due("of which he has left", x.monk(1, 2), 2);
        x.night();
        x.fold(1);
        x.does(1, 1);
        due("1 less 1", x.left(1, 1), 0);
        due("of which he has none left", x.monk(1, 2), 0);
        x.night();
        x.fold(1);
        due("does it without WORK", x.does(1, 1), 0);
        due("0 stays", x.left(1, 1), 0);
        due("he did it today", x.monk(1, 1), 2);
        due("he did so many", x.monk(1, 4), 3);
        due("the other MONK's WORK stays", x.left(0, 0), 1);
        due("the other MONK did none", x.monk(0, 1) + x.monk(0, 4), 0);
        due("a refused one does not count", x.does(1, 1) == 3 && x.monk(1, 4) == 3, true);
    }

    // "if it is the one to 'atone' and he owes PENANCES, these are 1 less"
    private static void atoning() {
        RuleByLot x = Checks.with(HOUSE);
        x.fold(1);
        x.does(1, 1);
        due("does it owing none", x.monk(1, 0), 0);
        due("one owes", x.night(), 1);
        x.fold(1);
        x.does(0, 0);
        due("another DEED does not atone", x.monk(0, 0), 1);
        x.does(0, 1);
        due("1 less 1", x.monk(0, 0), 0);
        x.night();
        due("who did it owes none", x.monk(0, 0), 0);
        due("who did not owes", x.monk(1, 0), 1);
        x.fold(0);
        x.night();
        due("owes 2", x.monk(1, 0), 2);
        x.fold(1);
        x.does(1, 1);
        due("2 less 1", x.monk(1, 0), 1);
        due("not for the other", x.monk(0, 0), 1);
        RuleByLot y = Checks.with("deed a;monk m;chapter c 1;must c a;");
        y.fold(0);
        y.night();
        y.fold(0);
        y.does(0, 0);
        due("nothing atones", y.monk(0, 0), 1);
    }

    // "The NIGHT: 1 none HOLDS: each MONK owes a PENANCE more for each DEED that must be done and that he did not"
    private static void night() {
        RuleByLot x = Checks.with(HOUSE);
        due("night as none HOLDS", x.night(), NONE);
        dueNow(x, 0, NONE);
        x.fold(0);
        due("night: neither did it", x.night(), 2);
        due("night twice", x.night(), NONE);
        dueNow(x, 1, NONE);
        x.fold(0);
        x.does(1, 0);
        due("night: one did it", x.night(), 1);
        due("PENANCES of the one", x.monk(0, 0), 2);
        due("PENANCES of the other", x.monk(1, 0), 1);
        x.fold(0);
        x.does(0, 0);
        x.does(1, 0);
        due("night: both did it", x.night(), 0);
        due("he did none today", x.monk(0, 1) + x.monk(1, 1), 0);
        due("night in a new object", new RuleByLot().night(), NONE);
        RuleByLot y = Checks.with("deed a;chapter c 1;must c a;");
        y.fold(0);
        due("night without MONKS", y.night(), 0);
        RuleByLot z = Checks.with("deed a;monk m;chapter c 1;bars c a;");
        z.fold(0);
        due("night without what must be", z.night(), 0);
    }

    private static RuleByLot owing(int penances) {
        RuleByLot x = Checks.with("deed a;deed b;deed d;deed e;monk m;chapter c 1;chapter f 1;chapter g 1;"
                + "must c a;must f a;must f b;must g a;must g b;must g d;must g e;");
        int owed = 0;
        while (owed + 4 <= penances) {
            x.fold(2);
            owed += x.night();
        }
        while (owed < penances) {
            x.fold(0);
            owed += x.night();
        }
        due("owing " + penances, x.monk(0, 0), penances);
        return x;
    }

    // "(99 at most)"; "how many PENANCES more are owed"
    private static void penances() {
        int[] before = {94, 95, 96, 97, 97, 97, 98, 98, 98, 99, 99};
        int[] chapter = {2, 2, 2, 0, 1, 2, 0, 1, 2, 0, 2};
        int[] more = {4, 4, 3, 1, 2, 2, 1, 1, 1, 0, 0};
        for (int i = 0; i < before.length; i++) {
            RuleByLot x = owing(before[i]);
            x.fold(chapter[i]);
            String what = before[i] + " and CHAPTER " + chapter[i];
            due("night by " + what, x.night(), more[i]);
            due("PENANCES by " + what, x.monk(0, 0), before[i] + more[i]);
            due("all PENANCES by " + what, x.now(5), before[i] + more[i]);
        }
        RuleByLot two = Checks.with("deed a;monk m;monk n;chapter c 1;must c a;");
        for (int i = 0; i < 99; i++) {
            two.fold(0);
            if (i == 50) {
                two.does(1, 0);
            }
            due("night " + i + " of two", two.night(), i == 50 ? 1 : 2);
        }
        two.fold(0);
        due("night of two, one having 99", two.night(), 1);
        due("all PENANCES of two", two.now(5), 198);
    }

    // "it is the next DAY (0 to 399; 400: all are over: no CHAPTER is drawn or folded any more: why not 3)"
    private static void lastDay() {
        RuleByLot x = onDay(HOUSE, 398);
        x.fold(0);
        x.night();
        dueNow(x, 399, NONE);
        x.fold(0);
        dueNow(x, 399, 0);
        due("a DEED on the last DAY", x.does(0, 0), 0);
        due("the last NIGHT", x.night() >= 0, true);
        dueNow(x, 400, NONE);
        due("draw", x.draw(1), -4);
        due("fold", x.fold(0), 3);
        due("does", x.does(0, 0), 1);
        due("night", x.night(), NONE);
        due("days", x.days(1, 1), 0);
        dueNow(x, 400, NONE);
        due("undo of the last NIGHT", x.undo() >= 0, true);
        dueNow(x, 399, 0);
    }

    // "n (1 to 30) DAYS go by with a seed: how many did"
    private static void daysToTheEnd() {
        RuleByLot x = onDay(HOUSE, 370);
        due("30 of 30", x.days(30, 1), 30);
        dueNow(x, 400, NONE);
        due("0 of 30", x.days(30, 1), 0);
        due("0 of 1", x.days(1, 1), 0);
        due("0 of 31", x.days(31, 1), NONE);
        due("0 of 0", x.days(0, 1), NONE);
        RuleByLot y = onDay(HOUSE, 371);
        due("29 of 30", y.days(30, 1), 29);
        dueNow(y, 400, NONE);
        RuleByLot z = onDay(HOUSE, 399);
        due("1 of 2", z.days(2, 1), 1);
        RuleByLot w = onDay(HOUSE, 399);
        w.fold(0);
        due("1 of 2 as one HOLDS", w.days(2, 1), 1);
        dueNow(w, 400, NONE);
    }

    // "if none HOLDS, a slip is DRAWN by it (DAYS one behind the other go on with x)"
    private static void daysGoOnWithSeed() {
        RuleByLot x = Checks.with(tenOf(9));
        int seed = -77;
        x.days(16, seed);
        for (int k = 15; k >= 0; k--) {
            due("drawn " + k + " ago", x.ago(k), slipOf(seed, 90) / 9);
            seed = seed * 1103515245 + 12345;
        }
        RuleByLot y = Checks.with(tenOf(9));
        y.days(1, 5);
        y.days(1, 5);
        due("another call begins with its own seed", y.ago(0), y.ago(1));
    }

    private static void daysWhileOneHolds() {
        RuleByLot x = Checks.with(tenOf(9));
        x.fold(7);
        due("days(1, 0)", x.days(1, 0), 1);
        due("none was drawn", x.ago(0) * 10 + x.ago(1), 70 + NONE);
        x.fold(7);
        x.days(2, 0);
        // By hand the slip is 48 of ten times nine.
        due("the seed as it was is for the next DAY", x.ago(0), 5);
        dueNow(x, 3, NONE);
    }

    // "MONK by MONK: he does each DEED (by number) that he can and that must be done, or of which he has
    // WORK left, or by which he atones, if he owes a PENANCE; then the NIGHT"
    private static void deedsOfDays() {
        RuleByLot x = Checks.with("deed a;deed b;deed d;deed e;monk m;monk n;chapter c 1;must c a;bars c b;"
                + "work m b 2;work m d 1;work n a 2;atone e;");
        x.days(1, 1);
        due("m did a, d", x.monk(0, 4), 2);
        due("m has b left", x.left(0, 1) * 10 + x.left(0, 2), 20);
        due("n did a", x.monk(1, 4) * 10 + x.left(1, 0), 11);
        due("none owes", x.now(5), 0);
        x.fold(0);
        x.night();
        due("both owe", x.now(5), 2);
        x.fold(0);
        x.does(0, 0);
        x.does(1, 3);
        due("n atoned by hand", x.now(5), 1);
        x.days(1, 1);
        due("m did a by hand, e for PENANCE", x.monk(0, 4), 4);
        due("n did e by hand, a", x.monk(1, 4), 3);
        due("none owes any more", x.now(5), 0);
        x.days(1, 1);
        due("m need not atone", x.monk(0, 4), 5);
        due("n need not atone", x.monk(1, 4), 4);
        RuleByLot y = Checks.with("deed a;deed e;monk m;chapter c 1;chapter f 1;must c a;bars f e;atone e;");
        y.fold(0);
        y.night();
        y.fold(1);
        y.days(1, 1);
        due("to atone is barred", y.monk(0, 0) * 10 + y.monk(0, 4), 10);
        y.fold(0);
        y.days(1, 1);
        due("he atones by one DEED a DAY", y.monk(0, 0) * 10 + y.monk(0, 4), 2);
        RuleByLot z = Checks.with("deed a;monk m;chapter c 1;must c a;atone a;work m a 1;");
        z.fold(0);
        z.night();
        z.days(1, 1);
        RuleByLot first = Checks.with("deed e;deed a;monk m;chapter c 1;must c a;atone e;");
        first.fold(0);
        first.night();
        first.days(1, 1);
        due("the first DEED atones, too", first.monk(0, 0) * 10 + first.monk(0, 4), 2);
        due("one DEED for all three", z.monk(0, 4) * 100 + z.monk(0, 0) * 10 + z.left(0, 0), 100);
    }

    // "n (1 to 30)"; "NONE: not as told, no CHAPTERS"
    private static void daysInRange() {
        for (int n : new int[] {Integer.MIN_VALUE, -1, 0, 1, 2, 29, 30, 31, Integer.MAX_VALUE}) {
            RuleByLot x = Checks.with(HOUSE);
            boolean told = n >= 1 && n <= 30;
            due("days(" + n + ")", x.days(n, 1), told ? n : NONE);
            dueNow(x, told ? n : 0, NONE);
            due("to undo", x.undo(), told ? 0 : NONE);
            due("days(" + n + ") without CHAPTERS", Checks.with("deed a;monk m;").days(n, 1), NONE);
        }
    }

    // "The latest of draw(), fold(), does() that was done, night(), days() above 0, a BOOK that was lived is undone"
    private static void undoOfEachAct() {
        String house = HOUSE + "once;";
        for (int act = 0; act < 6; act++) {
            RuleByLot x = Checks.with(house);
            Checks.sentence(x, "left > 0");
            x.fold(1);
            x.does(1, 1);
            if (act != 2 && act != 3) {
                x.night();
            }
            String before = Checks.seen(x);
            switch (act) {
                case 0 -> x.draw(3);
                case 1 -> x.fold(0);
                case 2 -> x.does(0, 1);
                case 3 -> x.night();
                case 4 -> x.days(5, 3);
                default -> Checks.book(x, "draw 3;m does a;night;day 4;fold c;", 1);
            }
            due("act " + act + " was done", x.now(0) * 1000 + x.now(1) * 100 + x.monk(0, 1) != 0, true);
            String latest = Checks.seenOfLatest(x);
            due("undo of act " + act, x.undo(), act == 2 || act == 3 ? 2 : 3);
            Checks.dueText("all behind act " + act, Checks.seen(x), before);
            Checks.dueText("what was told last behind act " + act, Checks.seenOfLatest(x), latest);
        }
    }

    // "how many more can be (8 at most are kept); NONE: none is"
    private static void undoOfEight() {
        for (int acts = 0; acts <= 20; acts++) {
            RuleByLot x = Checks.with(HOUSE);
            for (int i = 0; i < acts; i++) {
                x.days(1, i);
            }
            int kept = Math.min(acts, 8);
            for (int more = kept - 1; more >= 0; more--) {
                due("undo of " + acts, x.undo(), more);
                due("the DAY then", x.now(0), acts - kept + more);
            }
            due("undo of none of " + acts, x.undo(), NONE);
            due("the DAY stays", x.now(0), acts - kept);
            x.days(2, 1);
            due("undo of a new one", x.undo(), 0);
            due("the DAY of a new one", x.now(0), acts - kept);
        }
        RuleByLot x = Checks.with(HOUSE);
        x.days(1, 1);
        x.days(2, 1);
        due("undo", x.undo(), 1);
        x.days(3, 1);
        due("undo of the one behind it", x.undo(), 1);
        due("the DAY", x.now(0), 1);
        due("undo of the first", x.undo(), 0);
        due("undo of none", x.undo(), NONE);
    }

    private static void undoOfRefused() {
        RuleByLot x = Checks.with(HOUSE + "once;");
        x.night();
        x.does(0, 0);
        x.fold(2);
        x.days(0, 1);
        x.days(31, 1);
        Checks.book(x, "day 31;", 1);
        Checks.book(x, "fold c;", 0);
        x.book(2);
        due("undo of none that was done", x.undo(), NONE);
        x.fold(0);
        x.draw(1);
        x.fold(0);
        x.does(0, 1);
        x.does(0, 0);
        x.does(0, 0);
        due("undo of the DEED", x.undo(), 1);
        due("undo of the fold", x.undo(), 0);
        due("undo of none", x.undo(), NONE);
        RuleByLot y = onDay(HOUSE, 399);
        y.fold(0);
        y.night();
        due("days above none", y.days(3, 1), 0);
        due("draw", y.draw(3), -4);
        due("undo of the NIGHT, not of 0 days", y.undo() >= 0 && y.now(0) == 399, true);
    }

    private static void undoAcrossHouses() {
        RuleByLot x = Checks.with(HOUSE);
        x.fold(0);
        Checks.house(x, "deed");
        due("undo behind a HOUSE with a FAULT", x.undo(), 0);
        x.fold(0);
        Checks.house(x, HOUSE);
        due("undo behind a new HOUSE", x.undo(), NONE);
        x.fold(0);
        x.image(0);
        x.night();
        due("image leaves what can be undone", x.undo(), 1);
        x.restore(1);
        due("restore of nothing leaves it", x.undo(), 0);
        x.fold(0);
        x.restore(0);
        due("undo behind restore", x.undo(), NONE);
    }

    // "The CHAPTER drawn or folded k (0 to 15) draws ago (0 the latest); NONE: fewer were"
    private static void ago() {
        for (int draws : new int[] {0, 1, 2, 14, 15, 16, 17, 18, 31, 32, 33, 50}) {
            RuleByLot x = Checks.with(tenOf(1));
            for (int i = 0; i < draws; i++) {
                x.fold(i * 7 % 10);
                x.night();
            }
            for (int k : new int[] {0, 1, 2, 13, 14, 15}) {
                due("ago(" + k + ") of " + draws, x.ago(k), k < draws ? (draws - 1 - k) * 7 % 10 : NONE);
            }
            due("ago(16) of " + draws, x.ago(16), NONE);
            due("ago(17) of " + draws, x.ago(17), NONE);
            due("ago(-1) of " + draws, x.ago(-1), NONE);
            due("ago(min) of " + draws, x.ago(Integer.MIN_VALUE), NONE);
            due("ago(max) of " + draws, x.ago(Integer.MAX_VALUE), NONE);
        }
        RuleByLot y = Checks.with(tenOf(1));
        y.fold(3);
        y.fold(4);
        due("ago of a refused fold", y.ago(0) * 10 + y.ago(1), 30 + NONE);
    }

    // "Of n (1 to 30) seeds x, x and 1, .. by how many a MONK has no WORK left behind m (1 to 30) DAYS from now on"
    private static void odds() {
        RuleByLot x = Checks.with(HOUSE);
        int[] bad = {Integer.MIN_VALUE, -1, 0, 31, Integer.MAX_VALUE};
        for (int n : bad) {
            due("odds in " + n + " DAYS", x.odds(0, n, 1, 1), NONE);
            due("odds of " + n + " seeds", x.odds(0, 1, n, 1), NONE);
        }
        due("odds of MONK -1", x.odds(-1, 1, 1, 1), NONE);
        due("odds of MONK 2", x.odds(2, 1, 1, 1), NONE);
        due("odds of MONK 1, 1 DAY, 1 seed", x.odds(1, 1, 1, 1), 0);
        due("odds of MONK 0, 1 DAY, 1 seed", x.odds(0, 1, 1, 1), 1);
        due("odds of 30 seeds", x.odds(0, 1, 30, 1), 30);
        due("odds in 30 DAYS", x.odds(0, 30, 30, 1), 30);
        due("odds without CHAPTERS", Checks.with("deed a;monk m;").odds(0, 1, 1, 1), NONE);
        due("odds in a new object", new RuleByLot().odds(0, 1, 1, 1), NONE);
        // n needs two DAYS on which e is drawn; seeds one behind the other, and beyond the last int.
        for (int first : new int[] {0, -3, Integer.MAX_VALUE - 2, Integer.MIN_VALUE}) {
            for (int m = 1; m <= 4; m++) {
                int want = 0;
                for (int i = 0; i < 6; i++) {
                    int seed = first + i;
                    int good = 0;
                    for (int day = 0; day < m; day++) {
                        good += slipOf(seed, 3) > 0 ? 1 : 0;
                        seed = seed * 1103515245 + 12345;
                    }
                    want += good >= 2 ? 1 : 0;
                }
                due("odds(1, " + m + ", 6, " + first + ")", x.odds(1, m, 6, first), want);
            }
        }
        String before = Checks.seen(x);
        x.odds(1, 30, 30, 5);
        Checks.dueText("all behind odds", Checks.seen(x), before);
        due("nothing to undo behind odds", x.undo(), NONE);
    }

    private static void oddsToTheEnd() {
        RuleByLot x = onDay("deed z;monk m;chapter c 1;bars c z;work m z 1;", 399);
        due("odds of what is barred ever", x.odds(0, 30, 30, 1), 0);
        // c alone allows it, and till the last DAYS e is folded.
        RuleByLot y = Checks.with("deed a;monk m;chapter c 1;chapter e 1;bars e a;work m a 2;");
        for (int i = 0; i < 19; i++) {
            due("20 DAYS without WORK done", Checks.book(y, "fold e;night;".repeat(20), 1), NONE);
        }
        due("18 more", Checks.book(y, "fold e;night;".repeat(18), 1), NONE);
        dueNow(y, 398, NONE);
        y.fold(0);
        due("odds in 1, one of two left behind it", y.odds(0, 1, 10, 0), 0);
        int both = 0;
        for (int seed = 0; seed < 10; seed++) {
            both += slipOf(seed, 2) == 0 ? 1 : 0;
        }
        due("odds in 2", y.odds(0, 2, 10, 0), both);
        due("odds in 30, there being 2 DAYS", y.odds(0, 30, 10, 0), both);
        y.days(2, 0);
        int left = y.monk(0, 3);
        due("odds when all are over", y.odds(0, 30, 30, 0), left == 0 ? 30 : 0);
    }

    // "the LINE that is WRONG; NONE: none; -2 less the place of a FAULT; -1000: another lives (the tape stays)"
    private static void bookAnswers() {
        RuleByLot x = Checks.with(HOUSE);
        due("LINE 0 is WRONG", Checks.book(x, "night;", 0), 0);
        due("LINE 1 is WRONG", Checks.book(x, "fold c;fold c;", 0), 1);
        due("LINE 39 is WRONG", Checks.book(x, "fold c;night;".repeat(19) + "fold c;fold c;", 0), 39);
        due("none is WRONG", Checks.book(x, "fold c;night;", 0), NONE);
        due("a FAULT at 0", Checks.book(x, "?", 0), -2);
        due("a FAULT at 1", Checks.book(x, " ?", 0), -3);
        due("a FAULT at 400", Checks.book(x, " ".repeat(401), 0), -402);
        due("the tape is empty", x.count(5), 0);
        Checks.put(x, "fold c;");
        for (int lives : new int[] {-1, 2, -1000, Integer.MIN_VALUE, Integer.MAX_VALUE}) {
            due("book(" + lives + ")", x.book(lives), -1000);
            due("the tape stays", x.count(5), 7);
            due("fault() stays", x.fault(), 1);
        }
        due("book(1) of it", x.book(1), NONE);
        due("fault() of it", x.fault(), 0);
        due("the tape is empty then", x.count(5), 0);
        dueNow(x, 0, 0);
    }

    private static void dueBook(RuleByLot x, String text, int wrong, int why) {
        String before = Checks.seen(x);
        due("book of '" + text + "'", Checks.book(x, text, 0), wrong);
        due("why of '" + text + "'", x.told(0), why);
        due("LINES that are not WRONG of '" + text + "'", x.told(1), wrong == NONE ? text.split(";").length : wrong);
        // "it is judged, all staying as it is (lives 0)"
        Checks.dueText("all behind '" + text + "'", Checks.seen(x), before);
    }

    // "0 why it was WRONG (0: it was not; 1 to 3 as for drawing, .."
    private static void bookWhyDraw() {
        dueBook(Checks.with(HOUSE), "draw 1;", NONE, 0);
        dueBook(Checks.with(HOUSE), "draw 1;night;draw 1;", NONE, 0);
        dueBook(Checks.with(HOUSE), "draw 1;draw 1;", 1, 1);
        dueBook(Checks.with(HOUSE), "fold c;draw 1;", 1, 1);
        dueBook(Checks.with("deed a;monk m;"), "draw 1;", 0, 2);
        dueBook(new RuleByLot(), "draw 1;", 0, 2);
        dueBook(onDay(HOUSE, 399), "draw 1;night;", NONE, 0);
        dueBook(onDay(HOUSE, 399), "draw 1;night;draw 1;", 2, 3);
        dueBook(onDay(HOUSE, 399), "draw 1;draw 1;", 1, 1);
    }

    // ".. 11 to 13 folding, .."
    private static void bookWhyFold() {
        dueBook(Checks.with(HOUSE), "fold c;night;fold c;", NONE, 0);
        dueBook(Checks.with(HOUSE), "fold c;fold c;", 1, 11);
        dueBook(Checks.with(HOUSE + "once;"), "fold c;fold c;", 1, 11);
        dueBook(Checks.with(HOUSE + "once;"), "fold c;night;fold c;", 2, 12);
        dueBook(Checks.with(HOUSE + "once;"), "fold c;night;fold e;night;fold e;night;fold c;", NONE, 0);
        dueBook(onDay(HOUSE, 399), "fold c;night;fold c;", 2, 13);
        dueBook(onDay(HOUSE + "once;", 399), "fold c;night;fold c;", 2, 12);
        dueBook(onDay(HOUSE + "once;", 399), "fold c;night;fold e;", 2, 13);
    }

    // ".. 21 to 23 doing, .."
    private static void bookWhyDeed() {
        dueBook(Checks.with(HOUSE), "m does a;", 0, 21);
        dueBook(Checks.with(HOUSE), "fold c;m does b;", 1, 22);
        dueBook(Checks.with(HOUSE), "fold c;m does a;m does a;", 2, 23);
        dueBook(Checks.with(HOUSE), "fold c;m does a;n does a;", NONE, 0);
        dueBook(Checks.with(HOUSE), "fold c;m does a;night;m does a;", 3, 21);
        dueBook(Checks.with(HOUSE), "fold c;m does a;night;fold c;m does a;", NONE, 0);
    }

    // ".. 31 the NIGHT; .."
    private static void bookWhyNight() {
        dueBook(Checks.with(HOUSE), "night;", 0, 31);
        dueBook(Checks.with(HOUSE), "fold c;night;", NONE, 0);
        dueBook(Checks.with(HOUSE), "fold c;night;night;", 2, 31);
        dueBook(onDay(HOUSE, 400), "night;", 0, 31);
    }

    // ".. 41: fewer DAYS are left, 42: there are no CHAPTERS)"
    private static void bookWhyDays() {
        dueBook(Checks.with(HOUSE), "day 30;".repeat(13) + "day 10;", NONE, 0);
        dueBook(Checks.with(HOUSE), "day 30;".repeat(13) + "day 11;", 13, 41);
        dueBook(onDay(HOUSE, 370), "day 30;", NONE, 0);
        dueBook(onDay(HOUSE, 371), "day 30;", 0, 41);
        dueBook(onDay(HOUSE, 371), "day 29;", NONE, 0);
        dueBook(onDay(HOUSE, 371), "fold c;day 29;", NONE, 0);
        dueBook(onDay(HOUSE, 371), "fold c;day 30;", 1, 41);
        dueBook(onDay(HOUSE, 399), "day 1;", NONE, 0);
        dueBook(onDay(HOUSE, 399), "day 2;", 0, 41);
        dueBook(onDay(HOUSE, 399), "day 1;day 1;", 1, 41);
        dueBook(onDay(HOUSE, 400), "day 1;", 0, 41);
        dueBook(Checks.with("deed a;monk m;"), "day 1;", 0, 42);
        dueBook(new RuleByLot(), "day 30;", 0, 42);
        RuleByLot x = onDay(HOUSE, 371);
        Checks.book(x, "day 30;", 1);
        dueNow(x, 371, NONE);
    }

    // "or lived as far as it is not WRONG (1)"
    private static void bookLived() {
        RuleByLot x = Checks.with(HOUSE);
        RuleByLot y = Checks.with(HOUSE);
        due("lived to LINE 3", Checks.book(x, "fold c;m does a;night;m does a;draw 1;", 1), 3);
        y.fold(0);
        y.does(0, 0);
        y.night();
        Checks.book(y, "m does a;", 0);
        due("the DAY", x.now(0), y.now(0));
        for (int what = 0; what < 5; what++) {
            due("MONK 0, " + what, x.monk(0, what), y.monk(0, what));
            due("MONK 1, " + what, x.monk(1, what), y.monk(1, what));
            due("CHAPTER 0, " + what, x.chapter(0, what), y.chapter(0, what));
        }
        due("lived whole", Checks.book(x, "day 7;", 1), NONE);
        y.days(7, 7);
        for (int k = 0; k < 8; k++) {
            due("its seed, too: " + k, x.ago(k), y.ago(k));
        }
        due("lived whole by seed", Checks.book(x, "draw 999;", 1), NONE);
        y.draw(999);
        due("SEED of 'draw'", x.now(1), y.now(1));
    }

    private static void bookUndone() {
        RuleByLot x = Checks.with(HOUSE);
        x.days(1, 1);
        Checks.book(x, "day 1;".repeat(40), 1);
        due("40 LINES are one act", x.undo(), 1);
        dueNow(x, 1, NONE);
        Checks.book(x, "day 2;night;day 3;", 1);
        dueNow(x, 3, NONE);
        due("one lived in part is one act", x.undo(), 1);
        dueNow(x, 1, NONE);
        Checks.book(x, "day 2;", 0);
        due("one judged alone is none", x.undo(), 0);
        dueNow(x, 0, NONE);
    }

    // "Of the latest book() that had no FAULT (and was not -1000): .. NONE: another what, or ahead of any"
    private static void told() {
        RuleByLot x = Checks.with(HOUSE);
        for (int what = -2; what < 6; what++) {
            due("told(" + what + ") ahead of any", x.told(what), NONE);
        }
        Checks.book(x, "?", 0);
        x.book(3);
        x.end(0);
        due("told behind FAULTS alone", x.told(0), NONE);
        Checks.book(x, "fold c;night;m does a;", 0);
        int[] want = {NONE, 21, 2, 1, 2, NONE};
        for (int what = -1; what < 5; what++) {
            due("told(" + what + ")", x.told(what), want[what + 1]);
        }
        due("told(max)", x.told(Integer.MAX_VALUE), NONE);
        due("told(min)", x.told(Integer.MIN_VALUE), NONE);
        Checks.book(x, "?", 1);
        due("told behind a FAULT", x.told(0) * 10 + x.told(1), 212);
        x.book(2);
        due("told behind -1000", x.told(0) * 10 + x.told(1), 212);
        Checks.book(x, "fold e;", 1);
        due("told of the latest", x.told(0) * 1000 + x.told(1) * 100 + x.told(2) * 10 + x.told(3), 100);
        x.night();
        due("the DAY then, not now", x.told(2), 0);
        due("PENANCES then, not now", x.told(3), 0);
        Checks.book(x, "", 0);
        due("told of an empty BOOK", x.told(0) * 1000 + x.told(1) * 100 + x.told(2) * 10 + x.told(3), 12);
        Checks.house(x, HOUSE);
        due("told behind a new HOUSE", x.told(3), 2);
    }
}
