/** The promises one by one: ordinary inputs, the edges that the document names, wrong inputs. */
public final class PromisesTest {
    private static final int NONE = RuleByLot.NONE;

    private static final String PEOPLE = "deed sleep;deed wash;deed sing;monk otto;monk hugo;";
    private static final String CHAPTERS = "chapter pots 2;chapter rest 1;chapter songs 3;";
    private static final String RULES = "must pots wash;bars pots sleep;must rest sleep;bars rest wash;bars rest sing;must songs sing;";
    private static final String WORK = "work otto wash 2;work hugo sleep 1;work hugo sing 3;";
    private static final String FREELY = PEOPLE + CHAPTERS + RULES + WORK + "atone sing;";
    private static final String ONCE = FREELY + "once;";

    private PromisesTest() {
    }

    public static void main(String[] args) {
        newObject();
        feed();
        end();
        house();
        houseFaults();
        longHouses();
        fault();
        chapter();
        monk();
        left();
        now();
        draw();
        fold();
        does();
        night();
        days();
        daysGoOn();
        undo();
        free();
        quarrels();
        cover();
        allowed();
        finish();
        most();
        fair();
        fits();
        watch();
        waits();
        ago();
        notice();
        odds();
        book();
        bookFaults();
        told();
        sentence();
        sentenceFaults();
        said();
        image();
        count();
        Checks.finish("PromisesTest");
    }

    private static void due(String call, long got, long want) {
        Checks.due(call, got, want);
    }

    private static void due(String call, boolean got, boolean want) {
        Checks.due(call, got, want);
    }

    private static String blanks(int n) {
        return " ".repeat(n);
    }

    // Promise 1
    private static void newObject() {
        RuleByLot x = new RuleByLot();
        due("NONE", RuleByLot.NONE, -1);
        for (int what = 0; what < 6; what++) {
            due("count(" + what + ") anew", x.count(what), what == 3 ? NONE : 0);
        }
        for (int what = 0; what < 7; what++) {
            due("now(" + what + ") anew", x.now(what), what == 1 ? NONE : 0);
        }
        due("fault() anew", x.fault(), 0);
        due("covering() anew", x.covering(), NONE);
        due("mostAt(0) anew", x.mostAt(0), NONE);
        due("watch() anew", x.watch(), NONE);
        due("byteAt(0) anew", x.byteAt(0), NONE);
        due("told(0) anew", x.told(0), NONE);
        due("said(NONE) anew", x.said(NONE), NONE);
        due("undo() anew", x.undo(), NONE);
        due("draw(0) anew", x.draw(0), -3);
        due("days(1, 0) anew", x.days(1, 0), NONE);
        due("free() anew", x.free(), 0);
        Checks.dueNoSuch("chance(0) anew", () -> x.chance(0));
    }

    // Promise 2
    private static void feed() {
        RuleByLot x = new RuleByLot();
        due("feed", x.feed(0x64656564, 0x20613b64, 0x65656420, 0x623b2020, 0x20202020), 20);
        due("house() of fed bytes", x.house(), 2);
        for (int i = 1; i <= 47; i++) {
            due("feed " + i, x.feed(i, -1, 0, 0, 0), 20 * i);
        }
        due("feed beyond 940", x.feed(0, 0, 0, 0, 0), NONE);
        due("count(5) of a full tape", x.count(5), 940);
        x.end(921);
        due("feed beyond 940 from 921", x.feed(0, 0, 0, 0, 0), NONE);
        due("count(5) from 921", x.count(5), 921);
        x.end(920);
        due("feed up to 940", x.feed(0, 0, 0, 0, 0), 940);
        RuleByLot bytes = Checks.with("deed a;deed b;chapter c 1;chapter e 1;bars e b;");
        due("feed for fits()", bytes.feed(0x0101_0000, 0xff00_0000, 0, 0, 0), 20);
        due("bytes are the highest first", bytes.end(2) && bytes.fits() == 1, true);
        bytes.feed(0x80000000, 0, 0, 0, 0);
        bytes.end(1);
        due("bytes are not below 0", bytes.fair(), -2);
    }

    // Promise 3
    private static void end() {
        RuleByLot x = new RuleByLot();
        due("end(0) of none", x.end(0), true);
        due("end(1) of none", x.end(1), false);
        due("end(-1)", x.end(-1), false);
        Checks.put(x, "deed a;deed b;");
        due("end beyond", x.end(15), false);
        due("end(min)", x.end(Integer.MIN_VALUE), false);
        due("count(5) as it was", x.count(5), 14);
        due("end(14)", x.end(14), true);
        due("end(7)", x.end(7), true);
        due("house() of the first bytes", x.house(), 1);
        due("tape empty then", x.count(5), 0);
    }

    // Promise 4
    private static void house() {
        RuleByLot x = new RuleByLot();
        due("house() of the whole", Checks.house(x, ONCE), 19);
        due("DEEDS", x.count(0), 3);
        due("house() of blanks", Checks.house(x, " \n  "), 0);
        due("no DEEDS", x.count(0), 0);
        due("house() without blanks", Checks.house(x, "deed a;monk b;chapter c 1;"), 3);
        due("house() with blanks", Checks.house(x, "\n deed\n a  ;\nmonk b\n;chapter c 009 ; \n"), 3);
        due("SLIPS with zeros in front", x.chapter(0, 0), 9);
        due("house() of an empty tape", x.house(), 0);
        Checks.house(x, ONCE);
        x.fold(1);
        x.night();
        x.draw(5);
        x.does(0, 2);
        Checks.sentence(x, "due");
        x.image(1);
        int day = x.now(0);
        due("house() with a fault", Checks.house(x, "deed a;deed"), -1 - 11);
        due("tape empty behind a fault", x.count(5), 0);
        due("HOUSE stays", x.count(0), 3);
        due("DAY stays", x.now(0), day);
        due("one HOLDS still", x.now(1) >= 0, true);
        due("SENTENCE stays", x.said(NONE) >= 0, true);
        due("a new house()", Checks.house(x, ONCE), 19);
        due("a new HOUSE: DAY 0", x.now(0), 0);
        due("a new HOUSE: none HOLDS", x.now(1), NONE);
        due("a new HOUSE: all slips", x.now(4), 6);
        due("a new HOUSE: no PENANCES", x.now(5), 0);
        due("a new HOUSE: all WORK", x.now(6), 6);
        due("a new HOUSE: no SENTENCE", x.said(NONE), NONE);
        due("a new HOUSE: none drawn", x.chapter(1, 4), 0);
        due("a new HOUSE: none done", x.monk(0, 1) + x.monk(0, 4), 0);
        due("a new HOUSE: none ago", x.ago(0), NONE);
        due("a new HOUSE: nothing to undo", x.undo(), NONE);
        due("images stay", x.restore(1), true);
    }

    private static void houseFault(String text, int place, int kind) {
        RuleByLot x = new RuleByLot();
        due("house() of '" + text.strip() + "'", Checks.house(x, text), -1 - place);
        due("fault() of '" + text.strip() + "'", x.fault(), kind);
    }

    private static String many(String word, int n, String behind) {
        StringBuilder text = new StringBuilder();
        for (int i = 0; i < n; i++) {
            text.append(word).append(' ').append(word.charAt(0)).append((char) ('a' + i)).append(behind).append(';');
        }
        return text.toString();
    }

    private static void houseFaults() {
        houseFault("deed", 4, 1);
        houseFault("deed  \n", 7, 1);
        houseFault("deed a", 6, 1);
        houseFault("deed ;", 5, 1);
        houseFault("deed 1;", 5, 1);
        houseFault("deed a b;", 7, 1);
        houseFault("foo;", 0, 1);
        houseFault(";", 0, 1);
        houseFault("deed a;;", 7, 1);
        houseFault("Deed a;", 0, 1);
        houseFault("deed\ta;", 4, 1);
        houseFault("deed a.", 6, 1);
        houseFault("deed a,b;", 6, 1);
        houseFault("night;", 0, 1);
        houseFault("deed abcdefgh;", 5, 1);
        houseFault("deed a1;", 5, 1);
        houseFault("deed 1a;", 5, 1);
        houseFault("deed \u00e4;", 5, 1);
        for (String word : Model.RESERVED) {
            houseFault("deed " + word + ";", 5, 1);
            houseFault("must " + word + " a;", 5, 1);
        }
        houseFault("deed a;deed a;", 12, 3);
        houseFault("deed a;monk a;", 12, 3);
        houseFault("deed a;chapter a 1;", 15, 3);
        houseFault("monk a;deed a;", 12, 3);
        houseFault("monk a;chapter a 1;", 15, 3);
        houseFault("chapter a 1;deed a;", 17, 3);
        houseFault("chapter a 1;monk a;", 17, 3);
        houseFault("chapter c 0;", 10, 2);
        houseFault("chapter c 10;", 10, 2);
        houseFault("chapter c 1000;", 10, 1);
        houseFault("chapter c x;", 10, 1);
        houseFault("chapter c;", 9, 1);
        houseFault("must c d;", 5, 3);
        houseFault("chapter c 1;deed d;must d c;", 24, 3);
        houseFault("chapter c 1;deed d;must c c;", 26, 3);
        houseFault("chapter c 1;deed d;must c x;", 26, 3);
        houseFault("chapter c 1;deed d;must c 1;", 26, 1);
        houseFault("chapter c 1;deed d;must c d;must c d;", 35, 3);
        houseFault("chapter c 1;deed d;must c d;bars c d;", 35, 3);
        houseFault("chapter c 1;deed d;bars c d;must c d;", 35, 3);
        houseFault("monk m;deed d;work d m 1;", 19, 3);
        houseFault("monk m;deed d;work m d 0;", 23, 2);
        houseFault("monk m;deed d;work m d 21;", 23, 2);
        houseFault("monk m;deed d;work m d;", 22, 1);
        houseFault("monk m;deed d;work m d 1;work m d 1;", 32, 3);
        houseFault("monk m;deed d;work m d 1;work m d 99;", 32, 3);
        houseFault("atone d;", 6, 3);
        houseFault("monk d;atone d;", 13, 3);
        houseFault("deed d;atone d;atone d;", 15, 3);
        houseFault("deed d;atone d;atone x;", 15, 3);
        houseFault("once;once;", 5, 3);
        houseFault("once x;", 5, 1);
        houseFault(many("deed", 9, ""), 64, 4);
        houseFault(many("deed", 8, "") + "deed", 64, 4);
        houseFault(many("deed", 8, "") + "deed da;", 64, 4);
        houseFault(many("monk", 5, ""), 32, 4);
        houseFault(many("chapter", 11, " 9"), 130, 4);
        due("8 DEEDS", Checks.house(new RuleByLot(), many("deed", 8, "")), 8);
        due("4 MONKS", Checks.house(new RuleByLot(), many("monk", 4, "")), 4);
        due("10 CHAPTERS", Checks.house(new RuleByLot(), many("chapter", 10, " 9")), 10);
        due("20 of WORK", Checks.house(new RuleByLot(), "monk m;deed d;work m d 20;"), 3);
    }

    private static void longHouses() {
        RuleByLot x = new RuleByLot();
        due("900 blanks", Checks.house(x, blanks(900)), 0);
        due("900 bytes", Checks.house(x, blanks(893) + "deed a;"), 1);
        houseFault(blanks(901), 900, 1);
        houseFault(blanks(894) + "deed a;", 900, 1);
        houseFault("deed a;" + blanks(900), 900, 1);
        houseFault(blanks(897) + "deed a;", 900, 1);
        houseFault(blanks(896) + "deed" + blanks(20), 900, 1);
        houseFault(blanks(896) + "deed", 900, 1);
        houseFault(blanks(897) + "dead a;", 897, 1);
        houseFault(blanks(894) + "deed abcdefgh;", 899, 1);
        houseFault(blanks(894) + "deed abcdefg;", 900, 1);
        houseFault(blanks(895) + "deed abcdefgh;", 900, 1);
        houseFault("once;once;" + blanks(920), 5, 3);
        // What begins at the 900th byte is not read, so its own fault does not count.
        houseFault("deed a;" + blanks(888) + "deed a;", 900, 1);
        houseFault("deed a;" + blanks(887) + "deed a;", 899, 3);
        houseFault("once;" + blanks(895) + "once;", 900, 1);
        houseFault("once;" + blanks(894) + "once;", 899, 3);
    }

    // Promise 5
    private static void fault() {
        RuleByLot x = new RuleByLot();
        Checks.house(x, "deed deed;");
        due("fault() of house()", x.fault(), 1);
        x.book(2);
        due("fault() behind a book() of -1000", x.fault(), 1);
        Checks.house(x, ONCE);
        due("fault() without one", x.fault(), 0);
        Checks.book(x, "day 31;", 0);
        due("fault() of book()", x.fault(), 2);
        x.fair();
        x.fits();
        due("fair(), fits() leave it", x.fault(), 2);
        Checks.sentence(x, "done pots");
        due("fault() of sentence()", x.fault(), 3);
        x.image(0);
        Checks.sentence(x, "due");
        due("fault() of a good sentence()", x.fault(), 0);
        Checks.sentence(x, "");
        x.restore(0);
        due("fault() behind restore()", x.fault(), 1);
    }

    // Promise 6
    private static void chapter() {
        RuleByLot x = Checks.with(ONCE);
        int[][] want = {{2, 2, 2, 1, 0}, {1, 1, 1, 6, 0}, {3, 3, 4, 0, 0}};
        for (int c = 0; c < 3; c++) {
            for (int what = 0; what < 5; what++) {
                due("chapter(" + c + ", " + what + ")", x.chapter(c, what), want[c][what]);
            }
        }
        x.fold(0);
        x.night();
        x.fold(0);
        due("chapter(0, 0) stays", x.chapter(0, 0), 2);
        due("chapter(0, 1) drawn twice", x.chapter(0, 1), 0);
        due("chapter(0, 4) drawn twice", x.chapter(0, 4), 2);
        Checks.dueNoSuch("chapter(3, 0)", () -> x.chapter(3, 0));
        Checks.dueNoSuch("chapter(-1, 0)", () -> x.chapter(-1, 0));
        Checks.dueNoSuch("chapter(0, 5)", () -> x.chapter(0, 5));
        Checks.dueNoSuch("chapter(0, -1)", () -> x.chapter(0, -1));
        RuleByLot y = Checks.with(FREELY);
        y.fold(1);
        due("chapter(1, 1) where slips go back", y.chapter(1, 1), 1);
    }

    // Promise 7
    private static void monk() {
        RuleByLot x = Checks.with(ONCE);
        due("monk(0, 2)", x.monk(0, 2), 2);
        due("monk(1, 2)", x.monk(1, 2), 5);
        due("monk(0, 3)", x.monk(0, 3), 2);
        due("monk(1, 3)", x.monk(1, 3), 4);
        x.fold(2);
        x.does(1, 0);
        x.does(1, 1);
        due("monk(1, 1)", x.monk(1, 1), 3);
        due("monk(1, 2) less", x.monk(1, 2), 4);
        due("monk(1, 3) less", x.monk(1, 3), 3);
        due("monk(1, 4)", x.monk(1, 4), 2);
        x.night();
        due("monk(1, 0)", x.monk(1, 0), 1);
        due("monk(1, 1) next DAY", x.monk(1, 1), 0);
        due("monk(1, 4) next DAY", x.monk(1, 4), 2);
        Checks.dueNoSuch("monk(2, 0)", () -> x.monk(2, 0));
        Checks.dueNoSuch("monk(-1, 0)", () -> x.monk(-1, 0));
        Checks.dueNoSuch("monk(0, 5)", () -> x.monk(0, 5));
        Checks.dueNoSuch("monk(0, -1)", () -> x.monk(0, -1));
    }

    // Promise 8
    private static void left() {
        RuleByLot x = Checks.with(ONCE);
        due("left(0, 1)", x.left(0, 1), 2);
        due("left(1, 1)", x.left(1, 1), 0);
        due("left(2, 0)", x.left(2, 0), NONE);
        due("left(0, 3)", x.left(0, 3), NONE);
        due("left(-1, 0)", x.left(-1, 0), NONE);
        due("left(0, -1)", x.left(0, -1), NONE);
    }

    // Promise 9
    private static void now() {
        RuleByLot x = Checks.with(ONCE);
        int[] before = {0, NONE, 0, 0, 6, 0, 6, NONE};
        for (int what = 0; what < 8; what++) {
            due("now(" + what + ")", x.now(what), before[what]);
        }
        due("now(-1)", x.now(-1), NONE);
        x.fold(1);
        int[] then = {0, 1, 1, 6, 5, 0, 6};
        for (int what = 0; what < 7; what++) {
            due("now(" + what + ") as rest HOLDS", x.now(what), then[what]);
        }
        x.night();
        int[] next = {1, NONE, 0, 0, 5, 2, 6};
        for (int what = 0; what < 7; what++) {
            due("now(" + what + ") next DAY", x.now(what), next[what]);
        }
    }

    private static int slipOf(long seed, int slips) {
        long x = seed * 1103515245L + 12345L & 0xffffffffL;
        return (int) ((x >> 8) % slips);
    }

    // Promise 10
    private static void draw() {
        int[] chapterOfSlip = {0, 0, 1, 2, 2, 2};
        for (int seed = -20; seed < 20; seed++) {
            RuleByLot x = Checks.with(FREELY);
            int want = chapterOfSlip[slipOf(seed, 6)];
            due("draw(" + seed + ")", x.draw(seed), want);
            due("it HOLDS", x.now(1), want);
            due("the slip goes back", x.now(4), 6);
        }
        due("draw(1) by hand", Checks.with(FREELY).draw(1), 1);
        due("draw(3) by hand", Checks.with(FREELY).draw(3), 0);
        due("draw(max)", Checks.with(FREELY).draw(Integer.MAX_VALUE), chapterOfSlip[slipOf(Integer.MAX_VALUE, 6)]);
        RuleByLot x = Checks.with(ONCE);
        due("draw(1) once", x.draw(1), 1);
        due("the slip stays out", x.now(4), 5);
        due("draw while one HOLDS", x.draw(1), -2);
        x.night();
        int[] chapterOfRest = {0, 0, 2, 2, 2};
        due("draw from the rest", x.draw(9), chapterOfRest[slipOf(9, 5)]);
        due("draw without CHAPTERS", Checks.with(PEOPLE).draw(1), -3);
        RuleByLot y = Checks.with(FREELY);
        passAll(y);
        due("draw on DAY 400", y.draw(1), -4);
        RuleByLot z = Checks.with("chapter a 1;chapter b 1;once;");
        z.draw(0);
        z.night();
        z.draw(0);
        due("all slips come back at once", z.now(4), 2);
    }

    private static void passAll(RuleByLot x) {
        for (int i = 0; i < 14; i++) {
            x.days(30, i);
        }
        due("all DAYS are over", x.now(0), 400);
    }

    // Promise 11
    private static void fold() {
        RuleByLot x = Checks.with(ONCE);
        due("fold(3)", x.fold(3), NONE);
        due("fold(-1)", x.fold(-1), NONE);
        due("fold(1)", x.fold(1), 0);
        due("slips in the box", x.now(4), 5);
        due("fold while one HOLDS", x.fold(1), 1);
        x.night();
        due("fold of what is out", x.fold(1), 2);
        RuleByLot y = Checks.with(FREELY);
        for (int i = 0; i < 3; i++) {
            due("fold where slips go back", y.fold(1), 0);
            y.night();
        }
        due("drawn so far", y.chapter(1, 4), 3);
        passAll(y);
        due("fold on DAY 400", y.fold(1), 3);
        RuleByLot z = Checks.with("chapter a 1;chapter b 6;once;");
        for (int i = 0; i < 13; i++) {
            z.days(30, i);
        }
        z.days(9, 1);
        // 399 draws are 57 boxes of 7 slips.
        due("the box is full on DAY 399", z.now(4), 7);
        z.fold(0);
        z.night();
        due("fold on DAY 400 of what is out", z.fold(0), 2);
        due("fold on DAY 400 of what is in", z.fold(1), 3);
        due("fold without CHAPTERS", Checks.with(PEOPLE).fold(0), NONE);
    }

    // Promise 12
    private static void does() {
        RuleByLot x = Checks.with(ONCE);
        due("does(2, 0)", x.does(2, 0), NONE);
        due("does(0, 3)", x.does(0, 3), NONE);
        due("does(-1, 0)", x.does(-1, 0), NONE);
        due("does(0, -1)", x.does(0, -1), NONE);
        due("does while none HOLDS", x.does(0, 0), 1);
        x.fold(1);
        due("does what is barred", x.does(0, 1), 2);
        x.night();
        due("owes", x.monk(0, 0), 1);
        x.fold(2);
        due("does(0, 1)", x.does(0, 1), 0);
        due("WORK is less", x.left(0, 1), 1);
        due("does it again", x.does(0, 1), 3);
        due("WORK stays", x.left(0, 1), 1);
        due("the other one does it", x.does(1, 1), 0);
        due("no WORK of it", x.left(1, 1), 0);
        due("atones", x.does(0, 2), 0);
        due("owes no more", x.monk(0, 0), 0);
        due("the other one owes still", x.monk(1, 0), 1);
        x.night();
        x.fold(2);
        due("does it the next DAY", x.does(0, 1), 0);
        due("atones without PENANCES", x.does(0, 2), 0);
        due("none below 0", x.monk(0, 0), 0);
        due("DEEDS so far", x.monk(0, 4), 4);
    }

    // Promise 13
    private static void night() {
        RuleByLot x = Checks.with(ONCE);
        due("night while none HOLDS", x.night(), NONE);
        x.fold(0);
        x.does(0, 1);
        due("night: hugo did not wash", x.night(), 1);
        due("it is the next DAY", x.now(0), 1);
        due("none HOLDS", x.now(1), NONE);
        due("night again", x.night(), NONE);
        StringBuilder strict = new StringBuilder(many("deed", 8, "") + "monk m;monk n;chapter c 1;");
        for (char d = 'a'; d < 'i'; d++) {
            strict.append("must c d").append(d).append(';');
        }
        RuleByLot y = Checks.with(strict.toString());
        for (int i = 0; i < 12; i++) {
            y.fold(0);
            due("night " + i, y.night(), 16);
        }
        y.fold(0);
        y.does(1, 3);
        due("night up to 99", y.night(), 6);
        due("99 at most", y.monk(0, 0), 99);
        due("all PENANCES", y.now(5), 198);
        y.fold(0);
        due("night above 99", y.night(), 0);
    }

    // Promise 14
    private static void days() {
        RuleByLot x = Checks.with("deed wash;deed pray;deed sing;monk otto;chapter pots 1;must pots wash;work otto pray 3;");
        due("days(2, 5)", x.days(2, 5), 2);
        due("the DAY", x.now(0), 2);
        due("none HOLDS", x.now(1), NONE);
        due("WORK of praying", x.left(0, 1), 1);
        due("DEEDS so far", x.monk(0, 4), 4);
        due("no PENANCES", x.now(5), 0);
        due("days(2, 5) again", x.days(2, 5), 2);
        due("DEEDS so far, WORK being done", x.monk(0, 4), 7);
        due("days(0, 1)", x.days(0, 1), NONE);
        due("days(31, 1)", x.days(31, 1), NONE);
        due("days(-1, 1)", x.days(-1, 1), NONE);
        due("days(30, 1)", x.days(30, 1), 30);
        due("days without CHAPTERS", Checks.with(PEOPLE).days(1, 1), NONE);
        RuleByLot y = Checks.with("deed wash;deed sing;monk otto;chapter pots 1;chapter rest 1;must pots wash;bars pots sing;bars rest wash;atone sing;work otto wash 5;");
        y.fold(0);
        y.night();
        due("owes", y.now(5), 1);
        y.fold(1);
        due("a DAY on which one HOLDS", y.days(1, 1), 1);
        due("drawn no more", y.chapter(0, 4) + y.chapter(1, 4), 2);
        due("atoned", y.now(5), 0);
        due("may not wash", y.left(0, 0), 5);
        due("did one DEED", y.monk(0, 4), 1);
        y.fold(1);
        y.days(1, 1);
        due("owes nothing, need not sing", y.monk(0, 4), 1);
    }

    private static void daysGoOn() {
        RuleByLot x = Checks.with(FREELY);
        due("days(5, 77)", x.days(5, 77), 5);
        int seed = 77;
        int[] chapterOfSlip = {0, 0, 1, 2, 2, 2};
        for (int i = 4; i >= 0; i--) {
            due("drawn " + i + " ago", x.ago(i), chapterOfSlip[slipOf(seed, 6)]);
            seed = seed * 1103515245 + 12345;
        }
        RuleByLot y = Checks.with(FREELY);
        y.fold(1);
        y.days(2, 77);
        due("the seed is for the first draw", y.ago(0), chapterOfSlip[slipOf(77, 6)]);
        RuleByLot z = Checks.with(FREELY);
        for (int i = 0; i < 13; i++) {
            z.days(30, 1);
        }
        due("fewer DAYS are left", z.days(30, 1), 10);
        due("DAY 400", z.now(0), 400);
        due("none are left", z.days(1, 1), 0);
        due("undo() of the latest above 0", z.undo() >= 0 && z.now(0) == 390, true);
        z.days(9, 1);
        z.fold(1);
        due("the last one, which HOLDS", z.days(3, 1), 1);
    }

    // Promise 15
    private static void undo() {
        RuleByLot x = Checks.with(ONCE);
        x.fold(1);
        x.does(1, 0);
        due("undo() of does()", x.undo(), 1);
        due("not done", x.left(1, 0) * 10 + x.monk(1, 1) + x.monk(1, 4), 10);
        due("undo() of fold()", x.undo(), 0);
        due("none HOLDS", x.now(1), NONE);
        due("slip is back", x.now(4), 6);
        due("drawn so far", x.chapter(1, 4), 0);
        due("none ago", x.ago(0), NONE);
        due("undo() of nothing", x.undo(), NONE);
        x.draw(1);
        x.night();
        due("undo() of night()", x.undo(), 1);
        due("HOLDS again", x.now(1), 1);
        due("no PENANCES", x.now(5), 0);
        due("undo() of draw()", x.undo(), 0);
        x.days(3, 4);
        due("undo() of days()", x.undo(), 0);
        due("DAY 0", x.now(0), 0);
        x.fold(5);
        x.does(0, 0);
        x.night();
        x.days(0, 0);
        x.fold(1);
        x.fold(1);
        x.does(0, 1);
        x.draw(1);
        due("undo() of what was done alone", x.undo(), 0);
        for (int i = 0; i < 5; i++) {
            x.fold(2);
            x.night();
            x.days(1, 1);
        }
        for (int i = 7; i >= 0; i--) {
            due("undo() of eight", x.undo(), i);
        }
        due("undo() of a ninth", x.undo(), NONE);
        RuleByLot y = Checks.with(ONCE);
        Checks.book(y, "fold rest;night;day 2;", 1);
        due("undo() of a BOOK", y.undo(), 0);
        due("DAY 0 again", y.now(0), 0);
        Checks.book(y, "fold rest;night;day 2;", 0);
        due("undo() of a BOOK that was judged", y.undo(), NONE);
        Checks.book(y, "fold rest;night;day 31;", 1);
        due("undo() of a BOOK with a fault", y.undo(), NONE);
        y.fold(1);
        Checks.sentence(y, "due");
        y.undo();
        due("undo() leaves the SENTENCE", y.said(NONE), 0);
    }

    // Promise 16
    private static void free() {
        due("free()", Checks.with(ONCE).free(), 0);
        due("free() of some", Checks.with("deed a;deed b;deed c;chapter e 1;bars e b;").free(), 5);
        due("free() without CHAPTERS", Checks.with(PEOPLE).free(), 7);
        due("free() of 8", Checks.with(many("deed", 8, "")).free(), 255);
    }

    // Promise 17
    private static void quarrels() {
        RuleByLot x = Checks.with(ONCE);
        due("quarrels(0)", x.quarrels(0), 2);
        due("quarrels(1)", x.quarrels(1), 5);
        due("quarrels(2)", x.quarrels(2), 2);
        due("quarrels(3)", x.quarrels(3), NONE);
        due("quarrels(-1)", x.quarrels(-1), NONE);
        RuleByLot y = Checks.with("deed a;chapter b 1;chapter c 1;chapter e 1;bars b a;bars c a;");
        due("both bar it", y.quarrels(0), 0);
    }

    // Promises 18, 19
    private static void cover() {
        RuleByLot x = Checks.with(ONCE);
        due("cover()", x.cover(), 3);
        due("covering()", x.covering(), 7);
        Checks.house(x, "deed a;deed b;deed c;chapter k 1;chapter l 1;chapter m 1;chapter n 1;must k a;must l b;must m a;must m c;must n b;must n c;");
        due("covering() by the latest", x.covering(), 7);
        due("cover() by two", x.cover(), 2);
        // k and n, l and m, m and n all do: 9, 6, 12.
        due("the least as bits", x.covering(), 6);
        Checks.house(x, "deed a;chapter k 1;chapter l 1;bars k a;");
        due("cover() of none", x.cover(), 0);
        due("covering() of none", x.covering(), 0);
    }

    private static void dueFraction(String call, Checks.Call above, Checks.Call below, long wantAbove, long wantBelow) {
        due(call + " above", Checks.answerOf(above), wantAbove);
        due(call + " below", Checks.answerOf(below), wantBelow);
    }

    // Promise 20
    private static void allowed() {
        RuleByLot x = Checks.with(ONCE);
        dueFraction("allowed(0)", () -> x.allowed(0, 0), () -> x.allowed(0, 1), 2, 3);
        dueFraction("allowed(1)", () -> x.allowed(1, 0), () -> x.allowed(1, 1), 5, 6);
        x.fold(1);
        dueFraction("allowed(0) of the rest", () -> x.allowed(0, 0), () -> x.allowed(0, 1), 3, 5);
        dueFraction("allowed(1) for sure", () -> x.allowed(1, 0), () -> x.allowed(1, 1), 1, 1);
        RuleByLot y = Checks.with("deed a;chapter c 4;bars c a;");
        dueFraction("allowed(0) never", () -> y.allowed(0, 0), () -> y.allowed(0, 1), 0, 1);
        Checks.dueNoSuch("allowed(1, 0)", () -> y.allowed(1, 0));
        Checks.dueNoSuch("allowed(-1, 0)", () -> y.allowed(-1, 0));
        Checks.dueNoSuch("allowed(0, 2)", () -> y.allowed(0, 2));
        Checks.dueNoSuch("allowed(0, -1)", () -> y.allowed(0, -1));
        Checks.dueNoSuch("allowed without CHAPTERS", () -> Checks.with(PEOPLE).allowed(0, 0));
    }

    private static void dueFinish(RuleByLot x, int m, int d, int k, long above, long below) {
        dueFraction("finish(" + m + ", " + d + ", " + k + ")",
                () -> x.finish(m, d, k, 0), () -> x.finish(m, d, k, 1), above, below);
    }

    // Promise 21
    private static void finish() {
        RuleByLot x = Checks.with(ONCE);
        dueFinish(x, 0, 1, 1, 0, 1);
        dueFinish(x, 0, 1, 2, 2, 3);
        dueFinish(x, 0, 1, 3, 1, 1);
        dueFinish(x, 1, 0, 2, 14, 15);
        dueFinish(x, 1, 1, 1, 1, 1);
        RuleByLot y = Checks.with(FREELY);
        dueFinish(y, 0, 1, 2, 25, 36);
        // Twice or thrice of three: 3 * 25/36 * 1/6 + 125/216.
        dueFinish(y, 0, 1, 3, 25, 27);
        dueFinish(y, 1, 0, 8, 6560, 6561);
        Checks.dueNoSuch("finish of no MONK", () -> x.finish(2, 0, 1, 0));
        Checks.dueNoSuch("finish of no DEED", () -> x.finish(0, 3, 1, 0));
        Checks.dueNoSuch("finish in 0", () -> x.finish(0, 0, 0, 0));
        Checks.dueNoSuch("finish in 9", () -> x.finish(0, 0, 9, 0));
        Checks.dueNoSuch("finish, another what", () -> x.finish(0, 0, 1, 2));
        Checks.dueNoSuch("finish without CHAPTERS", () -> Checks.with(PEOPLE).finish(0, 0, 1, 0));
        // The box: one that allows, one that bars; today's is not counted, the box fills again.
        RuleByLot z = Checks.with("deed a;monk m;chapter c 1;chapter e 1;bars e a;work m a 2;once;");
        dueFinish(z, 0, 0, 2, 0, 1);
        dueFinish(z, 0, 0, 3, 1, 2);
        dueFinish(z, 0, 0, 4, 1, 1);
        z.fold(0);
        dueFinish(z, 0, 0, 2, 0, 1);
        dueFinish(z, 0, 0, 4, 1, 2);
        dueFinish(z, 0, 0, 5, 1, 1);
        RuleByLot big = Checks.with("deed a;monk m;" + many("chapter", 10, " 9") + "bars ca a;work m a 8;");
        // 81 of 90 slips allow it: 9/10 to the 8th.
        dueFinish(big, 0, 0, 8, 43046721, 100000000);
        RuleByLot bigOnce = Checks.with("deed a;monk m;" + many("chapter", 10, " 9") + "bars ca a;work m a 8;once;");
        long above = 1;
        long below = 1;
        for (int i = 0; i < 8; i++) {
            above *= 81 - i;
            below *= 90 - i;
        }
        long gcd = java.math.BigInteger.valueOf(above).gcd(java.math.BigInteger.valueOf(below)).longValue();
        dueFinish(bigOnce, 0, 0, 8, above / gcd, below / gcd);
    }

    // Promises 22, 23
    private static void most() {
        RuleByLot x = Checks.with(ONCE);
        due("most(1)", x.most(1), 3);
        due("mostAt(0)", x.mostAt(0), 2);
        due("mostAt(1)", x.mostAt(1), NONE);
        due("most(0)", x.most(0), NONE);
        due("most(5)", x.most(5), NONE);
        due("mostAt(0) by the latest that was not NONE", x.mostAt(0), 2);
        due("most(3)", x.most(3), 6);
        due("mostAt(0) of 3", x.mostAt(0), 0);
        due("mostAt(1) of 3", x.mostAt(1), 0);
        due("mostAt(2) of 3", x.mostAt(2), 2);
        due("mostAt(3) of 3", x.mostAt(3), NONE);
        due("mostAt(-1)", x.mostAt(-1), NONE);
        due("most(4)", x.most(4), 6);
        due("mostAt(2) of 4", x.mostAt(2), 0);
        due("mostAt(3) of 4", x.mostAt(3), 1);
        due("most without CHAPTERS", Checks.with(PEOPLE).most(1), NONE);
        RuleByLot y = Checks.with("deed a;deed b;monk m;monk n;" + many("chapter", 10, " 1")
                + "bars ca a;bars cb b;bars cc a;bars cc b;bars cd a;bars ce a;bars cf a;bars cg a;bars ch a;bars ci a;bars cj a;"
                + "work m a 1;work n b 3;");
        // Three days for b by ca, one for a by cb.
        due("most(4) of ten", y.most(4), 4);
        due("first", y.mostAt(0) * 1000 + y.mostAt(1) * 100 + y.mostAt(2) * 10 + y.mostAt(3), 1);
        StringBuilder others = new StringBuilder();
        for (char c = 'a'; c < 'j'; c++) {
            others.append("bars c").append(c).append(" a;");
        }
        RuleByLot last = Checks.with("deed a;monk m;work m a 20;" + many("chapter", 10, " 1") + others);
        due("most(4) by the last alone", last.most(4), 4);
        for (int i = 0; i < 4; i++) {
            due("the last", last.mostAt(i), 9);
        }
        RuleByLot z = Checks.with(PEOPLE + CHAPTERS);
        due("most of no WORK", z.most(2), 0);
        due("the first then", z.mostAt(0) + z.mostAt(1), 0);
    }

    private static int fairOf(RuleByLot x, int... draws) {
        Checks.put(x, draws);
        return x.fair();
    }

    // Promises 24, 25
    private static void fair() {
        RuleByLot x = Checks.with(ONCE);
        due("fair() of an empty tape", x.fair(), -2);
        due("fair() of nine", fairOf(x, 2, 2, 2, 0, 0, 1, 2, 2, 2), -2);
        due("fair() of no CHAPTER", fairOf(x, 1, 1, 3), -2);
        due("fair() of 255", fairOf(x, 255), -2);
        due("tape empty then", x.count(5), 0);
        due("fair() that can't be", fairOf(x, 1, 1), 1);
        Checks.dueNoSuch("chance ahead of any", () -> x.chance(0));
        due("fair() that can be", fairOf(x, 1, 0), NONE);
        dueFraction("chance()", () -> x.chance(0), () -> x.chance(1), 1, 15);
        due("fair() that can't be, again", fairOf(x, 0, 0, 1, 0), 3);
        dueFraction("chance() stays", () -> x.chance(0), () -> x.chance(1), 1, 15);
        Checks.dueNoSuch("chance(2)", () -> x.chance(2));
        Checks.dueNoSuch("chance(-1)", () -> x.chance(-1));
        due("fair() beyond the box", fairOf(x, 2, 2, 2, 0, 0, 1, 1, 2), NONE);
        // 3/6 2/5 1/4 2/3 1/2 1/1, all come back, 1/6 3/5.
        dueFraction("chance() beyond the box", () -> x.chance(0), () -> x.chance(1), 1, 600);
        due("the box stays", x.now(4), 6);
        x.fold(1);
        due("fair() by the box as it is", fairOf(x, 0, 1), 1);
        due("fair() of one", fairOf(x, 0), NONE);
        dueFraction("chance() of one", () -> x.chance(0), () -> x.chance(1), 2, 5);
        Checks.house(x, "");
        dueFraction("chance() behind a new HOUSE", () -> x.chance(0), () -> x.chance(1), 2, 5);
        RuleByLot y = Checks.with(FREELY);
        due("fair() where slips go back", fairOf(y, 1, 1, 1, 1, 1, 1, 1, 1), NONE);
        dueFraction("chance()", () -> y.chance(0), () -> y.chance(1), 1, 1679616);
    }

    private static int fitsOf(RuleByLot x, int... pairs) {
        Checks.put(x, pairs);
        return x.fits();
    }

    // Promise 26
    private static void fits() {
        RuleByLot x = Checks.with(ONCE);
        due("fits() of an empty tape", x.fits(), NONE);
        due("fits() of an odd tape", fitsOf(x, 0, 1, 0), NONE);
        due("fits() of no DEED", fitsOf(x, 3, 1), NONE);
        due("fits() of 2", fitsOf(x, 0, 2), NONE);
        due("fits() of nine", fitsOf(x, 0, 1, 0, 1, 0, 1, 0, 1, 0, 1, 0, 1, 0, 1, 0, 1, 0, 1), NONE);
        due("tape empty then", x.count(5), 0);
        due("fits() of eight", fitsOf(x, 0, 1, 0, 1, 0, 1, 0, 1, 0, 1, 0, 1, 0, 1, 0, 1), 6);
        due("fits() done", fitsOf(x, 1, 1), 5);
        due("fits() not done", fitsOf(x, 1, 0), 6);
        due("fits() both", fitsOf(x, 0, 0, 2, 0), 1);
        due("fits() none", fitsOf(x, 2, 1, 0, 1, 2, 0), 0);
        due("fits() without CHAPTERS", fitsOf(Checks.with(PEOPLE), 0, 1), 0);
    }

    // Promise 27
    private static void watch() {
        RuleByLot x = Checks.with(ONCE);
        fitsOf(x, 2, 1, 0, 1, 2, 0);
        due("watch() behind a fits() of 0", x.watch(), NONE);
        fitsOf(x, 0, 1);
        due("watch() of rest, songs: the first", x.watch(), 0);
        fitsOf(x, 2, 1, 0, 1, 2, 0);
        due("watch() by the latest above 0", x.watch(), 0);
        Checks.house(x, "deed a;deed b;deed c;chapter k 1;chapter l 1;chapter m 1;must k b;must l c;bars m c;");
        due("watch() as it was then", x.watch(), 0);
        fitsOf(x, 0, 1);
        // a parts none of three, b one and two, c all three.
        due("watch() of three", x.watch(), 2);
        fitsOf(x, 9, 1);
        due("watch() behind a fits() of NONE", x.watch(), 2);
        fitsOf(x, 1, 0, 2, 0, 2, 1);
        due("watch() by a fits() of none", x.watch(), 2);
        Checks.house(x, "deed a;deed b;deed c;chapter k 1;chapter l 1;bars l a;");
        due("fits() of the first alone", fitsOf(x, 0, 1), 1);
        due("watch() of the first alone", x.watch(), 0);
        RuleByLot y = Checks.with("deed a;" + many("chapter", 10, " 1"));
        due("fits() of ten", fitsOf(y, 0, 1), 1023);
        due("watch() of ten alike", y.watch(), 0);
    }

    // Promise 28
    private static void waits() {
        RuleByLot x = Checks.with(ONCE);
        due("waits(0)", x.waits(0), 5);
        due("waits(1)", x.waits(1), 6);
        due("waits(2)", x.waits(2), 4);
        due("waits(3)", x.waits(3), NONE);
        due("waits(-1)", x.waits(-1), NONE);
        x.fold(1);
        due("waits(1), none being in the box", x.waits(1), 11);
        due("waits(2) of the rest", x.waits(2), 3);
        due("waits without 'once'", Checks.with(FREELY).waits(0), NONE);
        due("waits for the only slip", Checks.with("chapter c 1;once;").waits(0), 1);
    }

    // Promise 29
    private static void ago() {
        RuleByLot x = Checks.with(FREELY);
        int[] folds = {0, 1, 2, 2, 1, 0, 0, 1, 2, 1, 1, 2, 0, 2, 1, 0, 2, 1};
        for (int c : folds) {
            x.fold(c);
            x.night();
        }
        for (int k = 0; k < 16; k++) {
            due("ago(" + k + ")", x.ago(k), folds[folds.length - 1 - k]);
        }
        due("ago(16)", x.ago(16), NONE);
        due("ago(-1)", x.ago(-1), NONE);
        x.undo();
        x.undo();
        due("ago(0) undone", x.ago(0), 2);
        due("ago(15) undone", x.ago(15), 1);
        RuleByLot y = Checks.with(FREELY);
        y.fold(2);
        due("ago(0) as it HOLDS", y.ago(0), 2);
        due("ago(1) of one", y.ago(1), NONE);
    }

    private static void dueText(String what, String got, String want) {
        due(what + " is '" + got + "', due is '" + want + "'", got.equals(want), true);
    }

    // Promises 30, 31
    private static void notice() {
        RuleByLot x = Checks.with(ONCE);
        dueText("notice", Checks.notice(x), "nobody knows");
        x.fold(1);
        due("byteAt(0) of the latest", x.byteAt(0), 'n');
        dueText("notice", Checks.notice(x), "rest holds sleep");
        due("byteAt(16)", x.byteAt(16), NONE);
        due("byteAt(-1)", x.byteAt(-1), NONE);
        x.night();
        due("byteAt(15) stays", x.byteAt(15), 'p');
        StringBuilder rules = new StringBuilder();
        StringBuilder want = new StringBuilder("zzzzzzz holds");
        for (char d = 'h'; d >= 'a'; d--) {
            rules.append("deed abcdef").append(d).append(';');
            want.append(" abcdef").append(d);
        }
        rules.append("chapter zzzzzzz 1;");
        for (char d = 'a'; d <= 'h'; d++) {
            rules.append("must zzzzzzz abcdef").append(d).append(';');
        }
        RuleByLot y = Checks.with(rules.toString());
        y.fold(0);
        due("the longest notice()", y.notice(), 77);
        dueText("the longest notice", Checks.notice(y), want.toString());
        RuleByLot z = Checks.with("deed a;chapter c 1;bars c a;");
        z.fold(0);
        dueText("notice of no DEED", Checks.notice(z), "c holds");
    }

    // Promise 32
    private static void odds() {
        RuleByLot x = Checks.with(ONCE);
        for (int monk = 0; monk < 2; monk++) {
            for (int m = 1; m < 8; m++) {
                int want = 0;
                for (int seed = -3; seed < 27; seed++) {
                    RuleByLot y = Checks.with(ONCE);
                    y.days(m, seed);
                    want += y.monk(monk, 3) == 0 ? 1 : 0;
                }
                due("odds(" + monk + ", " + m + ", 30, -3)", x.odds(monk, m, 30, -3), want);
            }
        }
        due("all stays", x.now(0) * 100 + x.now(6) * 10 + x.now(4), 66);
        due("odds of no MONK", x.odds(2, 1, 1, 1), NONE);
        due("odds of MONK -1", x.odds(-1, 1, 1, 1), NONE);
        due("odds in 0 DAYS", x.odds(0, 0, 1, 1), NONE);
        due("odds in 31 DAYS", x.odds(0, 31, 1, 1), NONE);
        due("odds of 0 seeds", x.odds(0, 1, 0, 1), NONE);
        due("odds of 31 seeds", x.odds(0, 1, 31, 1), NONE);
        due("odds without CHAPTERS", Checks.with(PEOPLE).odds(0, 1, 1, 1), NONE);
        due("odds of one seed, one DAY", Checks.with("deed a;monk m;chapter c 1;work m a 1;").odds(0, 1, 1, 1), 1);
        due("odds without WORK", Checks.with(PEOPLE + CHAPTERS).odds(0, 1, 30, 1), 30);
        due("odds in 30 DAYS", x.odds(1, 30, 30, Integer.MAX_VALUE - 3), 30);
        x.fold(1);
        due("odds while one HOLDS that bars it", x.odds(0, 2, 30, 0), 0);
        // From the second DAY on no slip of rest is in the box.
        due("odds of the DAYS behind it", x.odds(0, 3, 30, 0), 30);
        due("one HOLDS still", x.now(1), 1);
        RuleByLot z = Checks.with(FREELY + "deed pray;chapter stones 1;bars stones pray;work otto pray 20;");
        passAll(z);
        due("odds when all DAYS are over", z.odds(0, 30, 30, 1), 30);
        RuleByLot w = Checks.with("deed a;monk m;chapter c 1;bars c a;work m a 1;");
        passAll(w);
        due("odds of what is never done", w.odds(0, 30, 30, 1), 0);
    }

    private static void dueBook(RuleByLot x, String text, int lives, int answer, int... told) {
        due("book(" + lives + ") of '" + text + "'", Checks.book(x, text, lives), answer);
        for (int what = 0; what < told.length; what++) {
            due("told(" + what + ") of '" + text + "'", x.told(what), told[what]);
        }
    }

    // Promise 33
    private static void book() {
        RuleByLot x = Checks.with(ONCE);
        dueBook(x, "", 0, NONE, 0, 0, 0, 0);
        dueBook(x, "draw 0;", 0, NONE, 0, 1, 0, 0);
        dueBook(x, "fold rest;hugo does sleep;night;day 2;", 0, NONE, 0, 4, 3);
        due("all stays as it is", x.now(0) * 100 + x.now(4) * 10 + x.now(6), 66);
        due("tape empty then", x.count(5), 0);
        dueBook(x, "fold rest;hugo does sleep;night;", 1, NONE, 0, 3, 1, 1);
        due("it was lived", x.now(0) * 100 + x.now(4) * 10 + x.now(6), 155);
        dueBook(x, "draw 1;night;fold rest;night;", 1, 2, 12, 2, 2);
        due("lived as far as it is not WRONG", x.now(0), 2);
        Checks.put(x, "draw 1;");
        due("book(2)", x.book(2), -1000);
        due("book(-1)", x.book(-1), -1000);
        due("the tape stays", x.count(5), 7);
        due("told() stays", x.told(0), 12);
        due("book(1) of that tape", x.book(1), NONE);
        x.night();
        dueBook(x, "day 3;", 1, NONE, 0, 1, 6);
        RuleByLot y = Checks.with(ONCE);
        RuleByLot z = Checks.with(ONCE);
        Checks.book(y, "day 3;draw 999;", 1);
        z.days(3, 3);
        z.draw(999);
        for (int k = 0; k < 4; k++) {
            due("the seed of a day is its number", y.ago(k), z.ago(k));
        }
    }

    private static void bookFault(String text, int place, int kind) {
        RuleByLot x = Checks.with(ONCE);
        due("book() of '" + text.strip() + "'", Checks.book(x, text, 1), -2 - place);
        due("fault() of '" + text.strip() + "'", x.fault(), kind);
        due("told() of '" + text.strip() + "'", x.told(0), NONE);
        due("tape of '" + text.strip() + "'", x.count(5), 0);
        due("undo() of '" + text.strip() + "'", x.undo(), NONE);
    }

    private static void bookFaults() {
        bookFault("draw", 4, 1);
        bookFault("draw ;", 5, 1);
        bookFault("draw 1", 6, 1);
        bookFault("draw 1000;", 5, 1);
        bookFault("draw x;", 5, 1);
        bookFault("day 0;", 4, 2);
        bookFault("day 31;", 4, 2);
        bookFault("fold;", 4, 1);
        bookFault("fold otto;", 5, 3);
        bookFault("fold x;", 5, 3);
        bookFault("fold night;", 5, 1);
        bookFault("x does wash;", 0, 3);
        bookFault("pots does wash;", 0, 3);
        bookFault("does wash;", 0, 1);
        bookFault("otto wash;", 5, 1);
        bookFault("otto does;", 9, 1);
        bookFault("otto does hugo;", 10, 3);
        bookFault("otto does x;", 10, 3);
        bookFault("night 1;", 6, 1);
        bookFault("deed a;", 0, 1);
        bookFault("1;", 0, 1);
        bookFault("night;;", 6, 1);
        bookFault("night;".repeat(40) + "night;", 240, 4);
        bookFault("night;".repeat(40) + "hugo", 240, 4);
        bookFault("night;".repeat(40) + "draw x;", 240, 4);
        bookFault("night;".repeat(40) + "x does wash;", 240, 3);
        bookFault("night;".repeat(40) + "once;", 240, 1);
        bookFault("night;".repeat(40) + ";", 240, 1);
        bookFault(blanks(401), 400, 1);
        bookFault(blanks(395) + "night;", 400, 1);
        bookFault(blanks(396) + "night;", 400, 1);
        bookFault(blanks(396) + "nights;", 396, 3);
        RuleByLot x = Checks.with(ONCE);
        due("40 LINES", Checks.book(x, "draw 1;night;".repeat(20), 0), NONE);
        due("40 LINES told", x.told(1), 40);
        due("400 bytes", Checks.book(x, blanks(393) + "draw 1;", 0), NONE);
    }

    // Promise 34
    private static void told() {
        RuleByLot x = Checks.with(ONCE);
        dueBook(x, "draw 1;draw 1;", 0, 1, 1, 1, 0, 0);
        dueBook(x, "draw 1;fold rest;", 0, 1, 11, 1, 0, 0);
        dueBook(x, "fold rest;night;fold rest;night;", 0, 2, 12, 2, 1, 2);
        dueBook(x, "otto does wash;", 0, 0, 21, 0, 0, 0);
        dueBook(x, "fold rest;otto does wash;", 0, 1, 22, 1, 0, 0);
        dueBook(x, "fold rest;otto does sleep;otto does sleep;", 0, 2, 23, 2, 0, 0);
        dueBook(x, "night;draw 1;", 0, 0, 31, 0, 0, 0);
        due("told(4)", x.told(4), NONE);
        due("told(-1)", x.told(-1), NONE);
        Checks.book(x, "draw", 0);
        due("told() behind a fault", x.told(0), 31);
        RuleByLot empty = Checks.with(PEOPLE);
        dueBook(empty, "draw 1;", 0, 0, 2, 0, 0, 0);
        dueBook(empty, "day 1;", 0, 0, 42, 0, 0, 0);
        RuleByLot y = Checks.with(FREELY);
        passAll(y);
        int owed = y.now(5);
        dueBook(y, "draw 1;", 1, 0, 3, 0, 400, owed);
        dueBook(y, "fold rest;", 1, 0, 13, 0, 400, owed);
        dueBook(y, "day 1;", 1, 0, 41, 0, 400, owed);
        RuleByLot z = Checks.with(FREELY);
        for (int i = 0; i < 13; i++) {
            z.days(30, i);
        }
        dueBook(z, "day 11;", 1, 0, 41, 0, 390);
        due("none of these DAYS went by", z.now(0), 390);
        dueBook(z, "draw 1;day 10;", 1, NONE, 0, 2, 400);
    }

    // Promise 35
    private static void sentence() {
        RuleByLot x = Checks.with(ONCE);
        due("one", Checks.sentence(x, "due"), 1);
        due("two", Checks.sentence(x, "due or barred"), 2);
        due("not counts", Checks.sentence(x, "not due"), 2);
        due("a bracket counts", Checks.sentence(x, "(due)"), 2);
        due("all sorts", Checks.sentence(x, "due or barred and not free or done otto and(owed hugo or left<3 or musts = 1)or number>\n0"), 10);
        due("tape empty then", x.count(5), 0);
        due("8 within one another", Checks.sentence(x, "not ".repeat(7) + "due"), 8);
        due("8 brackets", Checks.sentence(x, "(((((((due)))))))and((((((( due)))))))"), 16);
        due("20 ONES", Checks.sentence(x, "due or ".repeat(19) + "due"), 20);
        due("200 bytes", Checks.sentence(x, blanks(197) + "due"), 1);
        due("a bad one", Checks.sentence(x, "due due"), -1 - 4);
        due("tape empty behind a fault", x.count(5), 0);
        due("it stays", x.said(NONE), 0);
    }

    private static void sentenceFault(String text, int place, int kind) {
        RuleByLot x = Checks.with(ONCE);
        due("sentence() of '" + text.strip() + "'", Checks.sentence(x, text), -1 - place);
        due("fault() of '" + text.strip() + "'", x.fault(), kind);
        due("said() of '" + text.strip() + "'", x.said(NONE), NONE);
    }

    private static void sentenceFaults() {
        sentenceFault("", 0, 1);
        sentenceFault("  ", 2, 1);
        sentenceFault("wash", 0, 1);
        sentenceFault("or due", 0, 1);
        sentenceFault("does", 0, 1);
        sentenceFault("once", 0, 1);
        sentenceFault("due;", 3, 1);
        sentenceFault("due or", 6, 1);
        sentenceFault("due and or due", 8, 1);
        sentenceFault("not", 3, 1);
        sentenceFault("(due", 4, 1);
        sentenceFault("()", 1, 1);
        sentenceFault("due)", 3, 1);
        sentenceFault("(due or free))", 13, 1);
        sentenceFault("done", 4, 1);
        sentenceFault("done wash", 5, 3);
        sentenceFault("owed x", 5, 3);
        sentenceFault("owed due", 5, 1);
        sentenceFault("left 3", 5, 1);
        sentenceFault("left < wash", 7, 1);
        sentenceFault("left <", 6, 1);
        sentenceFault("left < = 3", 7, 1);
        sentenceFault("left < 1000", 7, 1);
        sentenceFault("3 < left", 0, 1);
        sentenceFault("not ".repeat(8) + "due", 32, 4);
        sentenceFault("not ".repeat(8) + "wash", 32, 1);
        sentenceFault("((((((((due))))))))", 8, 4);
        sentenceFault("(((((((((", 8, 4);
        sentenceFault("due or ".repeat(20) + "due", 140, 4);
        sentenceFault("due or ".repeat(20) + "not", 140, 4);
        sentenceFault("due or ".repeat(20) + "or", 140, 1);
        sentenceFault("due or ".repeat(20) + "wash", 140, 1);
        sentenceFault("due and ".repeat(20) + "due", 160, 4);
        sentenceFault("due and ".repeat(20) + "wash", 160, 1);
        sentenceFault(blanks(201), 200, 1);
        sentenceFault(blanks(198) + "due", 200, 1);
        sentenceFault("due" + blanks(198), 200, 1);
        sentenceFault(blanks(198) + "dues", 198, 1);
    }

    private static void dueSaid(RuleByLot x, String text, int... deeds) {
        int ones = Checks.sentence(x, text);
        due("sentence() of '" + text + "'", ones > 0, true);
        due("said(NONE) of '" + text + "'", x.said(NONE), deeds.length);
        for (int k = 0; k < deeds.length; k++) {
            due("said(" + k + ") of '" + text + "'", x.said(k), deeds[k]);
        }
        due("said() beyond '" + text + "'", x.said(deeds.length), NONE);
        due("said(-2) of '" + text + "'", x.said(-2), NONE);
    }

    // Promise 36
    private static void said() {
        RuleByLot x = Checks.with(ONCE + "deed pray;deed dig;must pots pray;must songs pray;work otto sing 4;");
        dueSaid(x, "due");
        dueSaid(x, "not due", 0, 1, 2, 3, 4);
        dueSaid(x, "free", 3, 4);
        x.fold(0);
        dueSaid(x, "due", 1, 3);
        dueSaid(x, "barred", 0);
        dueSaid(x, "not (due or barred)", 2, 4);
        x.does(1, 1);
        x.does(1, 2);
        dueSaid(x, "done hugo", 1, 2);
        dueSaid(x, "done otto");
        dueSaid(x, "owed otto", 1, 2);
        dueSaid(x, "owed hugo", 0, 2);
        dueSaid(x, "left > 0", 0, 1, 2);
        dueSaid(x, "left = 6", 2);
        dueSaid(x, "left < 2", 0, 3, 4);
        dueSaid(x, "musts = 2", 3);
        dueSaid(x, "musts > 0", 0, 1, 2, 3);
        dueSaid(x, "musts < 001", 4);
        dueSaid(x, "number > 2", 3, 4);
        dueSaid(x, "number = 0", 0);
        dueSaid(x, "number < 999", 0, 1, 2, 3, 4);
        // 'and' binds closer than 'or', 'not' closer than both.
        dueSaid(x, "number = 0 or number = 1 and number = 2", 0);
        dueSaid(x, "(number = 0 or number = 1) and number = 1", 1);
        dueSaid(x, "not number = 0 and number < 2", 1);
        dueSaid(x, "not (number = 0 and number < 2)", 1, 2, 3, 4);
        Checks.sentence(x, "due");
        x.night();
        due("said of the next DAY", x.said(NONE), 0);
        due("said of no DEEDS", Checks.sentence(Checks.with(CHAPTERS), "free"), 1);
    }

    // Promises 37, 38
    private static void image() {
        RuleByLot x = Checks.with(ONCE);
        due("image(2)", x.image(2), false);
        due("image(-1)", x.image(-1), false);
        due("restore(2)", x.restore(2), false);
        due("restore(-1)", x.restore(-1), false);
        due("restore() of nothing", x.restore(1), false);
        x.fold(1);
        x.does(1, 0);
        Checks.sentence(x, "done hugo");
        due("image(0)", x.image(0), true);
        x.night();
        x.days(4, 4);
        Checks.house(x, "deed a;");
        due("image(1)", x.image(1), true);
        x.cover();
        x.notice();
        Checks.put(x, "once;");
        due("restore(0)", x.restore(0), true);
        due("the tape stays", x.count(5), 5);
        due("HOUSE", x.count(0) * 100 + x.count(1) * 10 + x.count(2), 323);
        due("one HOLDS", x.now(1), 1);
        due("DAY", x.now(0), 0);
        due("box", x.now(4), 5);
        due("done today", x.monk(1, 1), 1);
        due("WORK", x.now(6), 5);
        due("ago", x.ago(0), 1);
        due("SENTENCE", x.said(0), 0);
        due("nothing can be undone", x.undo(), NONE);
        due("what cover() told stays", x.covering(), 0);
        due("what notice() told stays", x.byteAt(0), 'n');
        x.does(0, 0);
        due("restore(0) again", x.restore(0), true);
        due("as kept", x.monk(0, 1), 0);
        due("restore(1)", x.restore(1), true);
        due("the other HOUSE", x.count(0) * 100 + x.count(1) * 10 + x.count(2), 100);
        due("no SENTENCE there", x.said(NONE), NONE);
        x.restore(0);
        x.does(0, 0);
        due("restore() of no place leaves what can be undone", !x.restore(2) && x.undo() == 0, true);
        x.image(0);
        x.fold(2);
        x.night();
        x.image(0);
        x.days(1, 1);
        x.restore(0);
        due("the latest image()", x.now(0), 1);
    }

    // Promise 39
    private static void count() {
        RuleByLot x = Checks.with(ONCE);
        int[] want = {3, 2, 3, 2, 1, 0, NONE};
        for (int what = 0; what < 7; what++) {
            due("count(" + what + ")", x.count(what), want[what]);
        }
        due("count(-1)", x.count(-1), NONE);
        due("count(4) without 'once'", Checks.with(FREELY).count(4), 0);
        due("count(3) without 'atone'", Checks.with(PEOPLE).count(3), NONE);
        Checks.put(x, "abc");
        due("count(5)", x.count(5), 3);
    }
}
