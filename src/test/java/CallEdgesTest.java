import java.util.function.Consumer;

/**
 * The tape, the faults, what is asked of the house, images, and what calls leave as it was, at each
 * case that the document names and at its neighbour. The sentence stands ahead of each test.
 */
public final class CallEdgesTest {
    private static final int NONE = RuleByLot.NONE;
    private static final int[] FAR = {Integer.MIN_VALUE, -1000, -2, 1000, Integer.MAX_VALUE};

    private static final String HOUSE = "deed a;deed b;monk m;monk n;chapter c 1;chapter e 2;"
            + "must c a;bars c b;must e b;work m a 1;work n b 2;atone b;once;";

    private CallEdgesTest() {
    }

    public static void main(String[] args) {
        newObject();
        feed();
        feedOrder();
        end();
        emptyThen();
        houseStays();
        newHouse();
        newHouseLeaves();
        fault();
        chapter();
        monk();
        left();
        now();
        count();
        throwsChangeNothing();
        refusedChangeNothing();
        askingChangesNothing();
        image();
        imageKeepsAll();
        restoreLeaves();
        fullHouse();
        daysOfFullHouse();
        reckonedOfFullHouse();
        Checks.finish("CallEdgesTest");
    }

    private static void due(String call, long got, long want) {
        Checks.due(call, got, want);
    }

    private static void due(String call, boolean got, boolean want) {
        Checks.due(call, got, want);
    }

    /** One with something of everything: days, penances, work, a sentence, and all that was told last. */
    private static RuleByLot busy() {
        RuleByLot x = Checks.with(HOUSE);
        x.fold(1);
        x.does(1, 1);
        x.night();
        x.fold(0);
        x.does(1, 0);
        x.cover();
        x.most(2);
        x.notice();
        Checks.put(x, 1, 1);
        x.fair();
        Checks.put(x, 0, 1);
        x.fits();
        Checks.book(x, "night;draw 3;", 0);
        Checks.sentence(x, "left > 0");
        Checks.house(x, "deed a;deed a;");
        return x;
    }

    // "An empty HOUSE; an empty tape"
    private static void newObject() {
        RuleByLot x = new RuleByLot();
        RuleByLot y = Checks.with("");
        Checks.dueText("a new object", Checks.seenAll(x), Checks.seenAll(y));
        due("bytes of the tape", x.count(5), 0);
        due("LINES of an empty tape", x.house(), 0);
    }

    // "NONE, and none come, if it would have more than 940"
    private static void feed() {
        RuleByLot x = new RuleByLot();
        for (int i = 1; i <= 47; i++) {
            due("feed " + i, x.feed(-1, -1, -1, -1, -1), 20 * i);
        }
        for (int n = 940; n > 920; n--) {
            due("end(" + n + ")", x.end(n), true);
            due("feed behind " + n, x.feed(0, 0, 0, 0, 0), NONE);
            due("bytes then", x.count(5), n);
        }
        due("end(920)", x.end(920), true);
        due("feed behind 920", x.feed(0, 0, 0, 0, 0), 940);
        due("feed behind 940", x.feed(0, 0, 0, 0, 0), NONE);
        due("end(0)", x.end(0), true);
        due("feed behind none", x.feed(0, 0, 0, 0, 0), 20);
        due("end(1)", x.end(1), true);
        due("feed behind 1", x.feed(0, 0, 0, 0, 0), 21);
    }

    // "Twenty bytes come behind the tape, of each number the highest first"
    private static void feedOrder() {
        String[] rows = {"deed abcdefg;deed xy", ";monk otto;once;    "};
        RuleByLot x = new RuleByLot();
        for (String row : rows) {
            int[] n = new int[5];
            for (int i = 0; i < 20; i++) {
                n[i / 4] |= row.charAt(i) << 8 * (3 - i % 4);
            }
            x.feed(n[0], n[1], n[2], n[3], n[4]);
        }
        due("LINES as fed", x.house(), 4);
        // All eight bits of a byte count, and no more: 0x80 is 128, no CHAPTER and no blank.
        RuleByLot y = Checks.with("chapter c 1;");
        int[] firsts = {0, 0x00ffffff, 0x01000000, 0x80000000, 0xff000000};
        int[] want = {NONE, NONE, -2, -2, -2};
        for (int i = 0; i < firsts.length; i++) {
            y.feed(firsts[i], -1, -1, -1, -1);
            y.end(1);
            due("fair() of " + firsts[i], y.fair(), want[i]);
        }
        y.feed(0xa0a0a0a0, 0x8a8a8a8a, 0, 0, 0);
        y.end(8);
        due("house() of 160, 138", y.house(), -1);
        y.feed(0x20202020, 0x0a0a0a0a, 0, 0, 0);
        y.end(8);
        due("house() of 32, 10", y.house(), 0);
    }

    // "The tape has its first n bytes alone: true; false, if it has not so many, or n is below 0"
    private static void end() {
        RuleByLot x = new RuleByLot();
        due("end(0) of none", x.end(0), true);
        due("end(1) of none", x.end(1), false);
        x.feed(0x6f6e6365, 0x3b6f6e63, 0x653b0000, 0, 0);
        for (int n : new int[] {21, 940, Integer.MAX_VALUE, -1, Integer.MIN_VALUE}) {
            due("end(" + n + ") of 20", x.end(n), false);
            due("bytes then", x.count(5), 20);
        }
        due("end(20) of 20", x.end(20), true);
        due("end(10) of 20", x.end(10), true);
        due("end(11) of 10", x.end(11), false);
        due("end(5) of 10", x.end(5), true);
        due("the first bytes are left", x.house(), 1);
        due("end(1) of an empty one", x.end(1), false);
        x.feed(0x6f6e6365, 0x3b000000, 0, 0, 0);
        x.end(0);
        due("end(0)", x.house(), 0);
    }

    // "The tape (empty then, here and below)"
    private static void emptyThen() {
        String[] good = {HOUSE, "fold c;", "due", "\0", "\0\1"};
        for (int call = 0; call < 5; call++) {
            for (String text : new String[] {good[call], "???", ""}) {
                RuleByLot x = Checks.with(HOUSE);
                Checks.put(x, text);
                switch (call) {
                    case 0 -> x.house();
                    case 1 -> x.book(1);
                    case 2 -> x.sentence();
                    case 3 -> x.fair();
                    default -> x.fits();
                }
                due("bytes behind call " + call + " of '" + text + "'", x.count(5), 0);
                due("feed behind it", x.feed(0, 0, 0, 0, 0), 20);
            }
        }
        RuleByLot y = Checks.with(HOUSE);
        Checks.put(y, "due");
        y.book(2);
        due("bytes behind book(2)", y.count(5), 3);
        due("it is there still", y.sentence(), 1);
    }

    // "-1 less the place of a FAULT: it stays"
    private static void houseStays() {
        RuleByLot x = busy();
        String before = Checks.seen(x);
        due("a FAULT at 0", Checks.house(x, "?"), -1);
        due("a FAULT at 1", Checks.house(x, "\n;"), -2);
        due("a FAULT at 12", Checks.house(x, "deed a;deed a;"), -13);
        due("a FAULT at 900", Checks.house(x, " ".repeat(901)), -901);
        Checks.dueText("all stays", Checks.seen(x), before);
        due("acts can still be undone", x.undo(), 4);
        Checks.sentence(x, "due due");
        due("SENTENCE stays", x.said(NONE), 2);
    }

    // "A new HOUSE: DAY 0, none HOLDS, all slips are in the box, no PENANCES, no SENTENCE"
    private static void newHouse() {
        RuleByLot x = busy();
        due("it has lived", x.now(0) + x.now(5) > 1, true);
        Checks.house(x, HOUSE);
        Checks.dueText("the same HOUSE anew", Checks.seen(x), Checks.seen(Checks.with(HOUSE)));
        due("nothing to undo", x.undo(), NONE);
        RuleByLot y = busy();
        due("an empty HOUSE", y.house(), 0);
        Checks.dueText("an empty HOUSE", Checks.seen(y), Checks.seen(new RuleByLot()));
        RuleByLot z = Checks.with("deed p;deed q;deed r;monk s;monk t;monk u;chapter v 9;chapter w 9;chapter x 9;"
                + "must x r;bars w r;work u r 20;atone r;");
        Checks.house(z, HOUSE);
        Checks.dueText("a smaller HOUSE", Checks.seen(z), Checks.seen(Checks.with(HOUSE)));
        RuleByLot over = Checks.with(HOUSE);
        for (int i = 0; i < 14; i++) {
            over.days(30, i);
        }
        due("all DAYS are over", over.draw(1), -4);
        Checks.house(over, HOUSE);
        due("drawn in a new HOUSE", over.draw(1) >= 0, true);
    }

    private static void newHouseLeaves() {
        RuleByLot x = busy();
        x.image(1);
        Checks.house(x, "deed");
        String latest = Checks.seenOfLatest(x).substring(2);
        Checks.house(x, HOUSE);
        due("fault() of it", x.fault(), 0);
        Checks.dueText("what other calls told last", Checks.seenOfLatest(x).substring(2), latest);
        due("images are kept", x.restore(1), true);
        due("its DAY", x.now(0), 1);
    }

    // "The kind of the FAULT of the latest house(), book() or sentence() (a book() of -1000 leaves it); 0 without one
    // and ahead of any"
    private static void fault() {
        RuleByLot x = new RuleByLot();
        due("ahead of any", x.fault(), 0);
        x.book(7);
        due("behind -1000 alone", x.fault(), 0);
        String[] houses = {"?", "chapter c 0;", "deed a;deed a;", "monk a;monk b;monk c;monk d;monk e;"};
        for (int kind = 1; kind <= 4; kind++) {
            Checks.house(x, houses[kind - 1]);
            due("of a HOUSE", x.fault(), kind);
            x.book(-1);
            due("behind -1000", x.fault(), kind);
        }
        Checks.house(x, HOUSE);
        due("of a good HOUSE", x.fault(), 0);
        String[] books = {"?", "day 0;", "x does a;", "night;".repeat(41)};
        for (int kind = 1; kind <= 4; kind++) {
            Checks.book(x, books[kind - 1], kind % 2);
            due("of a BOOK", x.fault(), kind);
        }
        Checks.book(x, "night;", 1);
        due("of a BOOK that is WRONG alone", x.fault(), 0);
        String[] sentences = {"?", "done x", "due or ".repeat(20) + "due"};
        int[] kinds = {1, 3, 4};
        for (int i = 0; i < 3; i++) {
            Checks.sentence(x, sentences[i]);
            due("of a SENTENCE", x.fault(), kinds[i]);
        }
        x.image(0);
        x.restore(0);
        x.draw(1);
        x.undo();
        x.fair();
        x.fits();
        x.end(0);
        due("other calls leave it", x.fault(), 4);
        Checks.sentence(x, "due");
        due("of a good SENTENCE", x.fault(), 0);
    }

    // "Of a CHAPTER: .. NoSuchElementException: no such ones"
    private static void chapter() {
        RuleByLot x = Checks.with(HOUSE);
        int[][] want = {{1, 1, 1, 2, 0}, {2, 2, 2, 0, 0}};
        for (int c = 0; c < 2; c++) {
            for (int what = 0; what < 5; what++) {
                due("chapter(" + c + ", " + what + ")", x.chapter(c, what), want[c][what]);
            }
            int at = c;
            Checks.dueNoSuch("chapter(" + c + ", -1)", () -> x.chapter(at, -1));
            Checks.dueNoSuch("chapter(" + c + ", 5)", () -> x.chapter(at, 5));
        }
        for (int what = -1; what < 6; what++) {
            int of = what;
            Checks.dueNoSuch("chapter(-1, " + what + ")", () -> x.chapter(-1, of));
            Checks.dueNoSuch("chapter(2, " + what + ")", () -> x.chapter(2, of));
        }
        for (int far : FAR) {
            Checks.dueNoSuch("chapter(" + far + ", 0)", () -> x.chapter(far, 0));
            Checks.dueNoSuch("chapter(0, " + far + ")", () -> x.chapter(0, far));
        }
        Checks.dueNoSuch("no CHAPTERS", () -> new RuleByLot().chapter(0, 0));
        // "4 how often it was drawn or folded so far"
        x.fold(1);
        due("folded", x.chapter(1, 4), 1);
        x.fold(1);
        due("refused", x.chapter(1, 4), 1);
        x.night();
        due("behind the NIGHT", x.chapter(1, 4), 1);
        x.days(3, 5);
        due("by days", x.chapter(0, 4) + x.chapter(1, 4), 4);
        int drawn = x.draw(9);
        due("drawn", x.chapter(0, 4) + x.chapter(1, 4), 5);
        int often = x.chapter(drawn, 4);
        x.undo();
        due("undone", x.chapter(drawn, 4), often - 1);
        RuleByLot last = Checks.with("chapter a 1;chapter b 2;chapter c 3;chapter d 4;chapter e 5;chapter f 6;chapter g 7;"
                + "chapter h 8;chapter i 9;chapter j 9;");
        due("chapter(9, 0)", last.chapter(9, 0), 9);
        Checks.dueNoSuch("chapter(10, 0)", () -> last.chapter(10, 0));
    }

    // "Of a MONK: .. NoSuchElementException: no such ones"
    private static void monk() {
        RuleByLot x = Checks.with(HOUSE);
        int[][] want = {{0, 0, 1, 1, 0}, {0, 0, 2, 2, 0}};
        for (int m = 0; m < 2; m++) {
            for (int what = 0; what < 5; what++) {
                due("monk(" + m + ", " + what + ")", x.monk(m, what), want[m][what]);
            }
            int of = m;
            Checks.dueNoSuch("monk(" + m + ", -1)", () -> x.monk(of, -1));
            Checks.dueNoSuch("monk(" + m + ", 5)", () -> x.monk(of, 5));
        }
        for (int what = -1; what < 6; what++) {
            int of = what;
            Checks.dueNoSuch("monk(-1, " + what + ")", () -> x.monk(-1, of));
            Checks.dueNoSuch("monk(2, " + what + ")", () -> x.monk(2, of));
        }
        for (int far : FAR) {
            Checks.dueNoSuch("monk(" + far + ", 0)", () -> x.monk(far, 0));
            Checks.dueNoSuch("monk(0, " + far + ")", () -> x.monk(0, far));
        }
        Checks.dueNoSuch("no MONKS", () -> new RuleByLot().monk(0, 0));
        x.fold(1);
        x.does(1, 1);
        x.does(1, 0);
        int[] then = {0, 3, 2, 1, 2};
        for (int what = 0; what < 5; what++) {
            due("monk(1, " + what + ") of today", x.monk(1, what), then[what]);
        }
        x.night();
        int[] next = {0, 0, 2, 1, 2};
        for (int what = 0; what < 5; what++) {
            due("monk(1, " + what + ") of the next DAY", x.monk(1, what), next[what]);
        }
        due("PENANCES", x.monk(0, 0), 1);
        RuleByLot four = Checks.with("deed d;monk a;monk b;monk c;monk e;work e d 20;");
        due("monk(3, 3)", four.monk(3, 3), 20);
        Checks.dueNoSuch("monk(4, 3)", () -> four.monk(4, 3));
    }

    // "WORK of a DEED that a MONK has left; NONE: no such ones"
    private static void left() {
        RuleByLot x = Checks.with(HOUSE);
        for (int m = -1; m < 3; m++) {
            for (int d = -1; d < 3; d++) {
                boolean are = m >= 0 && m < 2 && d >= 0 && d < 2;
                int work = m == 0 && d == 0 ? 1 : m == 1 && d == 1 ? 2 : 0;
                due("left(" + m + ", " + d + ")", x.left(m, d), are ? work : NONE);
            }
        }
        for (int far : FAR) {
            due("left(" + far + ", 0)", x.left(far, 0), NONE);
            due("left(0, " + far + ")", x.left(0, far), NONE);
        }
        due("no MONKS", Checks.with("deed a;").left(0, 0), NONE);
        due("no DEEDS", Checks.with("monk a;").left(0, 0), NONE);
    }

    // "NONE, too, for another what"
    private static void now() {
        RuleByLot x = Checks.with(HOUSE);
        x.fold(1);
        x.does(0, 1);
        x.night();
        x.fold(0);
        int[] want = {NONE, 1, 0, 1, 2, 1, 1, 3, NONE};
        for (int what = -1; what < 8; what++) {
            due("now(" + what + ")", x.now(what), want[what + 1]);
        }
        for (int far : FAR) {
            due("now(" + far + ")", x.now(far), NONE);
        }
        x.night();
        due("all PENANCES", x.now(5), 3);
        due("none HOLDS", x.now(1), NONE);
        x.days(1, 1);
        due("WORK left", x.now(6), x.monk(0, 3) + x.monk(1, 3));
    }

    // "3 the DEED to 'atone' (NONE), 4 'once' (1, 0), 5 bytes of the tape. NONE, too, for another what"
    private static void count() {
        RuleByLot x = Checks.with(HOUSE);
        int[] want = {NONE, 2, 2, 2, 1, 1, 0, NONE};
        for (int what = -1; what < 7; what++) {
            due("count(" + what + ")", x.count(what), want[what + 1]);
        }
        for (int far : FAR) {
            due("count(" + far + ")", x.count(far), NONE);
        }
        RuleByLot y = new RuleByLot();
        int[] none = {0, 0, 0, NONE, 0, 0};
        for (int what = 0; what < 6; what++) {
            due("count(" + what + ") of none", y.count(what), none[what]);
        }
        Checks.house(y, "deed a;atone a;");
        due("the first DEED to atone", y.count(3), 0);
        due("without 'once'", y.count(4), 0);
        Checks.house(y, "once;");
        due("no DEED to atone", y.count(3), NONE);
        due("'once'", y.count(4), 1);
        Checks.put(y, new byte[940]);
        due("a full tape", y.count(5), 940);
    }

    // "A call that throws changes nothing"
    private static void throwsChangeNothing() {
        RuleByLot x = busy();
        Checks.put(x, "once");
        String before = Checks.seenAll(x);
        for (int far : new int[] {Integer.MIN_VALUE, -1, 10, Integer.MAX_VALUE}) {
            Checks.dueNoSuch("chapter", () -> x.chapter(far, 0));
            Checks.dueNoSuch("chapter", () -> x.chapter(0, far));
            Checks.dueNoSuch("monk", () -> x.monk(far, 0));
            Checks.dueNoSuch("monk", () -> x.monk(0, far));
            Checks.dueNoSuch("allowed", () -> x.allowed(far, 0));
            Checks.dueNoSuch("allowed", () -> x.allowed(0, far));
            Checks.dueNoSuch("finish", () -> x.finish(far, 0, 1, 0));
            Checks.dueNoSuch("finish", () -> x.finish(0, far, 1, 0));
            Checks.dueNoSuch("finish", () -> x.finish(0, 0, far, 0));
            Checks.dueNoSuch("finish", () -> x.finish(0, 0, 1, far));
            Checks.dueNoSuch("chance", () -> x.chance(far));
        }
        Checks.dueText("all behind what was thrown", Checks.seenAll(x), before);
        due("what can be undone", x.undo(), 4);
    }

    private static void refusedChangeNothing() {
        Consumer<RuleByLot> refused = x -> {
            due("end", x.end(-1) || x.end(941), false);
            due("left", x.left(5, 5), NONE);
            due("fold", x.fold(9), NONE);
            due("does", x.does(9, 0), NONE);
            due("days", x.days(0, 1) + x.days(31, 1), 2 * NONE);
            due("quarrels", x.quarrels(9), NONE);
            due("most", x.most(0) + x.most(5), 2 * NONE);
            due("waits", x.waits(9), NONE);
            due("odds", x.odds(9, 1, 1, 1) + x.odds(0, 0, 1, 1) + x.odds(0, 1, 31, 1), 3 * NONE);
            due("book", x.book(2), -1000);
            due("image", x.image(-1) || x.image(2), false);
            due("restore", x.restore(-1) || x.restore(2) || x.restore(0) || x.restore(1), false);
        };
        RuleByLot x = busy();
        Checks.put(x, new byte[921]);
        String before = Checks.seenAll(x);
        refused.accept(x);
        due("feed", x.feed(1, 1, 1, 1, 1), NONE);
        due("draw", x.draw(1), -2);
        due("fold", x.fold(0), 1);
        due("does", x.does(0, 1) * 10 + x.does(1, 0), 23);
        Checks.dueText("all behind what was refused as one HOLDS", Checks.seenAll(x), before);
        due("what can be undone", x.undo(), 4);
        RuleByLot y = busy();
        y.night();
        before = Checks.seenAll(y);
        refused.accept(y);
        due("fold", y.fold(0), 2);
        due("does", y.does(0, 0), 1);
        due("night", y.night(), NONE);
        Checks.dueText("all behind what was refused as none HOLDS", Checks.seenAll(y), before);
        due("what can be undone", y.undo(), 5);
        RuleByLot z = Checks.with(HOUSE);
        for (int i = 0; i < 14; i++) {
            z.days(30, i);
        }
        z.undo();
        z.days(30, 1);
        before = Checks.seenAll(z);
        due("draw", z.draw(1), -4);
        due("days", z.days(30, 1), 0);
        due("fold", Math.max(z.fold(0), z.fold(1)), 3);
        Checks.dueText("all behind what was refused on DAY 400", Checks.seenAll(z), before);
        z.undo();
        due("the DAY ahead of the latest days() above 0", z.now(0), 390);
    }

    private static void askingChangesNothing() {
        RuleByLot x = busy();
        Checks.put(x, "once");
        String before = Checks.seenAll(x);
        x.cover();
        x.most(2);
        x.odds(0, 30, 30, 1);
        x.finish(0, 0, 8, 1);
        x.allowed(0, 1);
        x.notice();
        x.image(0);
        Checks.dueText("all behind what was asked alike", Checks.seenAll(x), before);
        x.end(0);
        Checks.book(x, "night;draw 3;", 0);
        Checks.sentence(x, "left > 0");
        Checks.house(x, "deed a;deed a;");
        Checks.put(x, 1, 1);
        x.fair();
        Checks.put(x, 0, 1);
        x.fits();
        Checks.put(x, "once");
        Checks.dueText("all behind what was told alike", Checks.seenAll(x), before);
        due("what can be undone", x.undo(), 4);
    }

    // "kept in place k (0, 1): true; false: no such one"; "false: no such one, or nothing is kept there"
    private static void image() {
        RuleByLot x = Checks.with(HOUSE);
        for (int k : new int[] {Integer.MIN_VALUE, -1, 0, 1, 2, Integer.MAX_VALUE}) {
            due("restore(" + k + ") ahead of any", x.restore(k), false);
        }
        due("image(-1)", x.image(-1), false);
        due("image(2)", x.image(2), false);
        due("restore(0) behind those", x.restore(0), false);
        due("image(1)", x.image(1), true);
        due("restore(0) behind image(1)", x.restore(0), false);
        x.days(3, 3);
        due("restore(1)", x.restore(1), true);
        due("the DAY", x.now(0), 0);
        x.days(2, 3);
        due("image(0)", x.image(0), true);
        x.days(5, 3);
        due("restore(1) again", x.restore(1), true);
        due("the DAY kept in 1", x.now(0), 0);
        due("restore(0)", x.restore(0), true);
        due("the DAY kept in 0", x.now(0), 2);
        x.days(1, 1);
        x.image(0);
        x.days(1, 1);
        x.restore(0);
        due("the DAY kept last", x.now(0), 3);
        due("restore(2)", x.restore(2), false);
        due("restore(-1)", x.restore(-1), false);
    }

    // "HOUSE, all that is so and the SENTENCE are kept"
    private static void imageKeepsAll() {
        RuleByLot x = busy();
        String before = Checks.seen(x);
        x.image(0);
        x.night();
        x.days(5, 5);
        Checks.sentence(x, "not due");
        x.restore(0);
        Checks.dueText("as kept", Checks.seen(x), before);
        Checks.house(x, "deed p;monk q;chapter r 3;");
        x.restore(0);
        Checks.dueText("as kept, behind a new HOUSE", Checks.seen(x), before);
        due("names, too", Checks.book(x, "night;fold e;", 0), NONE);
        RuleByLot y = new RuleByLot();
        y.image(1);
        Checks.house(y, HOUSE);
        Checks.sentence(y, "due");
        y.fold(0);
        y.restore(1);
        Checks.dueText("an empty HOUSE as kept", Checks.seen(y), Checks.seen(new RuleByLot()));
        RuleByLot z = Checks.with(HOUSE);
        z.image(0);
        z.fold(0);
        z.night();
        z.restore(0);
        z.fold(0);
        due("WORK of an image", z.does(0, 0), 0);
        z.restore(0);
        due("what is done behind restore() is not kept", z.left(0, 0), 1);
    }

    // "(the tape, and what other calls told last, stays; nothing can be undone)"
    private static void restoreLeaves() {
        RuleByLot x = Checks.with(HOUSE);
        x.image(1);
        x.fold(0);
        x.most(3);
        x.cover();
        x.notice();
        Checks.put(x, 1, 0);
        x.fair();
        Checks.put(x, 1, 1);
        x.fits();
        Checks.book(x, "night;night;", 0);
        Checks.sentence(x, "done x");
        Checks.put(x, "due");
        String latest = Checks.seenOfLatest(x);
        due("restore", x.restore(1), true);
        Checks.dueText("what other calls told last", Checks.seenOfLatest(x), latest);
        due("the tape stays", x.count(5), 3);
        due("nothing can be undone", x.undo(), NONE);
        due("none HOLDS", x.now(1), NONE);
        due("the tape as it was", x.sentence(), 1);
        x.fold(1);
        due("restore of no place", x.restore(3), false);
        due("what is behind restore can be undone", x.undo(), 0);
    }

    /** 8 DEEDS a to h, 4 MONKS i to l, 10 CHAPTERS m to v; chapter c must d and bars d + 1, d being c % 8. */
    private static String full() {
        StringBuilder text = new StringBuilder();
        for (char d = 'a'; d < 'i'; d++) {
            text.append("deed ").append(d).append(';');
        }
        for (char m = 'i'; m < 'm'; m++) {
            text.append("monk ").append(m).append(';');
        }
        for (int c = 0; c < 10; c++) {
            char name = (char) ('m' + c);
            text.append("chapter ").append(name).append(" 9;");
            text.append("must ").append(name).append(' ').append((char) ('a' + c % 8)).append(';');
            text.append("bars ").append(name).append(' ').append((char) ('a' + (c + 1) % 8)).append(';');
        }
        for (char m = 'i'; m < 'm'; m++) {
            for (char d = 'a'; d < 'i'; d++) {
                text.append("work ").append(m).append(' ').append(d).append(" 20;");
            }
        }
        return text.append("atone h;once;").toString();
    }

    // The most of everything at once: "8 DEEDS, 4 MONKS, 10 CHAPTERS", 9 SLIPS of each, 20 of each WORK.
    private static void fullHouse() {
        RuleByLot x = new RuleByLot();
        due("LINES", Checks.house(x, full()), 76);
        due("counts", x.count(0) * 100 + x.count(1) * 10 + x.count(2), 850);
        int[] want = {0, NONE, 0, 0, 90, 0, 640};
        for (int what = 0; what < 7; what++) {
            due("now(" + what + ")", x.now(what), want[what]);
        }
        for (int m = 0; m < 4; m++) {
            due("of which he has WORK left", x.monk(m, 2), 255);
            due("all WORK that he has left", x.monk(m, 3), 160);
            due("WORK of the last DEED", x.left(m, 7), 20);
            due("WORK of one DEED more", x.left(m, 8), NONE);
        }
        for (int c = 0; c < 10; c++) {
            due("must", x.chapter(c, 2), 1 << c % 8);
            due("bars", x.chapter(c, 3), 1 << (c + 1) % 8);
            due("slips", x.chapter(c, 1), 9);
        }
        due("fold(10)", x.fold(10), NONE);
        due("does(4, 0)", x.does(4, 0), NONE);
        due("does(0, 8)", x.does(0, 8), NONE);
    }

    private static void daysOfFullHouse() {
        RuleByLot x = Checks.with(full());
        due("fold(9)", x.fold(9), 0);
        due("must today", x.now(2), 2);
        due("barred today", x.now(3), 4);
        Checks.dueText("notice", Checks.notice(x), "v holds b");
        due("the last MONK does what must be", x.does(3, 1), 0);
        due("the last MONK does what is barred", x.does(3, 2), 2);
        due("the last MONK does the last DEED", x.does(3, 7), 0);
        due("his WORK", x.left(3, 7) * 1000 + x.monk(3, 3), 19158);
        due("he did today", x.monk(3, 1), 130);
        due("night", x.night(), 3);
        due("all PENANCES", x.now(5), 3);
        due("slips", x.now(4) * 10 + x.chapter(9, 1), 898);
        x.fold(0);
        due("a DAY", x.days(1, 1), 1);
        // Of 8 DEEDS one is barred; the last one atones.
        due("all PENANCES then", x.now(5), 0);
        due("all WORK then", x.now(6), 638 - 4 * 7);
        due("30 DAYS", x.days(30, 4), 30);
        due("slips then", x.now(4), 90 - 32);
        due("all that were drawn", x.ago(15) >= 0, true);
        int drawn = 0;
        for (int c = 0; c < 10; c++) {
            drawn += x.chapter(c, 4);
            due("slips out are those that were drawn", x.chapter(c, 1) + x.chapter(c, 4), 9);
        }
        due("drawn in all", drawn, 32);
        due("undo", x.undo() >= 0 && x.now(6) == 638 - 4 * 7, true);
        due("a BOOK of the last ones", Checks.book(x, "fold v;l does h;l does b;night;", 1), NONE);
        due("a SENTENCE of the last MONK", Checks.sentence(x, "owed l and left > 0 and musts > 0 and not due"), 5);
        due("of all 8", x.said(NONE) * 10 + x.said(7), 87);
    }

    private static void reckonedOfFullHouse() {
        RuleByLot x = Checks.with(full());
        due("free", x.free(), 0);
        due("quarrels(9)", x.quarrels(9), 1 | 1 << 2 | 1 << 8);
        due("quarrels(10)", x.quarrels(10), NONE);
        due("cover", x.cover(), 8);
        due("covering", x.covering(), 255);
        due("allowed above", x.allowed(0, 0) * 100 + x.allowed(0, 1), 910);
        due("allowed(7)", x.allowed(7, 0) * 100 + x.allowed(7, 1), 910);
        due("allowed(1), barred by two", x.allowed(1, 0) * 100 + x.allowed(1, 1), 405);
        due("finish", x.finish(3, 7, 8, 0) * 100 + x.finish(3, 7, 8, 1), 1);
        due("most(4)", x.most(4), 112);
        due("mostAt", x.mostAt(0) + x.mostAt(3), 0);
        due("waits(9)", x.waits(9), 82);
        Checks.put(x, 9, 9, 9, 9, 9, 9, 9, 9);
        due("fair", x.fair(), NONE);
        x.fold(9);
        Checks.put(x, 9, 9, 9, 9, 9, 9, 9, 9);
        due("fair of the rest", x.fair(), NONE);
        Checks.put(x, 7, 1);
        // All but the seventh, which bars the eighth DEED.
        due("fits", x.fits(), 1023 - 64);
        due("odds(3)", x.odds(3, 30, 30, 9) >= 0, true);
        due("odds(4)", x.odds(4, 30, 30, 9), NONE);
        for (int i = 0; i < 8; i++) {
            x.night();
            x.fold(9);
        }
        due("none of it is in the box", x.chapter(9, 1) * 100 + x.now(4), 81);
        due("waits(9) then", x.waits(9), 81 + 81 + 1);
        Checks.put(x, 9);
        due("fair of what is out", x.fair(), 0);
        x.image(0);
        x.days(30, 30);
        x.restore(0);
        due("waits(9) as kept", x.waits(9), 163);
        due("WORK as kept", x.now(6), 640);
    }
}
