import java.util.ArrayList;
import java.util.List;
import java.util.Random;

/** Long runs of calls drawn by lot (the same each time), put to the class and to the model alike. */
public final class ModelTest {
    private static final int RUNS = 1500;
    private static final int CALLS = 512;
    // No step of a run makes more calls than this, so that no object is used for more than it may be.
    private static final int LONGEST_STEP = 150;
    private static final String[] NAMES = {
        "sleep", "wash", "sing", "pray", "cook", "dig", "read", "copy", "fast", "otto", "hugo", "bruno",
        "anselm", "emil", "pots", "rest", "songs", "quiet", "fields", "bread", "ink", "bells", "feasts",
        "guests", "alms", "a", "b", "abcdefg", "zzzzzzz"};
    private static final String[] WORDS = (
        "deed monk chapter must bars work atone once draw fold does night day or and not due barred free done "
        + "owed left musts number ; ; < = > ( ) . 0 1 2 9 10 20 21 30 31 999 1000 abcdefgh a1 1a A ").split(" ");

    private final Random lot;
    private final int run;
    private final RuleByLot x = new RuleByLot();
    private final Model y = new Model();
    private final List<String> calls = new ArrayList<>();
    private boolean same = true;
    // Where no days go by of themselves, work stays long enough to ask how likely it ends.
    private boolean idle;
    private int made;
    private List<String> deeds = new ArrayList<>();
    private List<String> monks = new ArrayList<>();
    private List<String> chapters = new ArrayList<>();

    private ModelTest(int run) {
        this.run = run;
        lot = new Random(run);
    }

    public static void main(String[] args) {
        int runs = args.length > 0 ? Integer.parseInt(args[0]) : RUNS;
        int from = args.length > 1 ? Integer.parseInt(args[1]) : 0;
        int unlike = 0;
        for (int run = from; run < from + runs && unlike < 3; run++) {
            ModelTest test = new ModelTest(run);
            test.go();
            unlike += test.same ? 0 : 1;
            Checks.due("run " + run + " like the model", test.same, true);
        }
        Checks.finish("ModelTest");
    }

    private void go() {
        boolean tame = lot.nextInt(3) > 0;
        idle = lot.nextInt(3) == 0;
        tellHouse(tame);
        if (!idle && lot.nextInt(3) == 0) {
            // Near the last day, where days, draws and folds come to their end.
            for (int i = 0; i < 13; i++) {
                int seed = lot.nextInt();
                ask("days(30, " + seed + ")", () -> x.days(30, seed), () -> y.days(30, seed));
            }
        }
        while (made < CALLS - LONGEST_STEP && same) {
            step(tame);
        }
    }

    private void ask(String call, Checks.Call mine, Checks.Call models) {
        if (!same) {
            return;
        }
        made++;
        long got = Checks.answerOf(mine);
        long want = Checks.answerOf(models);
        calls.add(call + " -> " + want);
        if (got != want) {
            same = false;
            System.out.println("run " + run + ": " + call + " answered " + got + ", the model " + want);
            for (int i = Math.max(0, calls.size() - 12); i < calls.size(); i++) {
                System.out.println("    " + calls.get(i));
            }
        }
    }

    /** Mostly from 0 to n - 1, now and then beside it. */
    private int index(int n) {
        return within(0, n - 1);
    }

    private int within(int least, int most) {
        boolean beside = most < least || lot.nextInt(12) == 0;
        return beside ? least - 1 + lot.nextInt(Math.max(0, most - least) + 3) : least + lot.nextInt(most - least + 1);
    }

    private String oneOf(List<String> names) {
        return names.isEmpty() || lot.nextInt(60) == 0 ? NAMES[lot.nextInt(NAMES.length)] : names.get(lot.nextInt(names.size()));
    }

    private void feed(String text) {
        ask("count(5)", () -> x.count(5), () -> y.count(5));
        int before = y.count(5);
        for (int i = 0; i < text.length(); i += 20) {
            int[] n = new int[5];
            for (int j = 0; j < 20; j++) {
                n[j / 4] = n[j / 4] << 8 | (i + j < text.length() ? text.charAt(i + j) : 0);
            }
            ask("feed", () -> x.feed(n[0], n[1], n[2], n[3], n[4]), () -> y.feed(n[0], n[1], n[2], n[3], n[4]));
        }
        int end = before + text.length();
        ask("end(" + end + ")", () -> x.end(end) ? 1 : 0, () -> y.end(end) ? 1 : 0);
        calls.add("tape: " + text);
    }

    private String blanks() {
        int n = lot.nextInt(12);
        return n == 0 ? "  " : n == 1 ? "\n" : n == 2 ? " \n " : "";
    }

    private String join(List<String> tokens) {
        StringBuilder text = new StringBuilder(blanks());
        String last = ";";
        for (String token : tokens) {
            boolean glue = Character.isLetterOrDigit(last.charAt(0)) && Character.isLetterOrDigit(token.charAt(0));
            text.append(glue ? " " : "").append(token).append(blanks());
            last = token;
        }
        return text.toString();
    }

    private String spoil(List<String> tokens, int most) {
        int ways = lot.nextInt(4);
        for (int i = 0; i < ways && !tokens.isEmpty(); i++) {
            int at = lot.nextInt(tokens.size());
            String other = lot.nextBoolean() ? WORDS[lot.nextInt(WORDS.length)] : tokens.get(lot.nextInt(tokens.size()));
            switch (lot.nextInt(4)) {
                case 0: tokens.remove(at); break;
                case 1: tokens.add(at, other); break;
                case 2: tokens.set(at, other); break;
                default: tokens.subList(at, tokens.size()).clear(); break;
            }
        }
        StringBuilder text = new StringBuilder(join(tokens));
        if (lot.nextInt(5) == 0 && text.length() > 0) {
            text.setCharAt(lot.nextInt(text.length()), (char) lot.nextInt(256));
        }
        if (lot.nextInt(6) == 0) {
            int at = lot.nextInt(text.length() + 1);
            while (text.length() < most - 3 + lot.nextInt(8)) {
                text.insert(at, ' ');
            }
        }
        return text.length() > 940 ? text.substring(0, 940) : text.toString();
    }

    private static void line(List<String> tokens, String... more) {
        for (String token : more) {
            tokens.add(token);
        }
        tokens.add(";");
    }

    private List<String> names(List<String> from, int most) {
        int n = lot.nextInt(4) == 0 ? most : lot.nextInt(9) == 0 ? 0 : 1 + lot.nextInt(most);
        List<String> some = new ArrayList<>();
        for (int i = 0; i < n && !from.isEmpty(); i++) {
            some.add(from.remove(lot.nextInt(from.size())));
        }
        return some;
    }

    private void tellHouse(boolean tame) {
        List<String> from = new ArrayList<>(List.of(NAMES));
        deeds = names(from, lot.nextInt(40) == 0 ? 9 : 8);
        monks = names(from, lot.nextInt(40) == 0 ? 5 : 4);
        chapters = names(from, lot.nextInt(40) == 0 ? 11 : lot.nextBoolean() ? 10 : 3);
        List<String> tokens = new ArrayList<>();
        for (String d : deeds) {
            line(tokens, "deed", d);
        }
        for (String m : monks) {
            line(tokens, "monk", m);
        }
        int most = lot.nextBoolean() ? 9 : 2;
        for (String c : chapters) {
            line(tokens, "chapter", c, "" + (1 + lot.nextInt(most)));
        }
        int dense = 2 + lot.nextInt(8);
        for (String c : chapters) {
            for (String d : deeds) {
                int n = lot.nextInt(dense);
                if (n < 2 && tokens.size() < 190) {
                    line(tokens, n == 0 ? "must" : "bars", c, d);
                }
            }
        }
        for (String m : monks) {
            for (String d : deeds) {
                if (lot.nextInt(3) == 0 && tokens.size() < 220) {
                    line(tokens, "work", m, d, "" + (1 + lot.nextInt(lot.nextBoolean() ? 20 : 4)));
                }
            }
        }
        if (!deeds.isEmpty() && lot.nextInt(3) > 0) {
            line(tokens, "atone", deeds.get(lot.nextInt(deeds.size())));
        }
        if (lot.nextInt(3) > 0) {
            line(tokens, "once");
        }
        String text = !tame && lot.nextInt(3) > 0 ? spoil(tokens, 900) : join(tokens);
        feed(text.length() > 940 ? text.substring(0, 940) : text);
        ask("house()", x::house, y::house);
        ask("fault()", x::fault, y::fault);
    }

    private void tellBook(boolean tame) {
        List<String> tokens = new ArrayList<>();
        int lines = lot.nextInt(10) == 0 ? 38 + lot.nextInt(5) : lot.nextInt(12);
        for (int i = 0; i < lines; i++) {
            switch (lot.nextInt(5)) {
                case 0: line(tokens, "draw", "" + lot.nextInt(1000)); break;
                case 1: line(tokens, "fold", oneOf(chapters)); break;
                case 2: line(tokens, oneOf(monks), "does", oneOf(deeds)); break;
                case 3: line(tokens, "night"); break;
                default: line(tokens, "day", "" + (lot.nextInt(9) == 0 ? lot.nextInt(32) : 1 + lot.nextInt(3))); break;
            }
        }
        feed(tame && lot.nextInt(4) > 0 ? join(tokens) : spoil(tokens, 400));
        int lives = lot.nextInt(12) == 0 ? lot.nextInt(5) - 2 : lot.nextInt(2);
        ask("book(" + lives + ")", () -> x.book(lives), () -> y.book(lives));
        ask("fault()", x::fault, y::fault);
        for (int what = -1; what < 5; what++) {
            int w = what;
            ask("told(" + w + ")", () -> x.told(w), () -> y.told(w));
        }
        if (lives < 0 || lives > 1) {
            ask("end(0)", () -> x.end(0) ? 1 : 0, () -> y.end(0) ? 1 : 0);
        }
    }

    private void one(List<String> tokens, int depth) {
        int n = lot.nextInt(depth > 9 ? 8 : 10);
        switch (n) {
            case 0: tokens.add("due"); break;
            case 1: tokens.add("barred"); break;
            case 2: tokens.add("free"); break;
            case 3: tokens.add("done"); tokens.add(oneOf(monks)); break;
            case 4: tokens.add("owed"); tokens.add(oneOf(monks)); break;
            case 5:
            case 6:
            case 7:
                tokens.add(n == 5 ? "left" : n == 6 ? "musts" : "number");
                tokens.add(lot.nextInt(3) == 0 ? "<" : lot.nextBoolean() ? "=" : ">");
                tokens.add("" + (lot.nextInt(9) == 0 ? lot.nextInt(1000) : lot.nextInt(8)));
                break;
            case 8: tokens.add("not"); one(tokens, depth + 1); break;
            default:
                tokens.add("(");
                condition(tokens, depth + 1);
                tokens.add(")");
                break;
        }
    }

    private void condition(List<String> tokens, int depth) {
        one(tokens, depth);
        for (int i = 0; i < 6 && lot.nextInt(3) == 0 && tokens.size() < 50; i++) {
            tokens.add(lot.nextBoolean() ? "or" : "and");
            one(tokens, depth);
        }
    }

    private void tellSentence(boolean tame) {
        List<String> tokens = new ArrayList<>();
        int deep = lot.nextInt(6) == 0 ? 5 + lot.nextInt(5) : 0;
        for (int i = 0; i < deep; i++) {
            tokens.add(lot.nextBoolean() ? "(" : "not");
        }
        List<String> opened = new ArrayList<>(tokens);
        condition(tokens, 1 + deep);
        for (String token : opened) {
            if (token.equals("(")) {
                tokens.add(")");
            }
        }
        for (int i = lot.nextInt(8) == 0 ? 14 + lot.nextInt(8) : 0; i > 0; i--) {
            tokens.add(lot.nextBoolean() ? "or" : "and");
            tokens.add(lot.nextBoolean() ? "due" : "free");
        }
        feed(tame && lot.nextInt(4) > 0 ? join(tokens) : spoil(tokens, 200));
        ask("sentence()", x::sentence, y::sentence);
        ask("fault()", x::fault, y::fault);
        tellSaid();
    }

    private void tellSaid() {
        for (int k = -2; k < 9; k += 1 + lot.nextInt(3)) {
            int i = k;
            ask("said(" + i + ")", () -> x.said(i), () -> y.said(i));
        }
        ask("said(-1)", () -> x.said(-1), () -> y.said(-1));
    }

    private void tellBytes(boolean pairs) {
        StringBuilder text = new StringBuilder();
        int n = lot.nextInt(10) == 0 ? lot.nextInt(20) : 1 + lot.nextInt(4);
        int range = pairs ? Math.max(1, deeds.size()) : Math.max(1, chapters.size());
        for (int i = 0; i < n; i++) {
            text.append((char) (lot.nextInt(40) == 0 ? lot.nextInt(256) : lot.nextInt(range)));
            if (pairs && lot.nextInt(40) > 0) {
                text.append((char) (lot.nextInt(40) == 0 ? 2 : lot.nextInt(2)));
            }
        }
        feed(text.toString());
        if (pairs) {
            ask("fits()", x::fits, y::fits);
            ask("watch()", x::watch, y::watch);
        } else {
            ask("fair()", x::fair, y::fair);
            int what = within(0, 1);
            ask("chance(" + what + ")", () -> x.chance(what), () -> y.chance(what));
        }
    }

    private void lookAll() {
        for (int i = -1; i < 8; i++) {
            int what = i;
            ask("now(" + what + ")", () -> x.now(what), () -> y.now(what));
            ask("count(" + what + ")", () -> x.count(what), () -> y.count(what));
        }
        for (int i = 0; i < 12; i++) {
            int c = index(chapters.size());
            int what = within(0, 4);
            ask("chapter(" + c + ", " + what + ")", () -> x.chapter(c, what), () -> y.chapter(c, what));
            int m = index(monks.size());
            int d = index(deeds.size());
            ask("monk(" + m + ", " + what + ")", () -> x.monk(m, what), () -> y.monk(m, what));
            ask("left(" + m + ", " + d + ")", () -> x.left(m, d), () -> y.left(m, d));
            int k = within(0, 15);
            ask("ago(" + k + ")", () -> x.ago(k), () -> y.ago(k));
        }
        ask("notice()", x::notice, y::notice);
        for (int i = 0; i < 6; i++) {
            int at = index(20 + lot.nextInt(60));
            ask("byteAt(" + at + ")", () -> x.byteAt(at), () -> y.byteAt(at));
        }
    }

    private void reckon() {
        int c = index(chapters.size());
        int d = index(deeds.size());
        int m = index(monks.size());
        int what = within(0, 1);
        int k = within(1, 8);
        int seed = lot.nextInt();
        int days = within(1, 30);
        int seeds = within(1, 30);
        int few = within(1, 4);
        switch (lot.nextInt(10)) {
            case 0: ask("free()", x::free, y::free); break;
            case 1: ask("quarrels(" + c + ")", () -> x.quarrels(c), () -> y.quarrels(c)); break;
            case 2:
                ask("cover()", x::cover, y::cover);
                ask("covering()", x::covering, y::covering);
                break;
            case 3: ask("allowed(" + d + ", " + what + ")", () -> x.allowed(d, what), () -> y.allowed(d, what)); break;
            case 4:
            case 8:
                ask("finish(" + m + ", " + d + ", " + k + ", " + what + ")",
                        () -> x.finish(m, d, k, what), () -> y.finish(m, d, k, what));
                break;
            case 5:
                ask("most(" + few + ")", () -> x.most(few), () -> y.most(few));
                for (int i = -1; i < 5; i++) {
                    int at = i;
                    ask("mostAt(" + at + ")", () -> x.mostAt(at), () -> y.mostAt(at));
                }
                break;
            case 6: ask("waits(" + c + ")", () -> x.waits(c), () -> y.waits(c)); break;
            default:
                ask("odds(" + m + ", " + days + ", " + seeds + ", " + seed + ")",
                        () -> x.odds(m, days, seeds, seed), () -> y.odds(m, days, seeds, seed));
                break;
        }
    }

    private void act() {
        int c = index(chapters.size());
        int d = index(deeds.size());
        int m = index(monks.size());
        int seed = lot.nextBoolean() ? lot.nextInt(10) : lot.nextInt();
        switch (lot.nextInt(idle ? 8 : 11)) {
            case 0:
            case 1: ask("draw(" + seed + ")", () -> x.draw(seed), () -> y.draw(seed)); break;
            case 2: ask("fold(" + c + ")", () -> x.fold(c), () -> y.fold(c)); break;
            case 3:
            case 4:
            case 5: ask("does(" + m + ", " + d + ")", () -> x.does(m, d), () -> y.does(m, d)); break;
            case 6:
            case 7: ask("night()", x::night, y::night); break;
            case 8: {
                int n = lot.nextInt(6) == 0 ? within(1, 30) : lot.nextInt(4) == 0 ? 30 : 1 + lot.nextInt(3);
                ask("days(" + n + ", " + seed + ")", () -> x.days(n, seed), () -> y.days(n, seed));
                break;
            }
            default:
                for (int i = lot.nextInt(12) == 0 ? 10 : 1; i > 0; i--) {
                    ask("undo()", x::undo, y::undo);
                }
                break;
        }
    }

    private void step(boolean tame) {
        int n = lot.nextInt(100);
        if (n < 50) {
            act();
        } else if (n < 72) {
            reckon();
        } else if (n < 75) {
            lookAll();
        } else if (n < 80) {
            tellBook(tame);
        } else if (n < 84) {
            tellSentence(tame);
        } else if (n < 88) {
            tellSaid();
        } else if (n < 93) {
            tellBytes(lot.nextBoolean());
        } else if (n < 95) {
            int k = within(0, 1);
            ask("image(" + k + ")", () -> x.image(k) ? 1 : 0, () -> y.image(k) ? 1 : 0);
        } else if (n < 97) {
            int k = within(0, 1);
            ask("restore(" + k + ")", () -> x.restore(k) ? 1 : 0, () -> y.restore(k) ? 1 : 0);
        } else if (n == 97 || idle) {
            tellHouse(tame);
        } else {
            ask("days(30, 1)", () -> x.days(30, 1), () -> y.days(30, 1));
        }
    }
}
