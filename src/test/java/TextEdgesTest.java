/**
 * 'Terms': every bound of tokens, houses, books, sentences and faults, at the last that is taken
 * and at the first that is refused. The sentence that each test rests on stands ahead of it.
 */
public final class TextEdgesTest {
    private static final String HOUSE = "deed wash;deed sing;monk otto;chapter pots 1;chapter rest 2;";
    private static final String[] RESERVED = (
            "deed monk chapter must bars work atone once draw fold does night day or and not due barred free done "
            + "owed left musts number").split(" ");

    private TextEdgesTest() {
    }

    public static void main(String[] args) {
        blanks();
        letters();
        digits();
        signs();
        runs();
        lengthsOfWords();
        lengthsOfNumbers();
        names();
        namesToldOnce();
        linesOfHouse();
        slips();
        work();
        rules();
        atoneAndOnce();
        countsOfSorts();
        numbering();
        bytesOfHouse();
        bytesOfBook();
        bytesOfSentence();
        linesOfBook();
        numbersOfBook();
        namesOfBook();
        onesOfSentence();
        onesWithin();
        formOfSentence();
        numbersOfSentence();
        ends();
        firstAlong();
        leastOfToken();
        Checks.finish("TextEdgesTest");
    }

    private static void taken(String text, int lines) {
        Checks.houseTaken(text, lines);
    }

    private static void refused(String text, int place, int kind) {
        Checks.houseRefused(text, place, kind);
    }

    private static void bookTaken(String text) {
        Checks.bookTaken(HOUSE, text);
    }

    private static void bookRefused(String text, int place, int kind) {
        Checks.bookRefused(HOUSE, text, place, kind);
    }

    private static void sentenceTaken(String text, int ones) {
        Checks.sentenceTaken(HOUSE, text, ones);
    }

    private static void sentenceRefused(String text, int place, int kind) {
        Checks.sentenceRefused(HOUSE, text, place, kind);
    }

    private static String blanks(int n) {
        return " ".repeat(n);
    }

    private static boolean isBlank(int b) {
        return b == 32 || b == 10;
    }

    private static boolean isLetter(int b) {
        return b >= 97 && b <= 122;
    }

    private static boolean isDigit(int b) {
        return b >= 48 && b <= 57;
    }

    // "with blanks (32, 10) between them or not"
    private static void blanks() {
        for (int b = 0; b < 256; b++) {
            String text = "deed" + (char) b + "a;";
            if (isBlank(b)) {
                taken(text, 1);
            } else {
                refused(text, isLetter(b) || isDigit(b) ? 0 : 4, 1);
            }
            text = "deed a" + (char) b + ";";
            if (isBlank(b) || isLetter(b)) {
                taken(text, 1);
            } else if (isDigit(b)) {
                refused(text, 5, 1);
            } else {
                refused(text, b == ';' ? 7 : 6, 1);
            }
            text = (char) b + "once;";
            if (isBlank(b)) {
                taken(text, 1);
            } else {
                refused(text, 0, 1);
            }
            text = "once;" + (char) b;
            if (isBlank(b)) {
                taken(text, 1);
            } else {
                refused(text, 5, 1);
            }
        }
        taken("deed a;deed b;", 2);
        taken(" \n deed \n a \n ; \n\n deed b; \n", 2);
        taken("", 0);
        taken(" ", 0);
        taken("\n", 0);
    }

    // "WORDS: small letters"
    private static void letters() {
        for (int b = 0; b < 256; b++) {
            String text = "deed " + (char) b + ";";
            if (isLetter(b)) {
                taken(text, 1);
            } else {
                refused(text, isBlank(b) ? 6 : 5, 1);
            }
        }
    }

    // "NUMBERS: .. digits"
    private static void digits() {
        for (int b = 0; b < 256; b++) {
            String text = "chapter c " + (char) b + ";";
            if (isDigit(b) && b != '0') {
                taken(text, 1);
            } else if (b == '0') {
                refused(text, 10, 2);
            } else {
                refused(text, isBlank(b) ? 11 : 10, 1);
            }
        }
    }

    // "; < = > ( )"
    private static void signs() {
        for (int b = 0; b < 256; b++) {
            boolean inWord = isLetter(b) || isDigit(b);
            String text = "left" + (char) b + "1";
            if (b == '<' || b == '=' || b == '>') {
                sentenceTaken(text, 1);
            } else {
                sentenceRefused(text, inWord ? 0 : isBlank(b) ? 5 : 4, 1);
            }
            text = (char) b + "due)";
            if (b == '(') {
                sentenceTaken(text, 2);
            } else {
                sentenceRefused(text, isBlank(b) ? 4 : 0, 1);
            }
            text = "(due" + (char) b;
            if (b == ')') {
                sentenceTaken(text, 2);
            } else {
                sentenceRefused(text, inWord ? 1 : isBlank(b) ? 5 : 4, 1);
            }
            text = "once" + (char) b;
            if (b == ';') {
                taken(text, 1);
            } else {
                refused(text, inWord ? 0 : isBlank(b) ? 5 : 4, 1);
            }
        }
    }

    // "A WORD, NUMBER goes on as long as small letters and digits do; what is not as told is no TOKEN."
    private static void runs() {
        refused("deed a1;", 5, 1);
        refused("deed 1a;", 5, 1);
        refused("deed a1b;", 5, 1);
        refused("chapter c1;", 8, 1);
        refused("chapter c 1a;", 10, 1);
        refused("chapter c a1;", 10, 1);
        refused("chapterc 1;", 0, 1);
        refused("once1;", 0, 1);
        refused("1once;", 0, 1);
        bookRefused("draw1;", 0, 1);
        bookRefused("draw 1x;", 5, 1);
        bookRefused("draw x1;", 5, 1);
        sentenceRefused("left<1or due", 5, 1);
        sentenceTaken("left<1 or due", 2);
        sentenceTaken("(left<1)or(due)", 4);
        sentenceRefused("notdue", 0, 1);
        sentenceTaken("not(due)", 3);
        refused("deed aB;", 6, 1);
        refused("deed a_b;", 6, 1);
        refused("chapter c 1.5;", 11, 1);
        refused("chapter c -1;", 10, 1);
    }

    // "WORDS: small letters, 1 to 7"
    private static void lengthsOfWords() {
        taken("deed a;", 1);
        taken("deed abcdefg;", 1);
        refused("deed abcdefgh;", 5, 1);
        refused("deed abcdefghijklmnopqrstuvwxyz;", 5, 1);
        taken("monk zzzzzzz;", 1);
        refused("monk zzzzzzzz;", 5, 1);
        taken("chapter abcdefg 1;", 1);
        refused("chapter abcdefgh 1;", 8, 1);
        refused("chapters c 1;", 0, 1);
        // Words that begin alike are not the same.
        taken("deed abcdefg;deed abcdef;deed bcdefg;deed a;", 4);
        refused("deed abcdefg;atone abcdef;", 19, 3);
        refused("deed abcdefg;atone bcdefg;", 19, 3);
        refused("deed abcdefg;atone abcdefgh;", 19, 1);
        refused("deed bcdefgh;atone abcdefgh;", 19, 1);
    }

    // "NUMBERS: 1 to 3 digits"
    private static void lengthsOfNumbers() {
        taken("chapter c 1;", 1);
        taken("chapter c 01;", 1);
        taken("chapter c 001;", 1);
        refused("chapter c 0001;", 10, 1);
        refused("chapter c 000;", 10, 2);
        refused("chapter c 0000;", 10, 1);
        refused("chapter c 999;", 10, 2);
        refused("chapter c 1000;", 10, 1);
        refused("chapter c 4294967297;", 10, 1);
        bookTaken("draw 999;");
        bookRefused("draw 1000;", 5, 1);
        bookTaken("draw 000;");
        bookRefused("draw 0000;", 5, 1);
        sentenceTaken("left<999", 1);
        sentenceRefused("left<1000", 5, 1);
        sentenceTaken("left<000", 1);
        sentenceRefused("left<0000", 5, 1);
    }

    // "NAME: a WORD, none of those told here, in a BOOK or a SENTENCE"
    private static void names() {
        for (String word : RESERVED) {
            refused("deed " + word + ";", 5, 1);
            refused("monk " + word + ";", 5, 1);
            refused("chapter " + word + " 1;", 8, 1);
            refused("atone " + word + ";", 6, 1);
            taken("deed " + word.substring(1) + "x;", 1);
            if (word.length() < 7) {
                taken("monk " + word + "q;", 1);
                taken("monk s" + word + ";", 1);
            }
            if (!word.equals("musts")) {
                taken("chapter " + word.substring(0, word.length() - 1) + " 1;", 1);
            }
        }
        taken("deed holds;deed nobody;deed knows;deed days;deed finish;deed all;deed cond;deed one;", 8);
        refused("deed 1;", 5, 1);
        refused("deed ;;", 5, 1);
        refused("deed (;", 5, 1);
        refused("deed;", 4, 1);
    }

    // "told once"; "3 a NAME told twice, not told, or of another sort"
    private static void namesToldOnce() {
        String[] heads = {"deed ", "monk ", "chapter "};
        String[] tails = {";", ";", " 1;"};
        for (int i = 0; i < 3; i++) {
            for (int k = 0; k < 3; k++) {
                String first = heads[i] + "a" + tails[i];
                refused(first + heads[k] + "a" + tails[k], first.length() + heads[k].length(), 3);
                taken(first + heads[k] + "b" + tails[k], 2);
            }
        }
        refused("atone a;deed a;", 6, 3);
        taken("deed a;atone a;", 2);
        refused("monk a;atone a;", 13, 3);
        refused("chapter a 1;atone a;", 18, 3);
        String sorts = "deed d;monk m;chapter c 1;";
        taken(sorts + "must c d;", 4);
        refused(sorts + "must d d;", 31, 3);
        refused(sorts + "must m d;", 31, 3);
        refused(sorts + "must x d;", 31, 3);
        refused(sorts + "must c c;", 33, 3);
        refused(sorts + "must c m;", 33, 3);
        refused(sorts + "must c x;", 33, 3);
        taken(sorts + "bars c d;", 4);
        refused(sorts + "bars d c;", 31, 3);
        refused(sorts + "bars c x;", 33, 3);
        taken(sorts + "work m d 1;", 4);
        refused(sorts + "work c d 1;", 31, 3);
        refused(sorts + "work d m 1;", 31, 3);
        refused(sorts + "work x d 1;", 31, 3);
        refused(sorts + "work m m 1;", 33, 3);
        refused(sorts + "work m c 1;", 33, 3);
        refused(sorts + "work m x 1;", 33, 3);
        // What is told further on is not told yet.
        refused("chapter c 1;must c d;deed d;", 19, 3);
    }

    // "{ LINE ; }. LINE: 'deed' NAME | .."
    private static void linesOfHouse() {
        refused(";", 0, 1);
        refused("once;;", 5, 1);
        refused("once", 4, 1);
        refused("once once;", 5, 1);
        refused("x;", 0, 1);
        refused("7;", 0, 1);
        for (String word : RESERVED) {
            if ("deed monk chapter must bars work atone once".contains(word)) {
                continue;
            }
            refused("once;" + word + ";", 5, 1);
        }
        refused("deed a b;", 7, 1);
        refused("deed a 1;", 7, 1);
        refused("chapter c;", 9, 1);
        refused("chapter c 1 1;", 12, 1);
        refused("chapter c (1);", 10, 1);
        String sorts = "deed d;monk m;chapter c 1;";
        refused(sorts + "must;", 30, 1);
        refused(sorts + "must c;", 32, 1);
        refused(sorts + "must c 1;", 33, 1);
        refused(sorts + "must 1 d;", 31, 1);
        refused(sorts + "must c d d;", 35, 1);
        refused(sorts + "work m d;", 34, 1);
        refused(sorts + "work m d d;", 35, 1);
        refused(sorts + "work m d 1 1;", 37, 1);
        refused(sorts + "atone;", 31, 1);
        refused(sorts + "atone 1;", 32, 1);
        refused(sorts + "once 1;", 31, 1);
    }

    // "'chapter' NAME SLIPS (1 to 9)"
    private static void slips() {
        for (int n = 0; n <= 11; n++) {
            String text = "chapter c " + n + ";";
            if (n >= 1 && n <= 9) {
                taken(text, 1);
                Checks.due("SLIPS told", Checks.with(text).chapter(0, 0), n);
            } else {
                refused(text, 10, 2);
            }
        }
    }

    // "'work' MONK DEED N (1 to 20; each two once)"
    private static void work() {
        String sorts = "deed d;deed e;monk m;monk n;";
        for (int n = 0; n <= 22; n++) {
            String text = sorts + "work m d " + n + ";";
            if (n >= 1 && n <= 20) {
                taken(text, 5);
                Checks.due("WORK told", Checks.with(text).left(0, 0), n);
            } else {
                refused(text, 37, 2);
            }
        }
        taken(sorts + "work m d 1;work m e 1;work n d 1;work n e 1;", 8);
        refused(sorts + "work m d 1;work m d 2;", 46, 3);
        refused(sorts + "work m d 1;work n e 1;work m d 1;", 57, 3);
        // At the second NAME, whatever stands behind it.
        refused(sorts + "work m d 1;work m d", 46, 3);
        refused(sorts + "work m d 1;work m d 0;", 46, 3);
    }

    // "'must' CHAPTER DEED | 'bars' CHAPTER DEED (each two once, of both sorts together)"
    private static void rules() {
        String sorts = "deed d;deed e;chapter c 1;chapter f 1;";
        taken(sorts + "must c d;bars c e;bars f d;must f e;", 8);
        refused(sorts + "must c d;must c d;", 54, 3);
        refused(sorts + "must c d;bars c d;", 54, 3);
        refused(sorts + "bars c d;must c d;", 54, 3);
        refused(sorts + "bars c d;bars c d;", 54, 3);
        refused(sorts + "bars c d;must f d;bars c e;must c d", 72, 3);
    }

    // "'atone' DEED (once: ..) | 'once' (once: ..)"; "'atone', 'once' told again (at it)"
    private static void atoneAndOnce() {
        taken("deed a;deed b;atone b;once;", 4);
        refused("deed a;deed b;atone b;atone a;", 22, 3);
        refused("deed a;deed b;atone b;atone b;", 22, 3);
        refused("deed a;atone a;atone;", 15, 3);
        refused("deed a;atone a;atone x;", 15, 3);
        refused("once;once;", 5, 3);
        refused("once;deed a;once", 12, 3);
        Checks.due("the first DEED to atone", Checks.with("deed a;deed b;atone a;").count(3), 0);
        Checks.due("the last DEED to atone", Checks.with("deed a;deed b;atone b;").count(3), 1);
    }

    private static String many(String word, int n, String tail) {
        StringBuilder text = new StringBuilder();
        for (int i = 0; i < n; i++) {
            text.append(word).append(' ').append(word.charAt(0)).append((char) ('a' + i)).append(tail).append(';');
        }
        return text.toString();
    }

    // "8 DEEDS, 4 MONKS, 10 CHAPTERS at most"; "4 one more than there may be of a sort (at the LINE's first WORD)"
    private static void countsOfSorts() {
        String deeds = many("deed", 8, "");
        String monks = many("monk", 4, "");
        String chapters = many("chapter", 10, " 1");
        taken(many("deed", 7, ""), 7);
        taken(deeds, 8);
        refused(deeds + "deed x;", deeds.length(), 4);
        taken(monks, 4);
        refused(monks + "monk x;", monks.length(), 4);
        taken(chapters, 10);
        refused(chapters + "chapter x 1;", chapters.length(), 4);
        String all = deeds + monks + chapters;
        taken(all, 22);
        refused(all + "\n deed x;", all.length() + 2, 4);
        refused(all + "monk x;", all.length(), 4);
        refused(all + "chapter x 1;", all.length(), 4);
        // It is at the first word, so what stands behind that does not count.
        refused(deeds + "deed da;", deeds.length(), 4);
        refused(deeds + "deed 1;", deeds.length(), 4);
        refused(monks + "monk", monks.length(), 4);
        refused(chapters + "chapter x 0;", chapters.length(), 4);
        // In a full house, too, what is told is found and what is not told is not.
        taken(chapters + deeds + monks, 22);
        refused(chapters + "deed cj;", chapters.length() + 5, 3);
        refused(chapters + "must x", chapters.length() + 5, 3);
        refused(deeds + "atone x", deeds.length() + 6, 3);
        refused(monks + "work x", monks.length() + 5, 3);
        refused(monks + "chapter md 1;", monks.length() + 8, 3);
        taken(all + "atone dh;must cj dh;bars cj da;work md dh 20;once;", 27);
    }

    // "numbered from 0 each"
    private static void numbering() {
        String all = many("deed", 8, "") + many("monk", 4, "") + many("chapter", 10, " 2");
        RuleByLot x = Checks.with(all + "must ca da;bars cj dh;work ma dh 3;work md da 4;atone dh;");
        Checks.due("must of the first", x.chapter(0, 2), 1);
        Checks.due("bars of the last", x.chapter(9, 3), 128);
        Checks.due("WORK of the first MONK", x.left(0, 7), 3);
        Checks.due("WORK of the last MONK", x.left(3, 0), 4);
        Checks.due("the DEED to atone", x.count(3), 7);
        Checks.due("slips", x.now(4), 20);
    }

    // "A HOUSE is a text of at most 900 bytes"
    private static void bytesOfHouse() {
        taken(blanks(899), 0);
        taken(blanks(900), 0);
        refused(blanks(901), 900, 1);
        refused(blanks(940), 900, 1);
        taken(blanks(895) + "once;", 1);
        refused(blanks(896) + "once;", 900, 1);
        taken("once;" + blanks(895), 1);
        refused("once;" + blanks(896), 900, 1);
        // "TOKENS that begin ahead of it are read whole"
        refused(blanks(899) + "once;", 900, 1);
        refused(blanks(899) + "onces;", 899, 1);
        refused(blanks(900) + "onces;", 900, 1);
        refused(blanks(898) + "chapters c 1;", 898, 1);
        refused(blanks(893) + "deed abcdefgh;", 898, 1);
        refused(blanks(893) + "deed abcdefg;", 900, 1);
        refused(blanks(889) + "chapter c 10;", 899, 2);
        refused(blanks(890) + "chapter c 10;", 900, 1);
        refused(blanks(889) + "chapter c 1;", 900, 1);
        refused(blanks(889) + "chapter c 1000;", 899, 1);
        refused("deed abc;" + blanks(885) + "deed abc;", 899, 3);
        refused("deed abc;" + blanks(886) + "deed abc;", 900, 1);
        refused("deed ab;" + blanks(886) + "deed abc;", 900, 1);
        String deeds = many("deed", 8, "");
        refused(deeds + blanks(899 - deeds.length()) + "deed x;", 899, 4);
        refused(deeds + blanks(900 - deeds.length()) + "deed x;", 900, 1);
        refused("once;" + blanks(894) + "once;", 899, 3);
        refused("once;" + blanks(895) + "once;", 900, 1);
        refused("once;" + blanks(894) + "?" + blanks(20), 899, 1);
        // "if there are more and no FAULT is ahead"
        refused("deed a;deed a;" + blanks(926), 12, 3);
        refused("chapter c 0;" + blanks(928), 10, 2);
        refused(blanks(895) + "deed" + blanks(1), 900, 1);
        refused(blanks(896) + "deed" + blanks(1), 900, 1);
    }

    // "A BOOK is a text of at most 400 bytes"
    private static void bytesOfBook() {
        bookTaken(blanks(400));
        bookRefused(blanks(401), 400, 1);
        bookTaken(blanks(394) + "night;");
        bookRefused(blanks(395) + "night;", 400, 1);
        bookTaken("night;" + blanks(394));
        bookRefused("night;" + blanks(395), 400, 1);
        bookRefused("night;" + blanks(934), 400, 1);
        bookRefused(blanks(399) + "night;", 400, 1);
        bookRefused(blanks(399) + "nightly;", 399, 3);
        bookRefused(blanks(399) + "nightlys;", 399, 1);
        bookRefused(blanks(400) + "nightly;", 400, 1);
        bookRefused(blanks(399) + "otto does wash;", 400, 1);
        bookRefused(blanks(394) + "fold x;", 399, 3);
        bookRefused(blanks(395) + "fold x;", 400, 1);
        bookRefused(blanks(395) + "day 31;", 399, 2);
        bookRefused(blanks(396) + "day 31;", 400, 1);
        bookRefused("night;".repeat(40) + blanks(159) + "night;", 399, 4);
        bookRefused("night;".repeat(40) + blanks(160) + "night;", 400, 1);
        bookRefused("day 0;" + blanks(900), 4, 2);
    }

    // "A SENTENCE is a text of at most 200 bytes"
    private static void bytesOfSentence() {
        sentenceRefused(blanks(199), 199, 1);
        sentenceRefused(blanks(200), 200, 1);
        sentenceRefused(blanks(201), 200, 1);
        sentenceTaken(blanks(197) + "due", 1);
        sentenceRefused(blanks(198) + "due", 200, 1);
        sentenceTaken("due" + blanks(197), 1);
        sentenceRefused("due" + blanks(198), 200, 1);
        sentenceRefused("due" + blanks(937), 200, 1);
        sentenceRefused(blanks(199) + "due", 200, 1);
        sentenceRefused(blanks(199) + "dues", 199, 1);
        sentenceRefused(blanks(200) + "dues", 200, 1);
        sentenceRefused(blanks(194) + "done x", 199, 3);
        sentenceRefused(blanks(194) + "done wash", 199, 3);
        sentenceRefused(blanks(195) + "done wash", 200, 1);
        sentenceRefused(blanks(194) + "left<1000", 199, 1);
        sentenceRefused(blanks(194) + "left<100", 200, 1);
        sentenceTaken(blanks(192) + "left<100", 1);
        sentenceRefused("due or ".repeat(20) + blanks(59) + "due", 199, 4);
        sentenceRefused("due or ".repeat(20) + blanks(60) + "due", 200, 1);
        sentenceRefused("not ".repeat(8) + blanks(167) + "due", 199, 4);
        sentenceRefused("not ".repeat(8) + blanks(168) + "due", 200, 1);
        sentenceRefused("due due" + blanks(900), 4, 1);
    }

    // "{ LINE ; }, 40 at most"; "a 41st LINE of a BOOK (at the LINE's first WORD)"
    private static void linesOfBook() {
        RuleByLot x = Checks.with(HOUSE);
        Checks.due("a BOOK of none", Checks.book(x, "", 0), -1);
        Checks.due("LINES of none", x.told(1), 0);
        Checks.due("a BOOK of 39", Checks.book(x, "draw 1;night;".repeat(19) + "draw 1;", 0), -1);
        Checks.due("39 LINES", x.told(1), 39);
        Checks.due("a BOOK of 40", Checks.book(x, "draw 1;night;".repeat(20), 0), -1);
        Checks.due("40 LINES", x.told(1), 40);
        Checks.due("a BOOK of 41", Checks.book(x, "draw 1;night;".repeat(20) + "draw 1;", 0), -2 - 260);
        Checks.due("its fault", x.fault(), 4);
        Checks.due("told of the one ahead", x.told(1), 40);
        String forty = "night;".repeat(40);
        bookTaken(forty + " \n");
        String[] more = {"draw 1;", "fold pots;", "otto does wash;", "night;", "day 1;", "draw", "fold 1", "otto", "day 0;"};
        for (String line : more) {
            bookRefused(forty + line, 240, 4);
            bookRefused(forty + "\n" + line, 241, 4);
        }
    }

    // "'draw' SEED (0 to 999) | .. | 'day' N (1 to 30: its seed, too)"
    private static void numbersOfBook() {
        for (int n : new int[] {0, 1, 29, 30, 31, 998, 999}) {
            bookTaken("draw " + n + ";");
            if (n >= 1 && n <= 30) {
                bookTaken("day " + n + ";");
            } else {
                bookRefused("day " + n + ";", 4, 2);
            }
        }
        bookRefused("draw 1000;", 5, 1);
        bookRefused("day 1000;", 4, 1);
        bookTaken("day 030;");
        bookRefused("day 0030;", 4, 1);
    }

    // "'fold' CHAPTER | MONK 'does' DEED | 'night'"
    private static void namesOfBook() {
        bookTaken("fold pots;fold rest;otto does wash;otto does sing;night;");
        bookRefused("fold otto;", 5, 3);
        bookRefused("fold wash;", 5, 3);
        bookRefused("fold x;", 5, 3);
        bookRefused("fold 1;", 5, 1);
        bookRefused("fold;", 4, 1);
        bookRefused("fold pots pots;", 10, 1);
        bookRefused("pots does wash;", 0, 3);
        bookRefused("wash does wash;", 0, 3);
        bookRefused("x does wash;", 0, 3);
        bookRefused("x;", 0, 3);
        bookRefused("otto does otto;", 10, 3);
        bookRefused("otto does pots;", 10, 3);
        bookRefused("otto does x;", 10, 3);
        bookRefused("otto does 1;", 10, 1);
        bookRefused("otto does does;", 10, 1);
        bookRefused("otto does;", 9, 1);
        bookRefused("otto wash;", 5, 1);
        bookRefused("otto otto does wash;", 5, 1);
        bookRefused("otto;", 4, 1);
        bookRefused("night night;", 6, 1);
        bookRefused("draw;", 4, 1);
        bookRefused("draw 1 1;", 7, 1);
        bookRefused("day;", 3, 1);
        for (String word : RESERVED) {
            if ("draw fold night day".contains(word)) {
                continue;
            }
            bookRefused(word + ";", 0, 1);
            bookRefused("fold " + word + ";", 5, 1);
            bookRefused("otto does " + word + ";", 10, 1);
        }
        RuleByLot x = new RuleByLot();
        Checks.due("a BOOK ahead of any HOUSE", Checks.book(x, "otto does wash;", 0), -2);
        Checks.due("its fault", x.fault(), 3);
        Checks.due("'fold' ahead of any HOUSE", Checks.book(x, "fold pots;", 0), -2 - 5);
        Checks.due("its fault", x.fault(), 3);
    }

    // "20 ONES"; "a 21st ONE (at its first TOKEN)"; "each not, bracket and other one"
    private static void onesOfSentence() {
        sentenceTaken("due" + " or due".repeat(18), 19);
        sentenceTaken("due" + " or due".repeat(19), 20);
        sentenceRefused("due" + " or due".repeat(20), 140, 4);
        sentenceTaken("due" + " and due".repeat(19), 20);
        sentenceRefused("due" + " and due".repeat(20), 160, 4);
        sentenceTaken("not due" + " or not due".repeat(9), 20);
        sentenceRefused("not due" + " or not due".repeat(9) + " or due", 110, 4);
        sentenceTaken("not due" + " or not due".repeat(8) + " or not due", 20);
        sentenceRefused("due" + " or due".repeat(18) + " or not due", 140 - 7 + 4, 4);
        sentenceTaken("(due)" + "or(due)".repeat(9), 20);
        sentenceRefused("due or (due)" + "or(due)".repeat(9), 8 + 7 * 9, 4);
        sentenceTaken("due or ".repeat(18) + "(due)", 20);
        sentenceRefused("due or ".repeat(19) + "(due)", 134, 4);
        sentenceTaken("left<1 " + "or left<1 ".repeat(16) + "or done otto or owed otto or free", 20);
        sentenceRefused("due or ".repeat(20) + "left<1", 140, 4);
        sentenceRefused("due or ".repeat(20) + "done x", 140, 4);
    }

    // "8 within one another"; "a ninth within (at its first TOKEN)"
    private static void onesWithin() {
        sentenceTaken("not ".repeat(6) + "due", 7);
        sentenceTaken("not ".repeat(7) + "due", 8);
        sentenceRefused("not ".repeat(8) + "due", 32, 4);
        sentenceRefused("not ".repeat(8) + "left<1", 32, 4);
        sentenceRefused("not ".repeat(9) + "due", 32, 4);
        sentenceTaken("(((((((due)))))))", 8);
        sentenceRefused("((((((((due))))))))", 8, 4);
        sentenceRefused("(((((((( due))))))))", 9, 4);
        sentenceRefused("(((((((((due)))))))))", 8, 4);
        sentenceTaken("not(not(not(not due)))", 8);
        sentenceRefused("not(not(not(not(due))))", 16, 4);
        sentenceRefused("(not(not(not(not due))))", 17, 4);
        // Behind a bracket or a 'not' one is no deeper than ahead of it.
        sentenceTaken("(((((((due)))))))or(((((((due)))))))", 16);
        sentenceTaken("not not not not not not not due and due", 9);
        sentenceTaken("((((((due or due)or due)or due)or due)or due)or due)or due", 14);
        sentenceTaken("(((((((due or due or due and due)))))))", 11);
        sentenceRefused("(((((((due or not due)))))))", 18, 4);
        sentenceRefused("(((((((due)))))))or((((((((due))))))))", 27, 4);
    }

    // "COND: ALL { 'or' ALL }. ALL: ONE { 'and' ONE }. ONE: .."
    private static void formOfSentence() {
        sentenceRefused("", 0, 1);
        sentenceRefused("()", 1, 1);
        sentenceRefused("(due", 4, 1);
        sentenceRefused("due)", 3, 1);
        sentenceRefused("((due)", 6, 1);
        sentenceRefused("(due))", 5, 1);
        sentenceRefused("not", 3, 1);
        sentenceRefused("not or", 4, 1);
        sentenceRefused("due or", 6, 1);
        sentenceRefused("due and", 7, 1);
        sentenceRefused("or", 0, 1);
        sentenceRefused("and due", 0, 1);
        sentenceRefused("due not due", 4, 1);
        sentenceRefused("due (due)", 4, 1);
        sentenceRefused("(due) due", 6, 1);
        sentenceRefused("due;", 3, 1);
        sentenceRefused("due 1", 4, 1);
        sentenceRefused("due otto", 4, 1);
        sentenceRefused("done", 4, 1);
        sentenceRefused("done or due", 5, 1);
        sentenceRefused("done wash", 5, 3);
        sentenceRefused("done pots", 5, 3);
        sentenceRefused("done x", 5, 3);
        sentenceRefused("done 1", 5, 1);
        sentenceRefused("owed", 4, 1);
        sentenceRefused("owed sing", 5, 3);
        sentenceRefused("owed rest", 5, 3);
        sentenceRefused("owed x", 5, 3);
        sentenceRefused("owed (otto)", 5, 1);
        sentenceTaken("done otto or owed otto", 2);
        for (String word : RESERVED) {
            if (!"not due barred free done owed left musts number".contains(word)) {
                sentenceRefused(word, 0, 1);
                sentenceRefused("due and " + word, 8, 1);
            }
        }
        sentenceRefused("wash", 0, 1);
        sentenceRefused("otto", 0, 1);
        sentenceRefused("x", 0, 1);
        sentenceRefused("1", 0, 1);
        sentenceTaken("due or barred and free", 3);
    }

    // "( 'left' | 'musts' | 'number' ) SIGN NUMBER .. SIGN: < = >"
    private static void numbersOfSentence() {
        for (String word : new String[] {"left", "musts", "number"}) {
            int n = word.length();
            for (String sign : new String[] {"<", "=", ">"}) {
                sentenceTaken(word + sign + "0", 1);
                sentenceTaken(word + " " + sign + "\n999", 1);
                sentenceRefused(word + sign + "1000", n + 1, 1);
                sentenceRefused(word + sign, n + 1, 1);
                sentenceRefused(word + sign + "x", n + 1, 1);
                sentenceRefused(word + sign + sign + "1", n + 1, 1);
                sentenceRefused(word + sign + "1 1", n + 3, 1);
            }
            sentenceRefused(word, n, 1);
            sentenceRefused(word + " 1", n + 1, 1);
            sentenceRefused(word + " or due", n + 1, 1);
            sentenceRefused(word + ";1", n, 1);
        }
    }

    // "the end: how many bytes there are"
    private static void ends() {
        String[] begun = {"deed", "deed a", "chapter c", "chapter c 1", "must", "once", "atone"};
        for (String text : begun) {
            refused(text, text.length(), 1);
            refused(text + " \n ", text.length() + 3, 1);
            refused("\n" + text, text.length() + 1, 1);
        }
        String[] lines = {"draw", "draw 1", "fold", "fold pots", "otto", "otto does", "otto does wash", "night", "day", "day 3"};
        for (String text : lines) {
            bookRefused(text, text.length(), 1);
            bookRefused("night;" + text + "\n\n", text.length() + 8, 1);
        }
        String[] ones = {"not", "(", "(due", "due or", "due and", "done", "owed", "left", "left<", "musts >"};
        for (String text : ones) {
            sentenceRefused(text, text.length(), 1);
            sentenceRefused(text + "  ", text.length() + 2, 1);
        }
        // At the very most bytes the end is there, too.
        refused(blanks(896) + "deed", 900, 1);
        bookRefused(blanks(395) + "night", 400, 1);
        sentenceRefused(blanks(197) + "not", 200, 1);
    }

    // "FAULTS, the first along the text"
    private static void firstAlong() {
        refused("deed a;deed a;chapter c 0;?", 12, 3);
        refused("chapter c 0;deed a;deed a;?", 10, 2);
        refused("deed a;?deed a;chapter c 0;", 7, 1);
        refused("once;once;" + many("deed", 9, ""), 5, 3);
        refused(many("deed", 9, "") + "once;once;", 64, 4);
        refused("deed a;monk m;work m a 21;work m a 1;", 23, 2);
        refused("deed a;monk m;work x y 21;", 19, 3);
        bookRefused("day 0;fold x;", 4, 2);
        bookRefused("fold x;day 0;", 5, 3);
        bookRefused("?fold x;day 0;", 0, 1);
        bookRefused("night;".repeat(40) + "fold x;", 240, 4);
        sentenceRefused("done x or ?", 5, 3);
        sentenceRefused("? or done x", 0, 1);
        sentenceRefused("not ".repeat(8) + "done x", 32, 4);
    }

    // "of one TOKEN the least"
    private static void leastOfToken() {
        String forty = "night;".repeat(40);
        bookRefused(forty + "x does wash;", 240, 3);
        bookRefused(forty + "wash;", 240, 3);
        bookRefused(forty + "does;", 240, 1);
        bookRefused(forty + "?", 240, 1);
        bookRefused(forty + ";", 240, 1);
        bookRefused(forty + "1", 240, 1);
        bookRefused(forty + "abcdefgh", 240, 1);
        String twenty = "due or ".repeat(20);
        sentenceRefused(twenty, 140, 1);
        sentenceRefused(twenty + "or", 140, 1);
        sentenceRefused(twenty + ")", 140, 1);
        sentenceRefused(twenty + "otto", 140, 1);
        sentenceRefused(twenty + "7", 140, 1);
        sentenceRefused(twenty + "abcdefgh", 140, 1);
        String eight = "not ".repeat(8);
        sentenceRefused(eight, 32, 1);
        sentenceRefused(eight + "and", 32, 1);
        sentenceRefused(eight + ")", 32, 1);
        sentenceRefused(eight + "otto", 32, 1);
        // A reserved word is no NAME, so it is no wrong one.
        refused("deed a;chapter c 1;must deed a;", 24, 1);
        refused("deed a;chapter c 1;must c night;", 26, 1);
        sentenceRefused("done due", 5, 1);
    }
}
