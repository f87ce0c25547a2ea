public final class HowToUse {
    private HowToUse() {
    }

    public static void main(String[] args) {
        RuleByLot x = new RuleByLot();

        // A text is fed to the tape, and house() takes it from there.
        tell(x, "deed wash; deed pray; monk otto; chapter pots 2; chapter bells 1;"
                + "must pots wash; bars bells wash; work otto wash 3; atone pray; once;");
        int lines = x.house();
        System.out.println(lines >= 0 ? lines + " lines" : "fault " + x.fault() + " at byte " + (-1 - lines));

        // A day call by call: a chapter is drawn, otto (monk 0) washes (deed 0), night comes.
        System.out.println("chapter " + x.draw(7) + " holds");
        System.out.println("otto washes: " + x.does(0, 0) + ", once more: " + x.does(0, 0));
        System.out.println("penances more: " + x.night());

        // Days that go by of themselves, and the latest act undone.
        System.out.println("days gone by: " + x.days(1, 7) + ", now it is day " + x.now(0));
        System.out.println("acts that can still be undone: " + x.undo() + ", now it is day " + x.now(0));

        // Questions.
        System.out.println("washing left: " + x.left(0, 0));
        System.out.println("finished in 3 days: " + x.finish(0, 0, 3, 0) + " of " + x.finish(0, 0, 3, 1));
        tell(x, "owed otto and not free");
        System.out.println("ones: " + x.sentence() + ", deeds of which it may be said: " + x.said(RuleByLot.NONE));

        // Where there is nothing such, the answer is NONE or, where the document says so, an exception.
        System.out.println("work of a second monk: " + x.left(1, 0));
        try {
            x.monk(1, 0);
        } catch (java.util.NoSuchElementException e) {
            System.out.println("there is no second monk");
        }
    }

    /** Puts a text behind the tape: twenty bytes a call, then what is too much is cut off. */
    static void tell(RuleByLot x, String text) {
        int length = x.count(5) + text.length();
        for (int i = 0; i < text.length(); i += 20) {
            x.feed(four(text, i), four(text, i + 4), four(text, i + 8), four(text, i + 12), four(text, i + 16));
        }
        x.end(length);
    }

    /** Four bytes as one number, the first one highest; behind the text there are zeros. */
    private static int four(String text, int from) {
        int number = 0;
        for (int i = from; i < from + 4; i++) {
            number = number << 8 | (i < text.length() ? text.charAt(i) : 0);
        }
        return number;
    }
}
