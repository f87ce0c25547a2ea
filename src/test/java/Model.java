import java.math.BigInteger;
import java.util.ArrayList;
import java.util.Arrays;
import java.util.HashMap;
import java.util.HashSet;
import java.util.List;
import java.util.Map;
import java.util.NoSuchElementException;
import java.util.Set;
import java.util.TreeMap;
import java.util.regex.Matcher;
import java.util.regex.Pattern;

/**
 * The document once more, written from its words with the whole library and no care for speed,
 * to be asked the same as the class.
 */
final class Model {
    static final int NONE = -1;
    static final Set<String> RESERVED = new HashSet<>(Arrays.asList((
            "deed monk chapter must bars work atone once draw fold does night day "
            + "or and not due barred free done owed left musts number").split(" ")));

    static final class Fault extends Exception {
        private static final long serialVersionUID = 1;

        final int kind;
        final int place;

        Fault(int kind, Token at) {
            super(null, null, false, false);
            this.kind = kind;
            this.place = at.place;
        }
    }

    record Token(String text, int place) {
        boolean isWord() {
            return text.matches("[a-z]{1,7}");
        }

        boolean isName() {
            return isWord() && !RESERVED.contains(text);
        }

        boolean isNumber() {
            return text.matches("[0-9]{1,3}");
        }

        boolean is(String other) {
            return text.equals(other);
        }
    }

    static final String END = "END";
    static final String BAD = "BAD";

    static List<Token> tokens(String text, int most) {
        List<Token> all = new ArrayList<>();
        Matcher m = Pattern.compile("[a-z0-9]+|[^ \n]", Pattern.DOTALL).matcher(text);
        while (m.find()) {
            if (m.start() < most) {
                all.add(new Token(m.group(), m.start()));
            }
        }
        all.add(text.length() > most ? new Token(BAD, most) : new Token(END, text.length()));
        return all;
    }

    /** A text being read. */
    static final class Text {
        final List<Token> tokens;
        int at;

        Text(String text, int most) {
            tokens = tokens(text, most);
        }

        Token look() {
            return tokens.get(at);
        }

        Token take() {
            return tokens.get(at++);
        }

        void want(String wanted) throws Fault {
            Token t = take();
            if (!t.is(wanted)) {
                throw new Fault(1, t);
            }
        }

        int number(int least, int most) throws Fault {
            Token t = take();
            if (!t.isNumber()) {
                throw new Fault(1, t);
            }
            int n = Integer.parseInt(t.text);
            if (n < least || n > most) {
                throw new Fault(2, t);
            }
            return n;
        }

        int name(List<String> sort) throws Fault {
            Token t = take();
            if (!t.isName()) {
                throw new Fault(1, t);
            }
            if (!sort.contains(t.text)) {
                throw new Fault(3, t);
            }
            return sort.indexOf(t.text);
        }
    }

    static final class House {
        final List<String> deeds = new ArrayList<>();
        final List<String> monks = new ArrayList<>();
        final List<String> chapters = new ArrayList<>();
        final List<Integer> slips = new ArrayList<>();
        final Set<List<Integer>> must = new HashSet<>();
        final Set<List<Integer>> bars = new HashSet<>();
        final Map<List<Integer>, Integer> work = new HashMap<>();
        int atone = NONE;
        boolean once;
        int lines;

        House(String text) throws Fault {
            Text in = new Text(text, 900);
            while (!in.look().is(END)) {
                line(in);
                in.want(";");
                lines++;
            }
        }

        private void line(Text in) throws Fault {
            Token first = in.take();
            switch (first.text) {
                case "deed": newName(in, first, deeds, 8); break;
                case "monk": newName(in, first, monks, 4); break;
                case "chapter":
                    newName(in, first, chapters, 10);
                    slips.add(in.number(1, 9));
                    break;
                case "must": rule(in, must); break;
                case "bars": rule(in, bars); break;
                case "work": {
                    int m = in.name(monks);
                    Token second = in.look();
                    int d = in.name(deeds);
                    if (work.containsKey(List.of(m, d))) {
                        throw new Fault(3, second);
                    }
                    work.put(List.of(m, d), in.number(1, 20));
                    break;
                }
                case "atone":
                    if (atone != NONE) {
                        throw new Fault(3, first);
                    }
                    atone = in.name(deeds);
                    break;
                case "once":
                    if (once) {
                        throw new Fault(3, first);
                    }
                    once = true;
                    break;
                default: throw new Fault(1, first);
            }
        }

        private void newName(Text in, Token first, List<String> sort, int most) throws Fault {
            if (sort.size() == most) {
                throw new Fault(4, first);
            }
            Token t = in.take();
            if (!t.isName()) {
                throw new Fault(1, t);
            }
            if (deeds.contains(t.text) || monks.contains(t.text) || chapters.contains(t.text)) {
                throw new Fault(3, t);
            }
            sort.add(t.text);
        }

        private void rule(Text in, Set<List<Integer>> side) throws Fault {
            int c = in.name(chapters);
            Token second = in.look();
            int d = in.name(deeds);
            if (must(c, d) || bars(c, d)) {
                throw new Fault(3, second);
            }
            side.add(List.of(c, d));
        }

        boolean must(int c, int d) {
            return must.contains(List.of(c, d));
        }

        boolean bars(int c, int d) {
            return bars.contains(List.of(c, d));
        }

        List<Integer> fullBox() {
            List<Integer> box = new ArrayList<>();
            for (int c = 0; c < chapters.size(); c++) {
                for (int i = 0; i < slips.get(c); i++) {
                    box.add(c);
                }
            }
            return box;
        }
    }

    /** All that is so; the box is a list of slips, each the number of its chapter, in rising order. */
    static final class Life {
        final House h;
        int day;
        int holds = NONE;
        List<Integer> box;
        List<Integer> drawn = new ArrayList<>();
        int[] penances = new int[4];
        int[] done = new int[4];
        Set<List<Integer>> today = new HashSet<>();
        Map<List<Integer>, Integer> left;

        Life(House h) {
            this.h = h;
            box = h.fullBox();
            left = new HashMap<>(h.work);
        }

        Life(Life o) {
            h = o.h;
            day = o.day;
            holds = o.holds;
            box = new ArrayList<>(o.box);
            drawn = new ArrayList<>(o.drawn);
            penances = o.penances.clone();
            done = o.done.clone();
            today = new HashSet<>(o.today);
            left = new HashMap<>(o.left);
        }

        int left(int m, int d) {
            return left.getOrDefault(List.of(m, d), 0);
        }

        int whyNotDraw() {
            return holds != NONE ? 1 : h.chapters.isEmpty() ? 2 : day == 400 ? 3 : 0;
        }

        int whyNotFold(int c) {
            return holds != NONE ? 1 : !box.contains(c) ? 2 : day == 400 ? 3 : 0;
        }

        int whyNotDo(int m, int d) {
            return holds == NONE ? 1 : h.bars(holds, d) ? 2 : today.contains(List.of(m, d)) ? 3 : 0;
        }

        int draw(int seed) {
            int x = seed * 1103515245 + 12345;
            hold(box.get((x >>> 8) % box.size()));
            return x;
        }

        void hold(int c) {
            holds = c;
            drawn.add(c);
            if (h.once) {
                box.remove((Integer) c);
                if (box.isEmpty()) {
                    box = h.fullBox();
                }
            }
        }

        void deed(int m, int d) {
            today.add(List.of(m, d));
            done[m]++;
            left.computeIfPresent(List.of(m, d), (k, v) -> v > 1 ? Integer.valueOf(v - 1) : null);
            if (d == h.atone && penances[m] > 0) {
                penances[m]--;
            }
        }

        int night() {
            int more = 0;
            for (int m = 0; m < h.monks.size(); m++) {
                for (int d = 0; d < h.deeds.size(); d++) {
                    if (h.must(holds, d) && !today.contains(List.of(m, d)) && penances[m] < 99) {
                        penances[m]++;
                        more++;
                    }
                }
            }
            today.clear();
            holds = NONE;
            day++;
            return more;
        }

        int days(int n, int seed) {
            int x = seed;
            for (int i = 0; i < n; i++) {
                if (holds == NONE) {
                    if (day == 400) {
                        return i;
                    }
                    x = draw(x);
                }
                for (int m = 0; m < h.monks.size(); m++) {
                    for (int d = 0; d < h.deeds.size(); d++) {
                        boolean wants = h.must(holds, d) || left(m, d) > 0 || d == h.atone && penances[m] > 0;
                        if (wants && whyNotDo(m, d) == 0) {
                            deed(m, d);
                        }
                    }
                }
                night();
            }
            return n;
        }

        int work(int m) {
            int all = 0;
            for (int d = 0; d < h.deeds.size(); d++) {
                all += left(m, d);
            }
            return all;
        }

        int penances() {
            return Arrays.stream(penances).sum();
        }
    }

    interface Said {
        boolean of(int d, Life l);
    }

    /** A sentence as it was read. */
    final class Sentence {
        final Text in;
        int ones;
        final Said said;

        Sentence(String text) throws Fault {
            in = new Text(text, 200);
            said = condition(1);
            in.want(END);
        }

        private Said condition(int depth) throws Fault {
            Said first = all(depth);
            while (in.look().is("or")) {
                in.take();
                Said a = first;
                Said b = all(depth);
                first = (d, l) -> a.of(d, l) || b.of(d, l);
            }
            return first;
        }

        private Said all(int depth) throws Fault {
            Said first = one(depth);
            while (in.look().is("and")) {
                in.take();
                Said a = first;
                Said b = one(depth);
                first = (d, l) -> a.of(d, l) && b.of(d, l);
            }
            return first;
        }

        private Said one(int depth) throws Fault {
            Token t = in.take();
            if (!List.of("not", "(", "due", "barred", "free", "done", "owed", "left", "musts", "number").contains(t.text)) {
                throw new Fault(1, t);
            }
            if (ones == 20 || depth == 9) {
                throw new Fault(4, t);
            }
            ones++;
            switch (t.text) {
                case "not": {
                    Said of = one(depth + 1);
                    return (d, l) -> !of.of(d, l);
                }
                case "(": {
                    Said of = condition(depth + 1);
                    in.want(")");
                    return of;
                }
                case "due": return (d, l) -> l.holds != NONE && l.h.must(l.holds, d);
                case "barred": return (d, l) -> l.holds != NONE && l.h.bars(l.holds, d);
                case "free": return (d, l) -> isFree(l.h, d);
                case "done": {
                    int m = in.name(house.monks);
                    return (d, l) -> l.today.contains(List.of(m, d));
                }
                case "owed": {
                    int m = in.name(house.monks);
                    return (d, l) -> l.left(m, d) > 0;
                }
                default: return comparison(t);
            }
        }

        private Said comparison(Token what) throws Fault {
            Token sign = in.take();
            if (!List.of("<", "=", ">").contains(sign.text)) {
                throw new Fault(1, sign);
            }
            int n = in.number(0, 999);
            return (d, l) -> {
                int amount = d;
                if (what.is("left")) {
                    amount = 0;
                    for (int m = 0; m < l.h.monks.size(); m++) {
                        amount += l.left(m, d);
                    }
                } else if (what.is("musts")) {
                    amount = (int) l.h.must.stream().filter(p -> p.get(1) == d).count();
                }
                return sign.is("<") ? amount < n : sign.is("=") ? amount == n : amount > n;
            };
        }
    }

    record Line(String act, int a, int b) {
    }

    List<Line> readBook(String text) throws Fault {
        Text in = new Text(text, 400);
        List<Line> lines = new ArrayList<>();
        while (!in.look().is(END)) {
            Token first = in.take();
            int monk = NONE;
            if (first.isName()) {
                if (!house.monks.contains(first.text)) {
                    throw new Fault(3, first);
                }
                monk = house.monks.indexOf(first.text);
            } else if (!List.of("draw", "fold", "night", "day").contains(first.text)) {
                throw new Fault(1, first);
            }
            if (lines.size() == 40) {
                throw new Fault(4, first);
            }
            if (monk != NONE) {
                in.want("does");
                lines.add(new Line("does", monk, in.name(house.deeds)));
            } else if (first.is("draw")) {
                lines.add(new Line("draw", in.number(0, 999), 0));
            } else if (first.is("fold")) {
                lines.add(new Line("fold", in.name(house.chapters), 0));
            } else if (first.is("day")) {
                lines.add(new Line("day", in.number(1, 30), 0));
            } else {
                lines.add(new Line("night", 0, 0));
            }
            in.want(";");
        }
        return lines;
    }

    static int live(Line line, Life l) {
        switch (line.act) {
            case "draw": {
                int why = l.whyNotDraw();
                if (why == 0) {
                    l.draw(line.a);
                }
                return why;
            }
            case "fold": {
                int why = l.whyNotFold(line.a);
                if (why == 0) {
                    l.hold(line.a);
                }
                return why == 0 ? 0 : 10 + why;
            }
            case "does": {
                int why = l.whyNotDo(line.a, line.b);
                if (why == 0) {
                    l.deed(line.a, line.b);
                }
                return why == 0 ? 0 : 20 + why;
            }
            case "night":
                if (l.holds == NONE) {
                    return 31;
                }
                l.night();
                return 0;
            default:
                if (l.h.chapters.isEmpty()) {
                    return 42;
                }
                if (400 - l.day < line.a) {
                    return 41;
                }
                l.days(line.a, line.a);
                return 0;
        }
    }

    static boolean isFree(House h, int d) {
        return h.bars.stream().noneMatch(p -> p.get(1) == d);
    }

    // The object itself.

    StringBuilder tape = new StringBuilder();
    House house;
    Life life;
    Sentence sentence;
    List<Life> undo = new ArrayList<>();
    int fault;
    int covering = NONE;
    List<Integer> most = new ArrayList<>();
    long[] chance;
    int watch = NONE;
    String notice = "";
    int[] told;
    Map<Integer, Object[]> images = new TreeMap<>();

    Model() {
        try {
            house = new House("");
        } catch (Fault f) {
            throw new IllegalStateException(f);
        }
        life = new Life(house);
    }

    private String takeTape() {
        String text = tape.toString();
        tape.setLength(0);
        return text;
    }

    private boolean noDeed(int d) {
        return d < 0 || d >= house.deeds.size();
    }

    private boolean noMonk(int m) {
        return m < 0 || m >= house.monks.size();
    }

    private boolean noChapter(int c) {
        return c < 0 || c >= house.chapters.size();
    }

    private static boolean out(int n, int least, int most) {
        return n < least || n > most;
    }

    private static int bits(List<Integer> set) {
        int bits = 0;
        for (int i : set) {
            bits |= 1 << i;
        }
        return bits;
    }

    private interface Of {
        boolean is(int i);
    }

    private static int bits(int n, Of of) {
        int bits = 0;
        for (int i = 0; i < n; i++) {
            if (of.is(i)) {
                bits |= 1 << i;
            }
        }
        return bits;
    }

    private void keep() {
        undo.add(new Life(life));
        if (undo.size() > 8) {
            undo.remove(0);
        }
    }

    int feed(int a, int b, int c, int d, int e) {
        if (tape.length() + 20 > 940) {
            return NONE;
        }
        for (int n : new int[] {a, b, c, d, e}) {
            for (int s = 24; s >= 0; s -= 8) {
                tape.append((char) (n >>> s & 255));
            }
        }
        return tape.length();
    }

    boolean end(int n) {
        if (n < 0 || n > tape.length()) {
            return false;
        }
        tape.setLength(n);
        return true;
    }

    int house() {
        try {
            house = new House(takeTape());
        } catch (Fault f) {
            fault = f.kind;
            return -1 - f.place;
        }
        fault = 0;
        life = new Life(house);
        sentence = null;
        undo.clear();
        return house.lines;
    }

    int fault() {
        return fault;
    }

    int chapter(int c, int what) {
        if (noChapter(c)) {
            throw new NoSuchElementException();
        }
        switch (what) {
            case 0: return house.slips.get(c);
            case 1: return (int) life.box.stream().filter(s -> s == c).count();
            case 2: return bits(house.deeds.size(), d -> house.must(c, d));
            case 3: return bits(house.deeds.size(), d -> house.bars(c, d));
            case 4: return (int) life.drawn.stream().filter(s -> s == c).count();
            default: throw new NoSuchElementException();
        }
    }

    int monk(int m, int what) {
        if (noMonk(m)) {
            throw new NoSuchElementException();
        }
        switch (what) {
            case 0: return life.penances[m];
            case 1: return bits(house.deeds.size(), d -> life.today.contains(List.of(m, d)));
            case 2: return bits(house.deeds.size(), d -> life.left(m, d) > 0);
            case 3: return life.work(m);
            case 4: return life.done[m];
            default: throw new NoSuchElementException();
        }
    }

    int left(int m, int d) {
        return noMonk(m) || noDeed(d) ? NONE : life.left(m, d);
    }

    int now(int what) {
        int c = life.holds;
        switch (what) {
            case 0: return life.day;
            case 1: return c;
            case 2: return c == NONE ? 0 : chapter(c, 2);
            case 3: return c == NONE ? 0 : chapter(c, 3);
            case 4: return life.box.size();
            case 5: return life.penances();
            case 6: {
                int all = 0;
                for (int m = 0; m < house.monks.size(); m++) {
                    all += life.work(m);
                }
                return all;
            }
            default: return NONE;
        }
    }

    int draw(int seed) {
        int why = life.whyNotDraw();
        if (why != 0) {
            return -1 - why;
        }
        keep();
        life.draw(seed);
        return life.holds;
    }

    int fold(int c) {
        if (noChapter(c)) {
            return NONE;
        }
        int why = life.whyNotFold(c);
        if (why == 0) {
            keep();
            life.hold(c);
        }
        return why;
    }

    int does(int m, int d) {
        if (noMonk(m) || noDeed(d)) {
            return NONE;
        }
        int why = life.whyNotDo(m, d);
        if (why == 0) {
            keep();
            life.deed(m, d);
        }
        return why;
    }

    int night() {
        if (life.holds == NONE) {
            return NONE;
        }
        keep();
        return life.night();
    }

    int days(int n, int seed) {
        if (out(n, 1, 30) || house.chapters.isEmpty()) {
            return NONE;
        }
        Life before = new Life(life);
        int went = life.days(n, seed);
        if (went > 0) {
            undo.add(before);
            if (undo.size() > 8) {
                undo.remove(0);
            }
        }
        return went;
    }

    int undo() {
        if (undo.isEmpty()) {
            return NONE;
        }
        life = undo.remove(undo.size() - 1);
        return undo.size();
    }

    int free() {
        return bits(house.deeds.size(), d -> isFree(house, d));
    }

    int quarrels(int c) {
        if (noChapter(c)) {
            return NONE;
        }
        return bits(house.chapters.size(), o -> {
            for (int d = 0; d < house.deeds.size(); d++) {
                if (house.must(c, d) && house.bars(o, d) || house.must(o, d) && house.bars(c, d)) {
                    return true;
                }
            }
            return false;
        });
    }

    int cover() {
        List<Integer> sets = new ArrayList<>();
        for (int set = 0; set < 1 << house.chapters.size(); set++) {
            sets.add(set);
        }
        sets.sort((a, b) -> Integer.bitCount(a) != Integer.bitCount(b)
                ? Integer.bitCount(a) - Integer.bitCount(b) : a - b);
        for (int set : sets) {
            boolean covers = true;
            for (List<Integer> pair : house.must) {
                boolean has = false;
                for (int c = 0; c < house.chapters.size(); c++) {
                    has |= (set >> c & 1) == 1 && house.must(c, pair.get(1));
                }
                covers &= has;
            }
            if (covers) {
                covering = set;
                return Integer.bitCount(set);
            }
        }
        throw new IllegalStateException("all chapters cover");
    }

    int covering() {
        return covering;
    }

    private static long part(BigInteger above, BigInteger below, int what) {
        BigInteger g = above.gcd(below);
        return (what == 0 ? above : below).divide(g).longValueExact();
    }

    long allowed(int d, int what) {
        if (noDeed(d) || house.chapters.isEmpty() || out(what, 0, 1)) {
            throw new NoSuchElementException();
        }
        long above = life.box.stream().filter(c -> !house.bars(c, d)).count();
        return part(BigInteger.valueOf(above), BigInteger.valueOf(life.box.size()), what);
    }

    long finish(int m, int d, int k, int what) {
        if (noMonk(m) || noDeed(d) || house.chapters.isEmpty() || out(k, 1, 8) || out(what, 0, 1)) {
            throw new NoSuchElementException();
        }
        List<Integer> full = house.fullBox();
        int fullMay = (int) full.stream().filter(c -> !house.bars(c, d)).count();
        int may = (int) life.box.stream().filter(c -> !house.bars(c, d)).count();
        BigInteger[] f = finish(k, life.left(m, d), may, life.box.size() - may, fullMay, full.size() - fullMay);
        return part(f[0], f[1], what);
    }

    private BigInteger[] finish(int k, int need, int may, int not, int fullMay, int fullNot) {
        if (k == 0) {
            return new BigInteger[] {need <= 0 ? BigInteger.ONE : BigInteger.ZERO, BigInteger.ONE};
        }
        if (may + not == 0) {
            return finish(k, need, fullMay, fullNot, fullMay, fullNot);
        }
        int gone = house.once ? 1 : 0;
        BigInteger above = BigInteger.ZERO;
        BigInteger below = BigInteger.ONE;
        if (may > 0) {
            BigInteger[] f = finish(k - 1, need - 1, may - gone, not, fullMay, fullNot);
            above = f[0].multiply(BigInteger.valueOf(may));
            below = f[1];
        }
        if (not > 0) {
            BigInteger[] f = finish(k - 1, need, may, not - gone, fullMay, fullNot);
            above = above.multiply(f[1]).add(f[0].multiply(BigInteger.valueOf(not)).multiply(below));
            below = below.multiply(f[1]);
        }
        below = below.multiply(BigInteger.valueOf(may + not));
        BigInteger g = above.gcd(below);
        return new BigInteger[] {above.divide(g), below.divide(g)};
    }

    int most(int k) {
        if (out(k, 1, 4) || house.chapters.isEmpty()) {
            return NONE;
        }
        List<Integer> best = new ArrayList<>();
        int work = most(k, new ArrayList<>(), best, -1);
        most = best;
        return work;
    }

    private int most(int k, List<Integer> chosen, List<Integer> best, int bestWork) {
        if (chosen.size() == k) {
            int work = 0;
            for (int m = 0; m < house.monks.size(); m++) {
                for (int d = 0; d < house.deeds.size(); d++) {
                    int left = life.left(m, d);
                    for (int c : chosen) {
                        if (left > 0 && !house.bars(c, d)) {
                            left--;
                            work++;
                        }
                    }
                }
            }
            if (work > bestWork) {
                best.clear();
                best.addAll(chosen);
            }
            return Math.max(work, bestWork);
        }
        int from = chosen.isEmpty() ? 0 : chosen.get(chosen.size() - 1);
        for (int c = from; c < house.chapters.size(); c++) {
            chosen.add(c);
            bestWork = most(k, chosen, best, bestWork);
            chosen.remove(chosen.size() - 1);
        }
        return bestWork;
    }

    int mostAt(int i) {
        return out(i, 0, most.size() - 1) ? NONE : most.get(i);
    }

    int fair() {
        String text = takeTape();
        if (out(text.length(), 1, 8) || text.chars().anyMatch(c -> noChapter(c))) {
            return -2;
        }
        List<Integer> box = new ArrayList<>(life.box);
        BigInteger above = BigInteger.ONE;
        BigInteger below = BigInteger.ONE;
        for (int i = 0; i < text.length(); i++) {
            Integer c = (int) text.charAt(i);
            long slips = box.stream().filter(c::equals).count();
            if (slips == 0) {
                return i;
            }
            above = above.multiply(BigInteger.valueOf(slips));
            below = below.multiply(BigInteger.valueOf(box.size()));
            if (house.once) {
                box.remove(c);
                if (box.isEmpty()) {
                    box = house.fullBox();
                }
            }
        }
        chance = new long[] {part(above, below, 0), part(above, below, 1)};
        return NONE;
    }

    long chance(int what) {
        if (chance == null || out(what, 0, 1)) {
            throw new NoSuchElementException();
        }
        return chance[what];
    }

    int fits() {
        String text = takeTape();
        if (text.length() % 2 != 0 || out(text.length(), 2, 16)) {
            return NONE;
        }
        List<Integer> fit = new ArrayList<>();
        for (int c = 0; c < house.chapters.size(); c++) {
            fit.add(c);
        }
        for (int i = 0; i < text.length(); i += 2) {
            int d = text.charAt(i);
            int done = text.charAt(i + 1);
            if (noDeed(d) || done > 1) {
                return NONE;
            }
            fit.removeIf(c -> done == 1 ? house.bars(c, d) : house.must(c, d));
        }
        if (!fit.isEmpty()) {
            watch = watch(fit);
        }
        return bits(fit);
    }

    private int watch(List<Integer> fit) {
        int best = NONE;
        int least = Integer.MAX_VALUE;
        for (int d = 0; d < house.deeds.size(); d++) {
            int[] left = new int[3];
            for (int c : fit) {
                left[house.must(c, d) ? 0 : house.bars(c, d) ? 1 : 2]++;
            }
            int worst = Arrays.stream(left).max().getAsInt();
            if (worst < least) {
                least = worst;
                best = d;
            }
        }
        return best;
    }

    int watch() {
        return watch;
    }

    /** Draws all other slips first, as often as that can be. */
    int waits(int c) {
        if (noChapter(c) || !house.once) {
            return NONE;
        }
        List<Integer> box = new ArrayList<>(life.box);
        for (int draws = 1; ; draws++) {
            Integer other = box.stream().filter(s -> s != c).findFirst().orElse(null);
            if (other == null) {
                return draws;
            }
            box.remove(other);
            if (box.isEmpty()) {
                box = house.fullBox();
            }
        }
    }

    int ago(int k) {
        return out(k, 0, 15) || k >= life.drawn.size() ? NONE : life.drawn.get(life.drawn.size() - 1 - k);
    }

    int notice() {
        notice = "nobody knows";
        if (life.holds != NONE) {
            notice = house.chapters.get(life.holds) + " holds";
            for (int d = 0; d < house.deeds.size(); d++) {
                if (house.must(life.holds, d)) {
                    notice += " " + house.deeds.get(d);
                }
            }
        }
        return notice.length();
    }

    int byteAt(int i) {
        return out(i, 0, notice.length() - 1) ? NONE : notice.charAt(i);
    }

    int odds(int monk, int m, int n, int seed) {
        if (noMonk(monk) || out(m, 1, 30) || out(n, 1, 30) || house.chapters.isEmpty()) {
            return NONE;
        }
        int by = 0;
        for (int i = 0; i < n; i++) {
            Life tried = new Life(life);
            tried.days(m, seed + i);
            by += tried.work(monk) == 0 ? 1 : 0;
        }
        return by;
    }

    int book(int lives) {
        if (out(lives, 0, 1)) {
            return -1000;
        }
        List<Line> lines;
        try {
            lines = readBook(takeTape());
        } catch (Fault f) {
            fault = f.kind;
            return -2 - f.place;
        }
        fault = 0;
        Life lived = new Life(life);
        int good = 0;
        int why = 0;
        for (Line line : lines) {
            why = live(line, lived);
            if (why != 0) {
                break;
            }
            good++;
        }
        told = new int[] {why, good, lived.day, lived.penances()};
        if (lives == 1) {
            keep();
            life = lived;
        }
        return why == 0 ? NONE : good;
    }

    int told(int what) {
        return told == null || out(what, 0, 3) ? NONE : told[what];
    }

    int sentence() {
        try {
            sentence = new Sentence(takeTape());
        } catch (Fault f) {
            fault = f.kind;
            return -1 - f.place;
        }
        fault = 0;
        return sentence.ones;
    }

    int said(int k) {
        if (sentence == null) {
            return NONE;
        }
        List<Integer> of = new ArrayList<>();
        for (int d = 0; d < house.deeds.size(); d++) {
            if (sentence.said.of(d, life)) {
                of.add(d);
            }
        }
        return k == NONE ? of.size() : out(k, 0, of.size() - 1) ? NONE : of.get(k);
    }

    boolean image(int k) {
        if (out(k, 0, 1)) {
            return false;
        }
        images.put(k, new Object[] {house, new Life(life), sentence});
        return true;
    }

    boolean restore(int k) {
        Object[] kept = images.get(k);
        if (kept == null) {
            return false;
        }
        house = (House) kept[0];
        life = new Life((Life) kept[1]);
        sentence = (Sentence) kept[2];
        undo.clear();
        return true;
    }

    int count(int what) {
        switch (what) {
            case 0: return house.deeds.size();
            case 1: return house.monks.size();
            case 2: return house.chapters.size();
            case 3: return house.atone;
            case 4: return house.once ? 1 : 0;
            case 5: return tape.length();
            default: return NONE;
        }
    }
}
