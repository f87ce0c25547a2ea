import java.io.IOException;
import java.lang.management.ManagementFactory;
import java.lang.reflect.Constructor;
import java.lang.reflect.Field;
import java.lang.reflect.Method;
import java.lang.reflect.Modifier;
import java.nio.file.Files;
import java.nio.file.Path;
import java.util.ArrayList;
import java.util.Arrays;
import java.util.List;
import java.util.Set;
import java.util.TreeSet;
import java.util.regex.Matcher;
import java.util.regex.Pattern;

/** The public face, the rules of LANGUAGE.md that can be seen from outside, and the room that calls take. */
public final class LanguageTest {
    private static final String FACE = """
            int feed(int,int,int,int,int)
            boolean end(int)
            int house()
            int fault()
            int chapter(int,int)
            int monk(int,int)
            int left(int,int)
            int now(int)
            int draw(int)
            int fold(int)
            int does(int,int)
            int night()
            int days(int,int)
            int undo()
            int free()
            int quarrels(int)
            int cover()
            int covering()
            long allowed(int,int)
            long finish(int,int,int,int)
            int most(int)
            int mostAt(int)
            int fair()
            long chance(int)
            int fits()
            int watch()
            int waits(int)
            int ago(int)
            int notice()
            int byteAt(int)
            int odds(int,int,int,int)
            int book(int)
            int told(int)
            int sentence()
            int said(int)
            boolean image(int)
            boolean restore(int)
            int count(int)
            """;
    private static final Path SOURCE = Path.of("src/main/java/RuleByLot.java");
    private static final String[] FORBIDDEN = {
        "->", "::", "\\bsynchronized\\b", "\\bassert\\b", "\\bfinally\\b", "\\bcatch\\b", "\\btry\\b", "\\bstatic\\s*\\{",
        "\\bSystem\\.(?!arraycopy\\b)", "\\bArrays\\.(?!copyOf\\b|copyOfRange\\b|fill\\b)", "\\bMath\\.\\w+Exact\\b",
        "\\bObject\\b", "\\bpackage\\b", "\\bvar\\b", "\\bThread\\b", "\\bhashCode\\b", "\\btoString\\b", "\"\\s*\\+|\\+\\s*\"",
        "\\bimport (?!java\\.util\\.(Arrays|NoSuchElementException);)", "\\bthrow new (?!NoSuchElementException\\(\\))",
        "while\\s*\\(true\\)", "for\\s*\\(;;\\)"};

    private LanguageTest() {
    }

    public static void main(String[] args) throws IOException {
        face();
        List<Class<?>> all = new ArrayList<>(List.of(RuleByLot.class));
        all.addAll(Arrays.asList(RuleByLot.class.getDeclaredClasses()));
        Checks.due("more than twelve classes", all.size() > 12, false);
        for (Class<?> one : all) {
            members(one);
        }
        text(Files.readString(SOURCE));
        room();
        Checks.finish("LanguageTest");
    }

    private static void bad(String what, boolean is) {
        Checks.due(what, is, false);
    }

    private static String signature(Method m) {
        StringBuilder text = new StringBuilder(m.getReturnType() + " " + m.getName() + "(");
        for (int i = 0; i < m.getParameterCount(); i++) {
            text.append(i > 0 ? "," : "").append(m.getParameterTypes()[i]);
        }
        return text.append(")").toString();
    }

    private static void face() {
        Set<String> want = new TreeSet<>(Arrays.asList(FACE.split("\n")));
        Set<String> got = new TreeSet<>();
        for (Method m : RuleByLot.class.getDeclaredMethods()) {
            if (!Modifier.isPrivate(m.getModifiers()) && !m.isSynthetic()) {
                got.add(signature(m));
                bad(m + " is not public and of the object",
                        !Modifier.isPublic(m.getModifiers()) || Modifier.isStatic(m.getModifiers()));
            }
        }
        Checks.due("methods " + got, got.equals(want), true);
        for (Constructor<?> c : RuleByLot.class.getDeclaredConstructors()) {
            bad(c + " is not the face's", !Modifier.isPublic(c.getModifiers()) || c.getParameterCount() != 0);
        }
        for (Field f : RuleByLot.class.getDeclaredFields()) {
            bad(f + " can be seen", !Modifier.isPrivate(f.getModifiers()) && !f.getName().equals("NONE"));
        }
        int form = RuleByLot.class.getModifiers();
        Checks.due("public and final", Modifier.isPublic(form) && Modifier.isFinal(form), true);
    }

    private static void members(Class<?> one) {
        boolean nested = one != RuleByLot.class;
        bad(one + " is not static", nested && !Modifier.isStatic(one.getModifiers()));
        bad(one + " can be seen", nested && Modifier.isPublic(one.getModifiers()));
        int fields = 0;
        for (Field f : one.getDeclaredFields()) {
            boolean isStatic = Modifier.isStatic(f.getModifiers());
            bad(f + " is static and not final", isStatic && !Modifier.isFinal(f.getModifiers()));
            fields += isStatic ? 0 : 1;
        }
        bad(one + " has " + fields + " fields", fields > 20);
        for (Method m : one.getDeclaredMethods()) {
            bad(m + " has too many parameters", m.getParameterCount() > 7);
            bad(m + " bears a name of the face", (nested || Modifier.isPrivate(m.getModifiers()))
                    && FACE.contains(" " + m.getName() + "("));
        }
    }

    private static void text(String source) {
        bad("a sign outside 1 to 127", !source.chars().allMatch(c -> c > 0 && c < 128));
        String code = source.replaceAll("(?s)/\\*.*?\\*/", "").replaceAll("//[^\n]*", "");
        for (String pattern : FORBIDDEN) {
            Matcher m = Pattern.compile(pattern).matcher(code);
            boolean found = m.find();
            bad("'" + pattern + "' found" + (found ? " in " + code.substring(m.start(), Math.min(code.length(), m.start() + 40)) : ""), found);
        }
        Matcher m = Pattern.compile("(?m)^( {4}| {8})(?! )[^\n=;]*\\) (throws \\w+ )?\\{\n(?s:.*?)^\\1\\}").matcher(source);
        int methods = 0;
        while (m.find()) {
            methods++;
            long lines = m.group().lines().count();
            bad("a method of " + lines + " lines: " + m.group().lines().findFirst().orElse(""), lines > 60);
        }
        bad("only " + methods + " methods seen", methods < 100);
    }

    private static long taken() {
        return ((com.sun.management.ThreadMXBean) ManagementFactory.getThreadMXBean()).getCurrentThreadAllocatedBytes();
    }

    private interface Many {
        void call(RuleByLot x);
    }

    /** Bytes that 400 such calls take, the lambda's own ones away. */
    private static void spends(String what, Many many) {
        RuleByLot x = Checks.with("deed a;deed b;deed c;monk m;monk n;chapter k 9;chapter l 9;chapter o 9;"
                + "must k a;bars l a;bars o b;work m a 20;work n b 20;work m c 20;atone c;once;");
        Checks.sentence(x, "not (due or left > 3) and owed m");
        many.call(x);
        long before = taken();
        for (int i = 0; i < 400; i++) {
            many.call(x);
        }
        long bytes = taken() - before;
        bad("400 times " + what + " took " + bytes + " bytes", bytes > 20_000);
    }

    private static void room() {
        new RuleByLot();
        long before = taken();
        new RuleByLot();
        long bytes = taken() - before;
        bad("a new object took " + bytes + " bytes", bytes > 24_000);
        spends("odds", x -> x.odds(0, 30, 30, 1));
        spends("most", x -> x.most(4));
        spends("cover", RuleByLot::cover);
        spends("finish", x -> x.finish(0, 0, 8, 0));
        spends("days, undo", x -> {
            x.days(30, 7);
            x.undo();
        });
        spends("said", x -> x.said(RuleByLot.NONE));
        spends("notice", RuleByLot::notice);
        spends("image, restore", x -> {
            x.image(1);
            x.restore(1);
        });
        spends("fair", x -> {
            x.feed(0x00010200, 0x01020001, 0, 0, 0);
            x.end(8);
            x.fair();
        });
        spends("book", x -> {
            x.feed(0x64617920, 0x33303b20, 0x64617920, 0x33303b20, 0x64617920);
            x.end(16);
            x.book(0);
        });
        spends("house with a fault", x -> {
            x.feed(0x64656564, 0x20613b20, 0x64656564, 0x20613b20, 0);
            x.house();
        });
    }
}
