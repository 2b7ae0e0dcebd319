import java.io.IOException;
import java.lang.reflect.Constructor;
import java.lang.reflect.Field;
import java.lang.reflect.Method;
import java.lang.reflect.Modifier;
import java.nio.file.Files;
import java.nio.file.Path;
import java.util.List;
import java.util.Set;
import java.util.TreeSet;
import java.util.regex.Matcher;
import java.util.regex.Pattern;

/** The face of the class, and those rules of LANGUAGE.md that can be seen from outside or in the source's words. */
public final class LanguageTest {
    private static final Set<String> FACE = Set.of("feed(int)", "city()", "fault()", "told(int)", "person(int,int)",
        "job(int,int)", "order(int)", "rank(int,int)", "eyes(int,boolean)", "hand(int,int)", "dismiss(int)",
        "wake(int,int)", "drift(int)", "undo()", "raise(int,int,int)", "leastHarm(int,int)", "bread(int)", "free(int)",
        "sleeps(int,int)", "see(int,int)", "orders(int)", "lookNext()", "write(int,int)", "tear()", "judge()",
        "seed(int)", "keep(int)", "goBack(int)");
    private static final List<String> FORBIDDEN_WORDS = List.of("throw", "throws", "try", "catch", "finally",
        "synchronized", "assert", "yield", "volatile", "transient", "native", "Object", "System\\.out",
        "System\\.current", "System\\.nano", "Random", "Thread", "Exception", "Error", "equals", "hashCode", "toString",
        "[a-z]+Exact", "protected", "package");

    private final Tally tally = new Tally();

    public static void main(String[] args) throws Exception {
        LanguageTest t = new LanguageTest();
        t.face();
        t.classesInside();
        t.source();
        t.room();
        if (!t.tally.close("language")) {
            System.exit(1);
        }
    }

    private static String signature(Method m) {
        StringBuilder s = new StringBuilder(m.getName()).append('(');
        for (Class<?> type : m.getParameterTypes()) {
            s.append(s.charAt(s.length() - 1) == '(' ? "" : ",").append(type.getSimpleName());
        }
        return s.append(')').toString();
    }

    private void face() throws IllegalAccessException {
        int flags = WakeOrder.class.getModifiers();
        tally.that("the class is public and final", Modifier.isPublic(flags) && Modifier.isFinal(flags));
        Set<String> open = new TreeSet<>();
        for (Method m : WakeOrder.class.getDeclaredMethods()) {
            if (!Modifier.isPrivate(m.getModifiers())) {
                open.add(signature(m));
                tally.that(m.getName() + " answers an int", m.getReturnType() == int.class);
                tally.that(m.getName() + " is public, of an object", Modifier.isPublic(m.getModifiers()) && !Modifier.isStatic(m.getModifiers()));
            }
        }
        tally.that("the methods are " + open, open.equals(new TreeSet<>(FACE)));
        Constructor<?>[] makers = WakeOrder.class.getDeclaredConstructors();
        tally.that("one public constructor", makers.length == 1 && Modifier.isPublic(makers[0].getModifiers()) && makers[0].getParameterCount() == 0);
        StringBuilder constants = new StringBuilder();
        for (Field f : WakeOrder.class.getDeclaredFields()) {
            if (!Modifier.isPrivate(f.getModifiers())) {
                constants.append(f.getName()).append('=').append(f.get(null)).append(' ');
            }
        }
        tally.that("the constants are " + constants, constants.toString().equals(
            "NONE=-1 UNKNOWN=-1000000001 OUTSIDE=-1000000002 NOT=-1000000003 FULL=-1000000004 "));
    }

    private void classesInside() {
        Set<String> names = new TreeSet<>();
        for (String call : FACE) {
            names.add(call.substring(0, call.indexOf('(')));
        }
        Class<?>[] inside = WakeOrder.class.getDeclaredClasses();
        tally.that("some twelve classes", inside.length <= 11);
        for (Class<?> c : inside) {
            tally.that(c + " is static", Modifier.isStatic(c.getModifiers()) && !Modifier.isPublic(c.getModifiers()));
            for (Method m : c.getDeclaredMethods()) {
                tally.that(c + ": no name of a public one: " + m.getName(), !names.contains(m.getName()));
                tally.that(c + ": seven parameters at most: " + m.getName(), m.getParameterCount() <= 7);
            }
            countFields(c);
        }
        for (Method m : WakeOrder.class.getDeclaredMethods()) {
            tally.that("no name of a public one: " + m.getName(), !Modifier.isPrivate(m.getModifiers()) || !names.contains(m.getName()));
        }
        countFields(WakeOrder.class);
    }

    private void countFields(Class<?> c) {
        int many = 0;
        for (Field f : c.getDeclaredFields()) {
            boolean isStatic = Modifier.isStatic(f.getModifiers());
            many += isStatic ? 0 : 1;
            tally.that(f + ": static ones are final numbers", !isStatic || Modifier.isFinal(f.getModifiers()) && f.getType() == int.class);
        }
        tally.that(c + ": some twenty fields", many <= 20);
    }

    private void source() throws IOException {
        String source = Files.readString(Path.of("src/main/java/WakeOrder.java"));
        tally.that("no sign above 127", source.chars().allMatch(c -> c < 128));
        String code = source.replaceAll("(?s)/\\*.*?\\*/", "").replaceAll("//[^\n]*", "");
        for (String word : FORBIDDEN_WORDS) {
            tally.that("no " + word, !Pattern.compile("\\b" + word + "\\b").matcher(code).find());
        }
        tally.that("no lambda, no method reference", !code.contains("->") && !code.contains("::"));
        tally.that("no text", !code.contains("\""));
        Matcher imports = Pattern.compile("import[^;]*;").matcher(code);
        while (imports.find()) {
            tally.that(imports.group(), imports.group().equals("import java.util.Arrays;"));
        }
        Matcher arrays = Pattern.compile("\\b(Arrays|System|Math|Integer)\\.(\\w+)").matcher(code);
        while (arrays.find()) {
            tally.that(arrays.group(), Set.of("Arrays.fill", "System.arraycopy", "Math.min", "Math.max", "Integer.bitCount").contains(arrays.group()));
        }
        int line = 0, from = 0;
        for (String text : source.split("\n")) {
            line++;
            from = text.matches(" {4,8}\\S.*\\) \\{") ? line : from;
            tally.that("line " + line + ": methods stay short", !text.matches(" {4,8}\\}") || line - from <= 60 || text.equals("    }"));
        }
    }

    /** What an object takes when it is made, and that no call takes any more. */
    private void room() {
        com.sun.management.ThreadMXBean beans = (com.sun.management.ThreadMXBean) java.lang.management.ManagementFactory.getThreadMXBean();
        manyCalls(new WakeOrder());
        WakeOrder x = new WakeOrder();
        long thread = Thread.currentThread().getId();
        long before = beans.getThreadAllocatedBytes(thread);
        manyCalls(x);
        long taken = beans.getThreadAllocatedBytes(thread) - before;
        tally.that("calls take no room, but took " + taken, taken < 20000);
    }

    private static void manyCalls(WakeOrder x) {
        char[] text = TEXT;
        for (int i = 0; i < text.length; i++) {
            x.feed(text[i]);
        }
        x.city();
        for (int i = 0; i < 40; i++) {
            x.told(i % 12);
            x.wake(i % 6, 20 * i);
            x.raise(7, 500, i % 6);
            x.leastHarm(i % 6, 0);
            x.free(1);
            x.orders(i % 6);
            x.lookNext();
            x.keep(i % 2);
            x.goBack(i % 2);
            x.judge();
        }
    }

    private static final char[] TEXT = "c999;p900;p0;p500;p10;p700;p0;j0 99 9;j1 99 0;j2 1 1;j3 50 9;w3 1;".toCharArray();
}
