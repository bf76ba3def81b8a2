import java.lang.management.ManagementFactory;
import java.lang.reflect.Constructor;
import java.lang.reflect.Field;
import java.lang.reflect.Method;
import java.lang.reflect.Modifier;
import java.nio.file.Files;
import java.nio.file.Path;
import java.util.ArrayList;
import java.util.Arrays;
import java.util.List;
import java.util.TreeSet;
import java.util.regex.Matcher;
import java.util.regex.Pattern;

/** The public face of the document, and what of LANGUAGE.md a program can see. */
public final class LanguageTest {
    private static final Checks C = new Checks();
    private static final List<String> FACE = List.of(
        "int feed(int,int,int,int,int)", "int end(int)", "int text(int,int)", "int fault(int)", "int county(int,int)",
        "int deed(int,int,int)", "int stop(int,int)", "int state(int,int,int,int)", "int keeps(int,int,int)",
        "int heart(int,int,int)", "int fall(int,int)", "int want(int,int,int)", "int swearers(int,int,int)",
        "int dare(int,int,int,int,boolean)", "int chance(int,int,int,int,int,int,boolean)", "int fact(int,int,int)",
        "int fits(int,int,int,int)", "int drawn(int,int,int,int)", "int lone(int,int)", "int chain(int,int)",
        "int steps(int,int,int)", "int after(int,int,int)", "int count(int)", "boolean image(int)", "boolean again(int)");

    public static void main(String[] args) throws Exception {
        face();
        nestedClasses();
        source();
        room();
        C.close("LanguageTest");
    }

    private static String told(Method m) {
        StringBuilder sb = new StringBuilder(m.getReturnType() + " " + m.getName() + "(");
        for (Class<?> p : m.getParameterTypes()) sb.append(sb.charAt(sb.length() - 1) == '(' ? "" : ",").append(p);
        return sb.append(')').toString();
    }

    private static void face() {
        Class<?> c = SwornCounty.class;
        C.due("public", true, Modifier.isPublic(c.getModifiers()));
        C.due("final", true, Modifier.isFinal(c.getModifiers()));
        TreeSet<String> open = new TreeSet<>();
        for (Method m : c.getDeclaredMethods()) {
            if (!Modifier.isPrivate(m.getModifiers())) open.add(told(m));
        }
        C.due("face " + open, true, open.equals(new TreeSet<>(FACE)));
        for (Constructor<?> k : c.getDeclaredConstructors()) C.due("constructor", true, Modifier.isPublic(k.getModifiers()) && k.getParameterCount() == 0);
        for (Field f : c.getDeclaredFields()) {
            boolean ours = Modifier.isPrivate(f.getModifiers());
            C.due("field " + f.getName(), true, ours || f.getName().equals("NONE"));
            C.due("static is final " + f.getName(), true, !Modifier.isStatic(f.getModifiers()) || Modifier.isFinal(f.getModifiers()));
        }
    }

    private static void nestedClasses() {
        TreeSet<String> names = new TreeSet<>();
        for (String f : FACE) names.add(f.substring(f.indexOf(' ') + 1, f.indexOf('(')));
        List<Class<?>> all = new ArrayList<>(Arrays.asList(SwornCounty.class.getDeclaredClasses()));
        C.due("some twelve classes", true, all.size() <= 12);
        all.add(SwornCounty.class);
        for (Class<?> c : all) {
            boolean nested = c != SwornCounty.class;
            C.due("static " + c, true, !nested || Modifier.isStatic(c.getModifiers()));
            C.due("not public " + c, true, !nested || !Modifier.isPublic(c.getModifiers()));
            C.due("no classes inside " + c, true, !nested || c.getDeclaredClasses().length == 0);
            int fields = 0;
            for (Field f : c.getDeclaredFields()) fields += Modifier.isStatic(f.getModifiers()) ? 0 : 1;
            C.due("some twenty fields " + c, true, fields <= 20);
            for (Method m : c.getDeclaredMethods()) {
                C.due("parameters of " + m, true, m.getParameterCount() <= 7);
                C.due("name of " + m, true, Modifier.isPublic(m.getModifiers()) || !names.contains(m.getName()));
            }
        }
    }

    private static String withoutComments(String s) {
        return s.replaceAll("(?s)/\\*.*?\\*/", "").replaceAll("//[^\n]*", "");
    }

    private static void source() throws Exception {
        String s = withoutComments(Files.readString(Path.of("src/main/java/SwornCounty.java")));
        String[] never = {"\\bthrow", "\\btry\\b", "\\bcatch\\b", "\\bsynchronized\\b", "\\bassert\\b", "->", "::", "\\bimport\\b",
            "\\bpackage\\b", "\\bprotected\\b", "Exact\\(", "\\.hashCode\\(", "\\.toString\\(", "\\bwhile \\(true", "for \\(;;",
            "System\\.(?!arraycopy)", "\\bvolatile\\b", "\\bvar\\b", "String\\.", "\\bstatic \\{", "[^\\x00-\\x7f]", "\\[\\]\\["};
        for (String n : never) {
            Matcher m = Pattern.compile(n).matcher(s);
            C.due("source has " + n, false, m.find());
        }
        int lines = 0;
        for (String line : s.split("\n")) {
            boolean begins = line.matches(" {4,8}(private |public |static |final )*[\\w\\[\\]]+ \\w+\\(.*\\{");
            lines = begins ? 1 : lines + 1;
            if (line.matches(" {4}( {4})?}")) C.due("lines of a method before: " + line, true, lines <= 60 || line.length() == 5);
        }
    }

    /** All calls of a run live in one room, so those that only ask must make nothing. */
    private static void room() {
        SwornCounty x = Checks.with("folk 3 2;folk 6 1;folk 9 0;folk 2 4;likes 0 1;oath 0 1 1;oath 1 0 0;oath 2 3 7;",
            "visit 1 0;monday;swear 1 3 1;", "want 0 2;want 1 0;want 3 7;", "kept 0 3;broke 0 0;");
        x.image(0);
        askAll(x);
        com.sun.management.ThreadMXBean threads = (com.sun.management.ThreadMXBean) ManagementFactory.getThreadMXBean();
        long id = Thread.currentThread().getId();
        threads.getThreadAllocatedBytes(id);
        long before = threads.getThreadAllocatedBytes(id);
        for (int i = 0; i < 100; i++) askAll(x);
        long made = threads.getThreadAllocatedBytes(id) - before;
        C.due("bytes made by asking: " + made, true, made < 2000);
        before = threads.getThreadAllocatedBytes(id);
        for (int i = 0; i < 100; i++) {
            x.text(0, 0);
            x.lone(0, 3);
        }
        long each = (threads.getThreadAllocatedBytes(id) - before) / 100;
        C.due("bytes made by a county: " + each, true, each < 600);
        before = threads.getThreadAllocatedBytes(id);
        for (int i = 0; i < 100; i++) new SwornCounty();
        each = (threads.getThreadAllocatedBytes(id) - before) / 100;
        C.due("bytes made by an object: " + each, true, each < 12000);
    }

    private static int askAll(SwornCounty x) {
        int sum = x.feed(0, 0, 0, 0, 0) + x.end(0) + x.fault(0) + x.county(0, 0) + x.deed(0, 0, 0) + x.stop(0, 0)
            + x.state(0, 0, 2, 0) + x.keeps(0, 0, 3) + x.keeps(0, 0, 5) + x.heart(0, 0, 1) + x.want(0, 0, 0) + x.swearers(0, 0, 2)
            + x.dare(0, 0, 1, 3, true) + x.chance(0, 0, 1, 0, 5, 6, false) + x.fact(0, 0, 0) + x.fits(0, 0, 0, 3)
            + x.drawn(0, 7, 60, 0) + x.chain(0, 0) + x.steps(0, 0, 1) + x.count(0);
        for (int w = 0; w < 5; w++) sum += x.fall(0, w) + x.after(0, 0, w);
        for (int w = 0; w < 16; w++) sum += x.lone(0, w);
        return sum + (x.image(0) ? 1 : 0) + (x.again(0) ? 1 : 0);
    }
}
