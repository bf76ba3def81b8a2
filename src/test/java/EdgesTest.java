import java.lang.reflect.Method;
import java.util.List;
import java.util.Random;

/** Every question with numbers at and beyond all edges: none throws, and each answers as PlainCounty does. */
public final class EdgesTest {
    private static final int[] EDGES = {Integer.MIN_VALUE, -100, -3, -2, -1, 0, 1, 2, 3, 4, 5, 6, 7, 8, 9, 10, 11, 12, 13, 15, 16, 19,
        20, 25, 26, 30, 35, 36, 40, 47, 48, 50, 57, 58, 59, 60, 61, 99, 100, 111, 112, 211, 300, 311, 312, 400, 600, 601, Integer.MAX_VALUE};
    /** These change what is told; the random runs have them. */
    private static final List<String> TELLING = List.of("feed", "text");
    private static final String[] COUNTIES = {"",
        "folk 9 4;", "folk 3 2;folk 6 1;folk 9 0;folk 2 4;hard 0 4;hard 1 8;hard 7 0;clash 0 3;likes 1 0;likes 0 3;"
        + "oath 0 1 1;oath 1 0 0;oath 3 0 3;oath 2 3 7;oath 0 2 7;",
        "folk 9 4;folk 8 4;folk 7 3;folk 6 2;folk 5 1;folk 4 0;oath 0 5 0;oath 1 4 1;oath 2 3 2;oath 3 2 3;oath 4 1 4;oath 5 0 5;"
        + "oath 0 1 6;oath 1 0 7;oath 2 0 0;oath 3 0 1;oath 4 0 2;oath 5 4 3;likes 0 1;likes 1 2;likes 2 3;likes 3 4;likes 4 5;likes 5 0;"};
    private static final String[] REST = {"monday;tire 0;", "visit 1 0;monday;swear 1 3 1;rest 1;", "want 0 2;want 1 0;want 3 7;",
        "want 5 1;want 5 1;want 4 2;want 0 7;want 0 6;want 1 3;", "kept 0 3;broke 0 0;", ""};

    public static void main(String[] args) throws Exception {
        Checks checks = new Checks();
        Random random = new Random(5);
        for (int i = 0; i < COUNTIES.length; i++) {
            SwornCounty x = new SwornCounty();
            PlainCounty y = new PlainCounty();
            tell(x, y, 0, COUNTIES[i]);
            tell(x, y, 0, COUNTIES[(i + 1) % COUNTIES.length]);
            for (int k = 0; k < REST.length; k++) tell(x, y, k / 2 + 1, REST[k]);
            for (Method m : SwornCounty.class.getDeclaredMethods()) {
                if (java.lang.reflect.Modifier.isPrivate(m.getModifiers()) || TELLING.contains(m.getName())) continue;
                Method plain = PlainCounty.class.getDeclaredMethod(m.getName(), m.getParameterTypes());
                for (int n = 0; n < 400; n++) {
                    Object[] with = edges(random, m.getParameterTypes());
                    checks.due(m.getName() + java.util.Arrays.toString(with), number(plain.invoke(y, with)), number(m.invoke(x, with)));
                }
            }
        }
        checks.close("EdgesTest");
    }

    private static void tell(SwornCounty x, PlainCounty y, int sort, String text) {
        Checks.tell(x, sort, SwornCounty.NONE, text);
        y.end(0);
        for (int i = 0; i < text.length(); i += 20) {
            int[] n = new int[5];
            for (int k = 0; k < 20; k++) n[k / 4] = n[k / 4] << 8 | (i + k < text.length() ? text.charAt(i + k) : ' ');
            y.feed(n[0], n[1], n[2], n[3], n[4]);
        }
        y.text(sort, PlainCounty.NONE);
    }

    private static Object[] edges(Random random, Class<?>[] types) {
        Object[] with = new Object[types.length];
        for (int i = 0; i < types.length; i++) {
            // Many of them near 0, or nothing would ever be there.
            int near = i == 0 ? random.nextInt(2) : random.nextInt(6) - 1;
            int n = random.nextInt(3) > 0 ? near : EDGES[random.nextInt(EDGES.length)];
            with[i] = types[i] == boolean.class ? (Object) random.nextBoolean() : (Object) n;
        }
        return with;
    }

    private static long number(Object answer) {
        return answer instanceof Boolean b ? b ? 1 : 0 : ((Integer) answer).longValue();
    }
}
