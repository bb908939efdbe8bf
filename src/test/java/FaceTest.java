import java.lang.reflect.Constructor;
import java.lang.reflect.Field;
import java.lang.reflect.Method;
import java.lang.reflect.Modifier;
import java.util.Arrays;
import java.util.List;
import java.util.Random;
import java.util.TreeSet;
import java.util.stream.Collectors;

/** The face of the document and no more; no call throws, whatever it is given. */
public final class FaceTest {
    private static final Check CHECK = new Check();
    private static final String FACE = """
        int pale(int,int,int)
        int road(int,int,int)
        int farm(int,int,int)
        int likes(int,int,int)
        int say(int)
        int wipe()
        int fault()
        int judge(int)
        int done()
        int behind(int,int)
        int goes(int,int)
        int then(int)
        int round(int,int)
        int mends(int)
        int steady()
        int wed(int,int,int)
        int seen(int,int,boolean)
        int forget()
        int posts(int)
        int ask(int)
        int heaps(int,int)
        long gust(int,int,int,int,int)
        int year(int,int,int)
        int image(int)
        int restore(int)
        int told(int)
        """;
    private static final int[] EXTREMES = {
        Integer.MIN_VALUE, Integer.MIN_VALUE + 1, -1000000, -101, -100, -10, -7, -6, -2, -1, 0, 1, 2, 3, 4, 5, 6, 7, 8,
        9, 10, 12, 13, 40, 41, 60, 61, 99, 100, 101, 123, 127, 299, 300, 3210, 9999, 10000, 65537,
        Integer.MAX_VALUE - 1, Integer.MAX_VALUE};

    public static void main(String[] args) throws Exception {
        members();
        constants();
        nothingThrows();
        CHECK.end();
    }

    private static void members() {
        TreeSet<String> due = new TreeSet<>(List.of(FACE.strip().split("\n")));
        TreeSet<String> got = new TreeSet<>();
        for (Method m : PaleMoor.class.getDeclaredMethods()) {
            if (!Modifier.isPrivate(m.getModifiers())) {
                String types = Arrays.stream(m.getParameterTypes()).map(Class::getName)
                    .collect(Collectors.joining(","));
                got.add(m.getReturnType() + " " + m.getName() + "(" + types + ")");
                CHECK.holds(m + " is public, not static", Modifier.isPublic(m.getModifiers())
                    && !Modifier.isStatic(m.getModifiers()));
            }
        }
        CHECK.holds("the methods are " + due + ", not " + got, due.equals(got));
        CHECK.holds("the class is public and final", Modifier.isPublic(PaleMoor.class.getModifiers())
            && Modifier.isFinal(PaleMoor.class.getModifiers()));
        Constructor<?>[] makers = PaleMoor.class.getDeclaredConstructors();
        CHECK.holds("one public constructor without parameters", makers.length == 1
            && Modifier.isPublic(makers[0].getModifiers()) && makers[0].getParameterCount() == 0);
        TreeSet<String> open = new TreeSet<>();
        for (Field f : PaleMoor.class.getDeclaredFields()) {
            if (!Modifier.isPrivate(f.getModifiers())) {
                open.add(f.getType() + " " + f.getName());
            }
        }
        CHECK.holds("the open fields are the constants, not " + open, open.toString().equals(
            "[int FULL, int NO, int NONE, int OUTSIDE, int STATE, int UNKNOWN, long LOST]"));
    }

    private static void constants() {
        CHECK.due("NONE", PaleMoor.NONE, -6);
        CHECK.due("UNKNOWN", PaleMoor.UNKNOWN, -1);
        CHECK.due("OUTSIDE", PaleMoor.OUTSIDE, -2);
        CHECK.due("STATE", PaleMoor.STATE, -3);
        CHECK.due("FULL", PaleMoor.FULL, -4);
        CHECK.due("NO", PaleMoor.NO, -5);
        CHECK.due("LOST", PaleMoor.LOST, -1000000000000000000L);
    }

    private static void nothingThrows() throws Exception {
        Random draw = new Random(5);
        Method[] calls = Arrays.stream(PaleMoor.class.getDeclaredMethods())
            .filter(m -> Modifier.isPublic(m.getModifiers()))
            .sorted((a, b) -> a.getName().compareTo(b.getName())).toArray(Method[]::new);
        for (int run = 0; run < 400; run++) {
            PaleMoor x = new PaleMoor();
            for (int i = 0; i < 512; i++) {
                Method call = calls[draw.nextInt(calls.length)];
                Object[] given = new Object[call.getParameterCount()];
                for (int p = 0; p < given.length; p++) {
                    given[p] = call.getParameterTypes()[p] == boolean.class ? (Object) draw.nextBoolean()
                        : (Object) EXTREMES[draw.nextInt(EXTREMES.length)];
                }
                invoke(x, call, given);
            }
        }
    }

    private static void invoke(PaleMoor x, Method call, Object[] given) throws Exception {
        try {
            call.invoke(x, given);
        } catch (java.lang.reflect.InvocationTargetException thrown) {
            CHECK.holds(call.getName() + Arrays.toString(given) + " threw " + thrown.getCause(), false);
        }
    }
}
