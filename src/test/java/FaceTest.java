import java.lang.management.ManagementFactory;
import java.lang.reflect.Constructor;
import java.lang.reflect.Field;
import java.lang.reflect.Method;
import java.lang.reflect.Modifier;
import java.nio.charset.StandardCharsets;
import java.nio.file.Files;
import java.nio.file.Path;
import java.util.Set;
import java.util.TreeSet;
import java.util.regex.Matcher;
import java.util.regex.Pattern;

/** The public face, the rules of LANGUAGE.md that a test can see, and what a run of calls makes. */
public final class FaceTest {
    private static final Checks c = new Checks();
    private static final String[] METHODS = {
        "boolean gulf(int,int)", "boolean land(int,int,boolean)", "boolean ice(int,int,int,int,boolean)",
        "boolean weather(int,int,int,int,int)", "int ship(int,int,int,int)", "int feed(int,int,int,int,int)",
        "int end(int)", "int orders(int)", "int fault(int)", "boolean call(int,int)", "int hours(int)",
        "int ahead(int,int,int)", "int cell(int,int,int)", "int tell(int,int)", "int count(int)",
        "int passage(int,int,int)", "void clear()", "int turns(int)", "int turn(int)", "int cost(int,int)",
        "boolean image(int)", "boolean again(int)",
    };
    private static final String[] FORBIDDEN = {
        "\\bthrow\\b", "\\bthrows\\b", "\\btry\\b", "\\bcatch\\b", "\\bsynchronized\\b", "\\bassert\\b", "->", "::",
        "\\bgoto\\b", "Exact\\b", "\\bhashCode\\b", "\\bequals\\(", "\\btoString\\b", "Random", "\\bpackage\\b",
        "System\\.(?!arraycopy)", "Arrays\\.(?!copyOf|copyOfRange|fill)", "import (?!java\\.util\\.Arrays;)",
        "\\bstatic \\{", "\"\\s*\\+", "\\+\\s*\"",
    };

    public static void main(String[] args) throws Exception {
        face();
        members();
        source(Files.readString(Path.of(args[0]), StandardCharsets.UTF_8));
        extremes();
        room();
        c.finish("FaceTest");
    }

    private static String written(Method method) {
        StringBuilder text = new StringBuilder(method.getReturnType() + " " + method.getName() + "(");
        String between = "";
        for (Class<?> type : method.getParameterTypes()) {
            text.append(between).append(type);
            between = ",";
        }
        return text + ")";
    }

    private static void face() {
        int modifiers = IcePilots.class.getModifiers();
        c.yes("public final", Modifier.isPublic(modifiers) && Modifier.isFinal(modifiers));
        Set<String> due = new TreeSet<>(Set.of(METHODS));
        Set<String> names = new TreeSet<>();
        Set<String> got = new TreeSet<>();
        for (Method method : IcePilots.class.getDeclaredMethods()) {
            if (Modifier.isPublic(method.getModifiers())) {
                got.add(written(method));
                names.add(method.getName());
                c.no("static " + method, Modifier.isStatic(method.getModifiers()));
            }
        }
        c.yes("the methods: " + got, got.equals(due));
        Constructor<?>[] constructors = IcePilots.class.getDeclaredConstructors();
        c.same("constructors", constructors.length, 1);
        c.yes("it is public", Modifier.isPublic(constructors[0].getModifiers()));
        c.same("its parameters", constructors[0].getParameterCount(), 0);
        for (Method method : IcePilots.class.getDeclaredMethods()) {
            boolean open = Modifier.isPublic(method.getModifiers());
            c.yes("private: " + method, open || Modifier.isPrivate(method.getModifiers()));
            c.no("a public one's name: " + method, !open && names.contains(method.getName()));
        }
    }

    private static void members() {
        for (Field field : IcePilots.class.getDeclaredFields()) {
            boolean none = field.getName().equals("NONE");
            c.yes("private or NONE: " + field, none || Modifier.isPrivate(field.getModifiers()));
        }
        Class<?>[] inside = IcePilots.class.getDeclaredClasses();
        c.yes("some twelve classes", inside.length < 12);
        for (Class<?> one : inside) {
            c.yes("static: " + one, Modifier.isStatic(one.getModifiers()));
            int fields = 0;
            for (Field field : one.getDeclaredFields()) {
                boolean constant = Modifier.isStatic(field.getModifiers());
                c.yes("final if static: " + field, !constant || Modifier.isFinal(field.getModifiers()));
                fields += constant ? 0 : 1;
            }
            c.yes("some twenty fields: " + one, fields <= 20);
            for (Method method : one.getDeclaredMethods()) {
                c.yes("at most seven parameters: " + method, method.getParameterCount() <= 7);
            }
        }
    }

    private static void source(String text) {
        String code = text.replaceAll("(?s)/\\*.*?\\*/", "").replaceAll("//[^\n]*", "");
        for (String pattern : FORBIDDEN) {
            Matcher matcher = Pattern.compile(pattern).matcher(code);
            c.no("the source has " + pattern, matcher.find());
        }
    }

    /** No call throws, whatever its arguments are. */
    private static void extremes() {
        int[] far = {Integer.MIN_VALUE, Integer.MIN_VALUE + 1, -3, -2, -1, 0, 1, 7, 8, 9, 63, 64, 100, 400, 999, 1000,
            1001, 262144, Integer.MAX_VALUE - 1, Integer.MAX_VALUE};
        for (int a : far) {
            for (int b : far) {
                IcePilots x = new IcePilots();
                x.gulf(a, b);
                x.land(a, b, true);
                x.land(a, b, false);
                x.ice(a, b, a, b, true);
                x.weather(a, b, a, b, a);
                x.weather(0, a, 0, 0, b);
                x.ship(a, b, b, a);
                x.ship(5, 5, 0, 0);
                x.feed(a, b, a, b, a);
                x.end(a);
                x.orders(b);
                x.fault(a);
                x.call(a, b);
                x.hours(a);
                x.ahead(a, b, a);
                x.ahead(1, a, b);
                x.cell(a, b, a);
                x.cell(0, 0, b);
                x.tell(a, b);
                x.count(a);
                x.passage(a, b, a);
                x.passage(1, 1, 1);
                x.turns(a);
                x.turns(1);
                x.turn(a);
                x.cost(a, b);
                x.image(a);
                x.again(a);
                c.same("ice stays in balance", x.count(4) + x.count(5), x.count(6) + x.count(7) - x.count(8));
            }
        }
    }

    private static long made() {
        return ((com.sun.management.ThreadMXBean) ManagementFactory.getThreadMXBean()).getCurrentThreadAllocatedBytes();
    }

    /** The room of a run holds some 7.3 million fields and elements; the dearest calls of one object stay far below. */
    private static void room() {
        String text = "if row=1or row=1or row=1or row=1or row=1or row=1or row=1or row=1or row=1or row=1:cut;".repeat(4);
        int[] bytes = Checks.numbers(text);
        long before = made();
        IcePilots x = new IcePilots();
        x.gulf(8, 8);
        int calls = 1;
        for (int ship = 0; ship < 8; ship++) {
            x.ship(100, 5000, ship, ship);
            calls += 1 + giveOrders(x, ship, bytes, text.length());
        }
        for (; calls + 4 <= Run.MOST_CALLS; calls += 4) {
            x.ahead(100, 0, 0);
            x.image(calls / 4 % 3);
            x.again(calls / 4 % 3);
            x.turns(2);
        }
        long used = made() - before;
        c.yes("what it makes (bytes): " + used, used < 500_000);
        before = made();
        IcePilots y = new IcePilots();
        y.ship(100, 5000, 0, 0);
        for (calls = 1; calls + 22 <= Run.MOST_CALLS;) {
            calls += giveOrders(y, 0, bytes, text.length());
        }
        used = made() - before;
        c.yes("what reading makes (bytes): " + used, used < 500_000);
    }

    private static int giveOrders(IcePilots x, int ship, int[] bytes, int length) {
        for (int k = 0; k < bytes.length; k += 5) {
            x.feed(bytes[k], bytes[k + 1], bytes[k + 2], bytes[k + 3], bytes[k + 4]);
        }
        x.end(length);
        c.same("lines", x.orders(ship), 4);
        return bytes.length / 5 + 2;
    }
}
