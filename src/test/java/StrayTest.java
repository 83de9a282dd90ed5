import java.lang.reflect.InvocationTargetException;
import java.lang.reflect.Method;
import java.lang.reflect.Modifier;
import java.nio.file.Files;
import java.nio.file.Path;
import java.util.ArrayList;
import java.util.Arrays;
import java.util.Comparator;
import java.util.HashMap;
import java.util.List;
import java.util.Map;
import java.util.regex.Matcher;
import java.util.regex.Pattern;

/**
 * Stray calls with all kinds of arguments: each exception is one that the document names for the call, a call that
 * throws changes nothing, and the same calls give the same answers.
 */
public final class StrayTest {
    private static final int[] ODD = {-1, 8, 9, 16, 40, 41, 128, 129, 201, 1023, 1024, 9999, 10000,
        Integer.MAX_VALUE, Integer.MIN_VALUE};
    /** Together fewer than the 512 calls for which an object is used. */
    private static final int CALLS = 260;
    private static final int LOOKS = 250;
    private static final String CHANGES = "add.*|set.*|put|spoil|load|pull|run|moveWindow";
    private static final Map<String, String> ALLOWED = new HashMap<>();
    private static long seed = 1;

    public static void main(String[] args) throws Exception {
        readAllowed();
        Method[] methods = methodsByName();
        for (int game = 0; game < 800; game++) {
            play(methods, game);
        }
        Check.end();
    }

    private static void readAllowed() throws Exception {
        Pattern signature = Pattern.compile("^    public \\w+ (\\w+)\\(.*\\)( throws (.*))?;$");
        for (String text : Files.readAllLines(Path.of("../shared/DOC.md"))) {
            Matcher match = signature.matcher(text);
            if (match.matches()) {
                ALLOWED.put(match.group(1), match.group(3) == null ? "" : match.group(3));
            }
        }
    }

    private static Method[] methodsByName() {
        List<Method> methods = new ArrayList<>();
        for (Method method : BusHandler.class.getDeclaredMethods()) {
            if (Modifier.isPublic(method.getModifiers())) {
                methods.add(method);
            }
        }
        methods.sort(Comparator.comparing(Method::getName));
        return methods.toArray(new Method[0]);
    }

    /** The twin gets only the calls that did not throw, so both must tell the same in the end. */
    private static void play(Method[] methods, int game) throws Exception {
        BusHandler board = new BusHandler();
        BusHandler twin = new BusHandler();
        for (int n = 0; n < CALLS; n++) {
            Method method = pick(methods, n);
            Object[] arguments = argumentsFor(method, game % 4 != 0);
            String what = "game " + game + ", call " + n + ": " + method.getName() + Arrays.toString(arguments);
            try {
                Object answer = method.invoke(board, arguments);
                Check.due(what, String.valueOf(answer), String.valueOf(method.invoke(twin, arguments)));
            } catch (InvocationTargetException e) {
                String name = e.getCause().getClass().getSimpleName();
                String allowed = ", " + ALLOWED.get(method.getName()) + ",";
                Check.due(what + " throws " + name, allowed.contains(", " + name + ","), true);
            }
        }
        for (int n = 0; n < LOOKS; n++) {
            Method method = pickLook(methods);
            Object[] arguments = argumentsFor(method, true);
            String what = "game " + game + " ends alike: " + method.getName() + Arrays.toString(arguments);
            Check.due(what, answer(board, method, arguments), answer(twin, method, arguments));
        }
        Check.due("game " + game + " is consistent", board.isConsistent(), true);
    }

    /** A game begins with calls that build, so that the others find agents. */
    private static Method pick(Method[] methods, int n) {
        Method method = methods[next(methods.length)];
        for (int tries = 0; tries < 500 && n < 40 && !isBuilding(method); tries++) {
            method = methods[next(methods.length)];
        }
        return method;
    }

    private static boolean isBuilding(Method method) {
        return method.getName().startsWith("add");
    }

    private static Object[] argumentsFor(Method method, boolean isTame) {
        Class<?>[] types = method.getParameterTypes();
        Object[] arguments = new Object[types.length];
        for (int i = 0; i < types.length; i++) {
            if (types[i] == boolean.class) {
                arguments[i] = next(2) == 0;
            } else if (next(isTame ? 30 : 4) == 0) {
                arguments[i] = ODD[next(ODD.length)];
            } else if (i == 0) {
                arguments[i] = method.getName().equals("run") ? 1 + next(30) : next(isTame ? 8 : 16) % (1 + next(16));
            } else {
                arguments[i] = next(3) == 0 ? next(8) : next(200);
            }
        }
        return arguments;
    }

    private static int next(int bound) {
        seed = seed * 6364136223846793005L + 1442695040888963407L;
        return (int) Long.remainderUnsigned(seed >>> 33, bound);
    }

    /** One of the calls that only look. */
    private static Method pickLook(Method[] methods) {
        Method method = methods[next(methods.length)];
        for (int tries = 0; tries < 500 && method.getName().matches(CHANGES); tries++) {
            method = methods[next(methods.length)];
        }
        return method;
    }

    private static String answer(BusHandler board, Method method, Object[] arguments) throws Exception {
        try {
            return String.valueOf(method.invoke(board, arguments));
        } catch (InvocationTargetException e) {
            return e.getCause().getClass().getSimpleName();
        }
    }
}
