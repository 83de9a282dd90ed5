import java.lang.reflect.InvocationTargetException;
import java.lang.reflect.Method;
import java.lang.reflect.Modifier;
import java.nio.file.Files;
import java.nio.file.Path;
import java.util.ArrayList;
import java.util.Arrays;
import java.util.Comparator;
import java.util.HashMap;
import java.util.List;
import java.util.Map;
import java.util.regex.Matcher;
import java.util.regex.Pattern;

/**
 * Stray calls with all kinds of arguments: each exception is one that the document names for the call, a call that
 * throws changes nothing, and the same calls give the same answers.
 */
public final class StrayTest {
    private static final int[] ODD = {-1, 8, 9, 16, 40, 41, 128, 129, 201, 1023, 1024, 9999, 10000,
        Integer.MAX_VALUE, Integer.MIN_VALUE};
    private static final Map<String, String> ALLOWED = new HashMap<>();
    private static long seed = 1;

    public static void main(String[] args) throws Exception {
        readAllowed();
        Method[] methods = methodsByName();
        for (int game = 0; game < 400; game++) {
            play(methods, game);
        }
        Check.end();
    }

    private static void readAllowed() throws Exception {
        Pattern signature = Pattern.compile("^    public \\w+ (\\w+)\\(.*\\)( throws (.*))?;$");
        for (String text : Files.readAllLines(Path.of("../shared/DOC.md"))) {
            Matcher match = signature.matcher(text);
            if (match.matches()) {
                ALLOWED.put(match.group(1), match.group(3) == null ? "" : match.group(3));
            }
        }
    }

    private static Method[] methodsByName() {
        List<Method> methods = new ArrayList<>();
        for (Method method : BusHandler.class.getDeclaredMethods()) {
            if (Modifier.isPublic(method.getModifiers())) {
                methods.add(method);
            }
        }
        methods.sort(Comparator.comparing(Method::getName));
        return methods.toArray(new Method[0]);
    }

    /** The twin gets only the calls that did not throw, so both must tell the same in the end. */
    private static void play(Method[] methods, int game) throws Exception {
        BusHandler board = new BusHandler();
        BusHandler twin = new BusHandler();
        for (int n = 0; n < 512; n++) {
            Method method = pick(methods, n);
            Object[] arguments = argumentsFor(method, game % 4 != 0);
            String what = "game " + game + ", call " + n + ": " + method.getName() + Arrays.toString(arguments);
            try {
                Object answer = method.invoke(board, arguments);
                Check.due(what, String.valueOf(answer), String.valueOf(method.invoke(twin, arguments)));
            } catch (InvocationTargetException e) {
                String name = e.getCause().getClass().getSimpleName();
                String allowed = ", " + ALLOWED.get(method.getName()) + ",";
                Check.due(what + " throws " + name, allowed.contains(", " + name + ","), true);
            }
        }
        Check.due("game " + game + " ends alike", shown(board, methods), shown(twin, methods));
        Check.due("game " + game + " is consistent", board.isConsistent(), true);
    }

    /** A game begins with calls that build, so that the others find agents. */
    private static Method pick(Method[] methods, int n) {
        Method method = methods[next(methods.length)];
        for (int tries = 0; tries < 500 && n < 40 && !isBuilding(method); tries++) {
            method = methods[next(methods.length)];
        }
        return method;
    }

    private static boolean isBuilding(Method method) {
        return method.getName().startsWith("add");
    }

    private static Object[] argumentsFor(Method method, boolean isTame) {
        Class<?>[] types = method.getParameterTypes();
        Object[] arguments = new Object[types.length];
        for (int i = 0; i < types.length; i++) {
            if (types[i] == boolean.class) {
                arguments[i] = next(2) == 0;
            } else if (next(isTame ? 30 : 4) == 0) {
                arguments[i] = ODD[next(ODD.length)];
            } else if (i == 0) {
                arguments[i] = method.getName().equals("run") ? 1 + next(30) : next(isTame ? 8 : 16) % (1 + next(16));
            } else {
                arguments[i] = next(3) == 0 ? next(8) : next(200);
            }
        }
        return arguments;
    }

    private static int next(int bound) {
        seed = seed * 6364136223846793005L + 1442695040888963407L;
        return (int) Long.remainderUnsigned(seed >>> 33, bound);
    }

    /** All that the calls that only look can tell, for small arguments. */
    private static String shown(BusHandler board, Method[] methods) throws Exception {
        StringBuilder text = new StringBuilder();
        for (Method method : methods) {
            String name = method.getName();
            Class<?>[] types = method.getParameterTypes();
            boolean isLook = !name.matches("add.*|set.*|put|spoil|load|pull|run|moveWindow");
            if (isLook && types.length < 3) {
                for (int a = 0; a < (types.length > 0 ? 16 : 1); a++) {
                    for (int b = 0; b < (types.length > 1 ? 20 : 1); b++) {
                        text.append(answer(board, method, types, a, b)).append(' ');
                    }
                }
            }
        }
        return text.toString();
    }

    private static String answer(BusHandler board, Method method, Class<?>[] types, int a, int b) throws Exception {
        Object[] arguments = new Object[types.length];
        for (int i = 0; i < types.length; i++) {
            int value = i == 0 ? a : b;
            arguments[i] = types[i] == boolean.class ? (Object) (value % 2 == 1) : (Object) value;
        }
        try {
            return String.valueOf(method.invoke(board, arguments));
        } catch (InvocationTargetException e) {
            return e.getCause().getClass().getSimpleName();
        }
    }
}
