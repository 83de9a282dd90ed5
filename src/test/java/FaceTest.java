import java.lang.reflect.Constructor;
import java.lang.reflect.Field;
import java.lang.reflect.Method;
import java.lang.reflect.Modifier;
import java.nio.file.Files;
import java.nio.file.Path;
import java.util.TreeSet;
import java.util.regex.Matcher;
import java.util.regex.Pattern;

/** The public face: exactly the signatures that the document lists, with their throws clauses. */
public final class FaceTest {
    public static void main(String[] args) throws Exception {
        TreeSet<String> wanted = new TreeSet<>();
        Pattern signature = Pattern.compile("^    public (\\w+ \\w+)\\((.*)\\)( throws .*)?;$");
        for (String text : Files.readAllLines(Path.of("../shared/DOC.md"))) {
            Matcher match = signature.matcher(text);
            if (match.matches()) {
                String types = match.group(2).replaceAll(" \\w+(,|$)", "$1");
                String thrown = match.group(3) == null ? "" : match.group(3);
                wanted.add(match.group(1) + "(" + types + ")" + thrown);
            }
        }
        TreeSet<String> found = new TreeSet<>();
        TreeSet<String> hidden = new TreeSet<>();
        for (Method method : BusHandler.class.getDeclaredMethods()) {
            if (Modifier.isPublic(method.getModifiers())) {
                found.add(textOf(method));
            } else {
                hidden.add(method.getName());
                Check.due(method.getName() + " is private", Modifier.isPrivate(method.getModifiers()), true);
            }
        }
        Check.due("the document's methods", wanted.size(), 60);
        for (String face : wanted) {
            Check.due("wanting: " + face, found.contains(face), true);
        }
        for (String face : found) {
            Check.due("not in the document: " + face, wanted.contains(face), true);
        }
        for (String face : wanted) {
            String name = face.substring(face.indexOf(' ') + 1, face.indexOf('('));
            Check.due("a private method of the name " + name, hidden.contains(name), false);
        }
        Check.due("final", Modifier.isFinal(BusHandler.class.getModifiers()), true);
        Constructor<?>[] constructors = BusHandler.class.getDeclaredConstructors();
        Check.due("constructors", constructors.length, 1);
        Check.due("its parameters", constructors[0].getParameterCount(), 0);
        Check.due("its exceptions", constructors[0].getExceptionTypes().length, 0);
        Check.due("it is public", Modifier.isPublic(constructors[0].getModifiers()), true);
        for (Field field : BusHandler.class.getDeclaredFields()) {
            Check.due(field.getName() + " is private", Modifier.isPrivate(field.getModifiers()), true);
        }
        for (Class<?> inside : BusHandler.class.getDeclaredClasses()) {
            boolean isHidden = (inside.getModifiers() & (Modifier.PUBLIC | Modifier.PROTECTED)) == 0;
            Check.due(inside.getName() + " is hidden", isHidden, true);
            Check.due(inside.getName() + " is static", Modifier.isStatic(inside.getModifiers()), true);
        }
        Check.end();
    }

    private static String textOf(Method method) {
        StringBuilder text = new StringBuilder();
        text.append(method.getReturnType().getSimpleName()).append(' ').append(method.getName()).append('(');
        String between = "";
        for (Class<?> type : method.getParameterTypes()) {
            text.append(between).append(type.getSimpleName());
            between = ", ";
        }
        text.append(')');
        between = " throws ";
        for (Class<?> thrown : method.getExceptionTypes()) {
            text.append(between).append(thrown.getSimpleName());
            between = ", ";
        }
        return text.toString();
    }
}
