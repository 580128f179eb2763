import java.io.IOException;
import java.lang.reflect.Constructor;
import java.lang.reflect.Field;
import java.lang.reflect.Method;
import java.lang.reflect.Modifier;
import java.nio.file.Files;
import java.nio.file.Path;
import java.util.ArrayList;
import java.util.List;
import java.util.TreeSet;

/** The class's face has to be that of the document, and nothing more. */
public final class FaceTest {
    private static TreeSet<String> documented() throws IOException {
        String text = Files.readString(Path.of("../shared/DOC.md"));
        int start = text.indexOf("public final class RankDesk");
        String face = text.substring(start, text.indexOf("```", start));
        TreeSet<String> members = new TreeSet<>();
        for (String line : face.split("\n")) {
            String member = line.trim();
            if (member.startsWith("public") && member.endsWith(";")) {
                members.add(member.replaceAll("(int|long|boolean) \\w+(?=[,)])", "$1"));
            }
        }
        return members;
    }

    private static String joined(Class<?>[] types) {
        List<String> names = new ArrayList<>();
        for (Class<?> type : types) {
            names.add(type.getSimpleName());
        }
        return String.join(", ", names);
    }

    private static String tail(Class<?>[] parameters, Class<?>[] exceptions) {
        return "(" + joined(parameters) + ")" + (exceptions.length > 0 ? " throws " + joined(exceptions) : "") + ";";
    }

    private static TreeSet<String> built() throws IllegalAccessException {
        TreeSet<String> members = new TreeSet<>();
        for (Field field : RankDesk.class.getDeclaredFields()) {
            if (!Modifier.isPrivate(field.getModifiers())) {
                members.add(Modifier.toString(field.getModifiers()) + " " + field.getType() + " " + field.getName()
                        + " = " + field.get(null) + ";");
            }
        }
        for (Constructor<?> constructor : RankDesk.class.getDeclaredConstructors()) {
            members.add(Modifier.toString(constructor.getModifiers()) + " RankDesk"
                    + tail(constructor.getParameterTypes(), constructor.getExceptionTypes()));
        }
        for (Method method : RankDesk.class.getDeclaredMethods()) {
            if (!Modifier.isPrivate(method.getModifiers())) {
                members.add(Modifier.toString(method.getModifiers()) + " " + method.getReturnType() + " "
                        + method.getName() + tail(method.getParameterTypes(), method.getExceptionTypes()));
            }
        }
        return members;
    }

    private static void privateNames() {
        TreeSet<String> open = new TreeSet<>();
        for (Method method : RankDesk.class.getDeclaredMethods()) {
            if (Modifier.isPublic(method.getModifiers())) {
                open.add(method.getName());
            }
        }
        for (Method method : RankDesk.class.getDeclaredMethods()) {
            Check.isTrue("private " + method.getName() + " has a name of its own",
                    Modifier.isPublic(method.getModifiers()) || !open.contains(method.getName()));
        }
        for (Class<?> inner : RankDesk.class.getDeclaredClasses()) {
            Check.isTrue(inner.getSimpleName() + " is private and static", Modifier.isStatic(inner.getModifiers())
                    && Modifier.isPrivate(inner.getModifiers()));
        }
    }

    public static void main(String[] args) throws Exception {
        TreeSet<String> due = documented();
        TreeSet<String> got = built();
        Check.same("the number of members", due.size(), 67);
        Check.same("the face", got, due);
        Check.isTrue("it is public and final",
                RankDesk.class.getModifiers() == (Modifier.PUBLIC | Modifier.FINAL));
        privateNames();
        Check.end();
    }
}
