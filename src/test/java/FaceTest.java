import java.lang.reflect.Constructor;
import java.lang.reflect.Field;
import java.lang.reflect.Method;
import java.lang.reflect.Modifier;
import java.nio.file.Files;
import java.nio.file.Path;
import java.util.ArrayList;
import java.util.List;
import java.util.Set;
import java.util.TreeSet;
import java.util.regex.Matcher;
import java.util.regex.Pattern;

/** The face of the class: what the document lists under 'The public face', and no other member outside. */
public final class FaceTest {
    public static void main(String[] args) throws Exception {
        Set<String> due = membersOfDocument();
        Checks.due("members in the document", true, () -> due.size() == 58);
        Set<String> got = membersOfClass();
        for (String member : due) {
            Checks.due("has " + member, true, () -> got.contains(member));
        }
        for (String member : got) {
            Checks.due("rules out " + member, true, () -> due.contains(member));
        }
        Checks.due("no private method has a public one's name", true, FaceTest::namesAreApart);
        Checks.end();
    }

    private static Set<String> membersOfDocument() throws Exception {
        String page = Files.readString(Path.of("../shared/DOC.md"));
        String face = page.substring(page.indexOf("```java"), page.indexOf("## Terms"));
        Set<String> members = new TreeSet<>();
        Matcher matcher = Pattern.compile("public ((?:\\w+ )?)(\\w+)\\(([^)]*)\\)(?: throws ([\\w, ]+))?;").matcher(face);
        while (matcher.find()) {
            List<String> types = new ArrayList<>();
            for (String parameter : matcher.group(3).split(",\\s*")) {
                if (!parameter.isEmpty()) {
                    types.add(parameter.split(" ")[0]);
                }
            }
            String thrown = matcher.group(4) == null ? "" : matcher.group(4);
            members.add(matcher.group(1) + matcher.group(2) + "(" + String.join(", ", types) + ") " + thrown);
        }
        return members;
    }

    private static Set<String> membersOfClass() {
        Set<String> members = new TreeSet<>();
        for (Constructor<?> constructor : EngineMonastery.class.getDeclaredConstructors()) {
            members.add("EngineMonastery" + signature(constructor.getParameterTypes(), constructor.getExceptionTypes()));
        }
        for (Method method : EngineMonastery.class.getDeclaredMethods()) {
            if (!Modifier.isPrivate(method.getModifiers()) && !method.isSynthetic()) {
                members.add(method.getReturnType().getSimpleName() + " " + method.getName()
                        + signature(method.getParameterTypes(), method.getExceptionTypes()));
            }
        }
        for (Field field : EngineMonastery.class.getDeclaredFields()) {
            if (!Modifier.isPrivate(field.getModifiers()) && !field.isSynthetic()) {
                members.add("field " + field.getName());
            }
        }
        return members;
    }

    private static String signature(Class<?>[] parameters, Class<?>[] exceptions) {
        return "(" + names(parameters) + ") " + names(exceptions);
    }

    private static String names(Class<?>[] types) {
        List<String> names = new ArrayList<>();
        for (Class<?> type : types) {
            names.add(type.getSimpleName());
        }
        return String.join(", ", names);
    }

    private static boolean namesAreApart() {
        Set<String> face = new TreeSet<>();
        for (Method method : EngineMonastery.class.getDeclaredMethods()) {
            if (Modifier.isPublic(method.getModifiers())) {
                face.add(method.getName());
            }
        }
        List<Class<?>> inside = new ArrayList<>(List.of(EngineMonastery.class.getDeclaredClasses()));
        inside.add(EngineMonastery.class);
        for (Class<?> type : inside) {
            for (Method method : type.getDeclaredMethods()) {
                if (!Modifier.isPublic(method.getModifiers()) && face.contains(method.getName())) {
                    return false;
                }
            }
        }
        return true;
    }
}
