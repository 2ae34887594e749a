import java.lang.reflect.Constructor;
import java.lang.reflect.Field;
import java.lang.reflect.Method;
import java.lang.reflect.Modifier;
import java.nio.file.Files;
import java.nio.file.Path;
import java.util.ArrayList;
import java.util.Arrays;
import java.util.List;
import java.util.Set;
import java.util.TreeSet;
import java.util.regex.Matcher;
import java.util.regex.Pattern;

/** The class shows the face that the document tells, and no more (rule 1 of LANGUAGE.md). */
public final class FaceTest {
    private static int wrong = 0;

    public static void main(String[] args) throws Exception {
        Set<String> told = new TreeSet<>();
        String document = Files.readString(Path.of("../shared/DOC.md"));
        String face = document.substring(document.indexOf("```java"));
        Matcher m = Pattern.compile("public (\\w+) (\\w+)\\(([^)]*)\\)(?: throws ([\\w, ]+))?;")
            .matcher(face.substring(0, face.indexOf("## Terms")));
        while (m.find()) {
            List<String> types = new ArrayList<>();
            for (String parameter : m.group(3).split(", ")) {
                if (!parameter.isEmpty()) {
                    types.add(parameter.split(" ")[0]);
                }
            }
            told.add(m.group(1) + " " + m.group(2) + types + " " + (m.group(4) == null ? "" : m.group(4)));
        }
        Set<String> shown = new TreeSet<>();
        Set<String> names = new TreeSet<>();
        for (Method method : PaperLand.class.getDeclaredMethods()) {
            if (!Modifier.isPrivate(method.getModifiers()) && !method.isSynthetic()) {
                shown.add(method.getReturnType() + " " + method.getName()
                    + Arrays.stream(method.getParameterTypes()).map(Class::getName).toList() + " "
                    + String.join(", ", Arrays.stream(method.getExceptionTypes()).map(Class::getSimpleName).toList()));
                names.add(method.getName());
                expect(Modifier.isPublic(method.getModifiers()), "not public: " + method);
            }
        }
        expect(told.size() == 41, "methods told: " + told.size());
        expect(told.equals(shown), "told " + told + "\nshown " + shown);
        expect(Modifier.isFinal(PaperLand.class.getModifiers()), "not final");
        for (Constructor<?> constructor : PaperLand.class.getDeclaredConstructors()) {
            expect(constructor.getParameterCount() == 0 && Modifier.isPublic(constructor.getModifiers()), "" + constructor);
        }
        for (Field field : PaperLand.class.getDeclaredFields()) {
            expect(Modifier.isPrivate(field.getModifiers()) || field.getName().equals("NONE"), "" + field);
        }
        expect(PaperLand.NONE == -1, "NONE");
        checkInside(PaperLand.class, names);
        for (Class<?> inside : PaperLand.class.getDeclaredClasses()) {
            expect(Modifier.isStatic(inside.getModifiers()) && !Modifier.isPublic(inside.getModifiers())
                && !Modifier.isProtected(inside.getModifiers()), "" + inside);
            checkInside(inside, names);
        }
        if (wrong > 0) {
            System.exit(1);
        }
        System.out.println("the face is the document's");
    }

    private static void checkInside(Class<?> type, Set<String> names) {
        for (Method method : type.getDeclaredMethods()) {
            expect(Modifier.isPublic(method.getModifiers()) || !names.contains(method.getName()),
                "bears the name of a public method: " + method);
            expect(method.getParameterCount() <= 7, "too many parameters: " + method);
        }
        for (Field field : type.getDeclaredFields()) {
            expect(!Modifier.isStatic(field.getModifiers()) || Modifier.isFinal(field.getModifiers()), "" + field);
        }
    }

    private static void expect(boolean holds, String what) {
        if (!holds) {
            wrong++;
            System.out.println(what);
        }
    }
}
