import java.lang.reflect.Constructor;
import java.lang.reflect.Field;
import java.lang.reflect.Method;
import java.lang.reflect.Modifier;
import java.nio.charset.StandardCharsets;
import java.nio.file.Files;
import java.nio.file.Path;
import java.util.ArrayList;
import java.util.Arrays;
import java.util.HashSet;
import java.util.List;
import java.util.Set;
import java.util.TreeSet;

/** The face is the document's, no more and no less, and the source keeps to what LANGUAGE.md rules out by name. */
public final class FaceTest {
    private static int wrong = 0;

    private static void check(boolean right, String what) {
        if (!right) {
            wrong++;
            System.out.println(what);
        }
    }

    private static String parameters(Class<?>[] types) {
        StringBuilder text = new StringBuilder();
        for (Class<?> type : types) {
            text.append(text.length() == 0 ? "" : ",").append(type.getName());
        }
        return text.toString();
    }

    private static Set<String> documented() throws Exception {
        Set<String> face = new TreeSet<>();
        boolean inside = false;
        for (String line : Files.readAllLines(Path.of("../shared/DOC.md"))) {
            inside = line.startsWith("```java") || inside && !line.startsWith("```");
            if (inside && line.startsWith("    public") && line.contains("(") && !line.contains("public LetterScarecrow")) {
                String head = line.substring(0, line.indexOf('(')).trim();
                String inner = line.substring(line.indexOf('(') + 1, line.indexOf(')')).trim();
                List<String> types = new ArrayList<>();
                for (String parameter : inner.isEmpty() ? new String[0] : inner.split(",")) {
                    types.add(parameter.trim().split(" ")[0]);
                }
                String[] words = head.split(" ");
                face.add(words[1] + " " + words[2] + "(" + String.join(",", types) + ")" + throwsOf(line));
            }
        }
        return face;
    }

    private static String throwsOf(String line) {
        Set<String> names = new TreeSet<>();
        int at = line.indexOf(" throws ");
        if (at >= 0) {
            for (String name : line.substring(at + 8, line.indexOf(';')).split(",")) {
                names.add(name.trim());
            }
        }
        return names.toString();
    }

    private static void checkMembers() throws Exception {
        Class<?> face = LetterScarecrow.class;
        check(Modifier.isPublic(face.getModifiers()) && Modifier.isFinal(face.getModifiers()), "the class is public and final");
        Set<String> publicOnes = new TreeSet<>();
        Set<String> publicNames = new HashSet<>();
        for (Method method : face.getDeclaredMethods()) {
            if (Modifier.isPublic(method.getModifiers())) {
                Set<String> thrown = new TreeSet<>();
                for (Class<?> type : method.getExceptionTypes()) {
                    thrown.add(type.getSimpleName());
                }
                publicNames.add(method.getName());
                publicOnes.add(method.getReturnType().getName() + " " + method.getName()
                    + "(" + parameters(method.getParameterTypes()) + ")" + thrown);
            }
        }
        check(publicOnes.equals(documented()), "public methods are " + publicOnes + ", due are " + documented());
        for (Method method : face.getDeclaredMethods()) {
            int bits = method.getModifiers();
            check(Modifier.isPublic(bits) || Modifier.isPrivate(bits) && !publicNames.contains(method.getName()),
                "method " + method.getName());
        }
        for (Field field : face.getDeclaredFields()) {
            int bits = field.getModifiers();
            check(Modifier.isPrivate(bits) || field.getName().equals("NONE"), "field " + field.getName());
            check(!Modifier.isStatic(bits) || Modifier.isFinal(bits), "static field " + field.getName());
        }
        Constructor<?>[] makers = face.getDeclaredConstructors();
        check(makers.length == 1 && makers[0].getParameterCount() == 0 && Modifier.isPublic(makers[0].getModifiers()),
            "one public constructor");
        check(LetterScarecrow.NONE == -1, "NONE");
    }

    private static void checkInside() {
        Class<?>[] inside = LetterScarecrow.class.getDeclaredClasses();
        check(inside.length <= 12, "twelve classes at most");
        for (Class<?> part : inside) {
            check(Modifier.isStatic(part.getModifiers()), part + " is static");
            long fields = Arrays.stream(part.getDeclaredFields()).filter(f -> !Modifier.isStatic(f.getModifiers())).count();
            check(fields <= 20, part + " has twenty fields at most");
            for (Method method : part.getDeclaredMethods()) {
                check(method.getParameterCount() <= 7, method + " takes seven parameters at most");
            }
        }
    }

    private static void checkSource() throws Exception {
        byte[] bytes = Files.readAllBytes(Path.of("src/main/java/LetterScarecrow.java"));
        String source = new String(bytes, StandardCharsets.ISO_8859_1);
        for (char sign : source.toCharArray()) {
            check(sign < 128, "a sign above 127");
        }
        String[] never = {"->", "::", "finally", "synchronized", "assert ", "Exact(", "catch", "@Override", "hashCode",
            "System.out", "System.nano", "Random", "Thread", "instanceof", "import java.io", ".length()]"};
        for (String text : never) {
            check(!source.contains(text), "the source holds " + text);
        }
        int imports = source.split("\nimport |^import ", -1).length - 1;
        check(imports == 1, "one import");
    }

    public static void main(String[] args) throws Exception {
        checkMembers();
        checkInside();
        checkSource();
        System.exit(wrong == 0 ? 0 : 1);
    }
}
