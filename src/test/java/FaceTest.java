import java.io.IOException;
import java.lang.reflect.Field;
import java.lang.reflect.Member;
import java.lang.reflect.Method;
import java.lang.reflect.Modifier;
import java.nio.charset.StandardCharsets;
import java.nio.file.Files;
import java.nio.file.Path;
import java.util.Arrays;
import java.util.Set;
import java.util.TreeSet;
import java.util.stream.Collectors;

/** "The public face": what the class offers is what the document writes, no less and no more. */
public final class FaceTest {
    private static final String[] CONSTANTS = {"SYNTAX_ERROR = -2", "OUT_OF_RANGE = -3", "REPEATED = -4", "TOO_MANY = -5", "TOO_DEEP = -6"};

    public static void main(String[] args) throws IOException, IllegalAccessException {
        Class<QuestLedger> face = QuestLedger.class;
        Set<String> offered = new TreeSet<>();
        offered.add(Modifier.toString(face.getModifiers()) + " class " + face.getName());
        Arrays.stream(face.getDeclaredConstructors()).filter(FaceTest::isSeen)
            .forEach(c -> offered.add(Modifier.toString(c.getModifiers()) + " " + c.getName() + names("(", c.getParameterTypes(), ")")));
        Arrays.stream(face.getDeclaredMethods()).filter(FaceTest::isSeen).forEach(m -> offered.add(told(m)));
        for (Field field : face.getDeclaredFields()) {
            if (isSeen(field)) {
                offered.add(Modifier.toString(field.getModifiers()) + " " + field.getType() + " " + field.getName() + " = " + field.get(null));
            }
        }
        for (String constant : CONSTANTS) {
            Check.due(constant, true, () -> offered.contains("public static final int " + constant));
        }
        Check.due("1 class, 5 constants, 1 constructor, 31 methods", 38, offered::size);
        compareWithDocument(offered);
        Check.end();
    }

    private static boolean isSeen(Member member) {
        return !Modifier.isPrivate(member.getModifiers()) && !member.isSynthetic();
    }

    private static String told(Method method) {
        return Modifier.toString(method.getModifiers()) + " " + method.getReturnType() + " " + method.getName()
            + names("(", method.getParameterTypes(), ")") + names(" throws ", method.getExceptionTypes(), "");
    }

    private static String names(String ahead, Class<?>[] types, String behind) {
        String names = Arrays.stream(types).map(Class::getSimpleName).collect(Collectors.joining(", "));
        return names.isEmpty() && behind.isEmpty() ? "" : ahead + names + behind;
    }

    private static void compareWithDocument(Set<String> offered) throws IOException {
        Path document = Path.of("../shared/DOC.md");
        if (!Files.isReadable(document)) {
            System.out.println(document + " is not there: the face is not compared with it");
            return;
        }
        Set<String> written = new TreeSet<>();
        for (String line : Files.readAllLines(document, StandardCharsets.UTF_8)) {
            if (line.trim().startsWith("public ")) {
                written.add(line.trim().replaceAll("[;{]$", "").trim().replaceAll("(int|long) \\w+(?=[,)])", "$1"));
            }
        }
        Check.due("the face", written.toString(), offered::toString);
    }
}
