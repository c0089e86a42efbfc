import java.io.IOException;
import java.lang.reflect.Constructor;
import java.lang.reflect.Field;
import java.lang.reflect.Member;
import java.lang.reflect.Method;
import java.lang.reflect.Modifier;
import java.nio.file.Files;
import java.nio.file.Path;
import java.util.ArrayList;
import java.util.Arrays;
import java.util.HashSet;
import java.util.List;
import java.util.Set;
import java.util.regex.Matcher;
import java.util.regex.Pattern;

/** The document's face, and what can be seen of LANGUAGE.md in the source and by reflection. */
public final class LanguageTest {
    private static final Checks CHECKS = new Checks("LanguageTest");
    private static final Path SOURCE = Path.of("src/main/java/ThreeThrough.java");
    private static final Path DOCUMENT = Path.of("../shared/DOC.md");

    private LanguageTest() {
    }

    public static void main(String[] args) throws IOException {
        theFaceIsTheDocuments();
        noNameOfAPublicMethodIsUsedAgain();
        classesInsideAreFew();
        noWordThatIsRuledOut();
        methodsAreShort();
        CHECKS.end();
    }

    private static void theFaceIsTheDocuments() throws IOException {
        Set<String> told = new HashSet<>();
        Matcher face = Pattern.compile("public (int|long) (\\w+)\\((.*)\\);").matcher(Files.readString(DOCUMENT));
        while (face.find()) {
            told.add(face.group(1) + " " + face.group(2) + "(" + face.group(3).replaceAll(" \\w+(?=,|$)", "") + ")");
        }
        Set<String> built = new HashSet<>();
        for (Method method : ThreeThrough.class.getDeclaredMethods()) {
            if (Modifier.isPrivate(method.getModifiers())) continue;
            List<String> types = new ArrayList<>();
            for (Class<?> type : method.getParameterTypes()) types.add(type.getName());
            built.add(method.getReturnType() + " " + method.getName() + "(" + String.join(", ", types) + ")");
        }
        CHECKS.due("methods told", told.size(), 38);
        CHECKS.isTrue("the methods are the told ones: " + told + " and " + built, told.equals(built));
        Set<String> constants = new HashSet<>();
        for (Field field : ThreeThrough.class.getDeclaredFields()) {
            if (!Modifier.isPrivate(field.getModifiers())) constants.add(field.getName());
        }
        CHECKS.isTrue("the constants", constants.equals(Set.of("BAD", "NOT", "FULL", "STATE", "VOID")));
        Constructor<?>[] constructors = ThreeThrough.class.getDeclaredConstructors();
        CHECKS.isTrue("one public constructor", constructors.length == 1
            && Modifier.isPublic(constructors[0].getModifiers()) && constructors[0].getParameterCount() == 0);
        CHECKS.isTrue("the class is final", Modifier.isFinal(ThreeThrough.class.getModifiers()));
    }

    private static void noNameOfAPublicMethodIsUsedAgain() {
        Set<String> names = new HashSet<>();
        for (Method method : ThreeThrough.class.getDeclaredMethods()) {
            if (Modifier.isPublic(method.getModifiers())) names.add(method.getName());
        }
        for (Method method : ThreeThrough.class.getDeclaredMethods()) {
            boolean again = !Modifier.isPublic(method.getModifiers()) && names.contains(method.getName());
            CHECKS.isTrue("a name of its own: " + method, !again);
        }
        for (Class<?> inside : ThreeThrough.class.getDeclaredClasses()) {
            for (Method method : inside.getDeclaredMethods()) {
                CHECKS.isTrue("a name of its own: " + method, !names.contains(method.getName()));
            }
        }
    }

    private static void classesInsideAreFew() {
        Class<?>[] inside = ThreeThrough.class.getDeclaredClasses();
        CHECKS.isTrue("some twelve classes", inside.length <= 12);
        List<Class<?>> all = new ArrayList<>(Arrays.asList(inside));
        all.add(ThreeThrough.class);
        for (Class<?> one : all) {
            int fields = 0;
            for (Field field : one.getDeclaredFields()) {
                boolean constant = Modifier.isStatic(field.getModifiers());
                fields += constant ? 0 : 1;
                CHECKS.isTrue("static is final: " + field, !constant || Modifier.isFinal(field.getModifiers()));
            }
            CHECKS.isTrue("some twenty fields: " + one, fields <= 20);
            boolean outer = one == ThreeThrough.class;
            CHECKS.isTrue("static: " + one, outer || Modifier.isStatic(one.getModifiers()));
            CHECKS.isTrue("no public member but the face: " + one, outer || Arrays.stream(one.getDeclaredMethods())
                .map(Member.class::cast).noneMatch(m -> Modifier.isPublic(m.getModifiers())));
            for (Method method : one.getDeclaredMethods()) {
                CHECKS.isTrue("seven parameters at most: " + method, method.getParameterCount() <= 7);
            }
        }
    }

    private static String withoutComments(String source) {
        return source.replaceAll("(?s)/\\*.*?\\*/", "").replaceAll("//[^\n]*", "");
    }

    private static void noWordThatIsRuledOut() throws IOException {
        String code = withoutComments(Files.readString(SOURCE));
        for (String word : new String[] {"throw", "throws", "try", "catch", "finally", "synchronized", "assert", "import",
            "package", "Object", "Random", "Thread", "System.out", "currentTimeMillis", "nanoTime", "hashCode",
            "toString", "float", "double", "strictfp", "volatile", "transient", "native"}) {
            CHECKS.isTrue("no " + word, !Pattern.compile("\\b" + Pattern.quote(word) + "\\b").matcher(code).find());
        }
        for (String sign : new String[] {"->", "::", "@", "Exact("}) {
            CHECKS.isTrue("no " + sign, !code.contains(sign));
        }
        for (int i = 0; i < code.length(); i++) {
            char c = code.charAt(i);
            if (c != '\n' && (c < ' ' || c > '~')) CHECKS.isTrue("a plain sign at " + i, false);
        }
    }

    private static void methodsAreShort() throws IOException {
        List<String> lines = Files.readAllLines(SOURCE);
        int began = -1;
        String indent = "";
        for (int i = 0; i < lines.size(); i++) {
            String line = lines.get(i);
            if (line.matches(" {4}( {4})?\\w[^=;]*\\) \\{")) {
                began = i;
                indent = line.replaceAll("\\S.*", "");
            } else if (began >= 0 && line.equals(indent + "}")) {
                CHECKS.isTrue("sixty lines at most from line " + (began + 1), i - began < 60);
                began = -1;
            }
        }
    }
}
