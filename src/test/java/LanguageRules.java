import java.lang.reflect.Constructor;
import java.lang.reflect.Field;
import java.lang.reflect.Method;
import java.lang.reflect.Modifier;
import java.nio.file.Files;
import java.nio.file.Path;
import java.util.ArrayList;
import java.util.Arrays;
import java.util.List;
import java.util.TreeSet;
import java.util.regex.Matcher;
import java.util.regex.Pattern;

/** What can be seen of LANGUAGE.md from outside: the face, and words that the program must not use. */
public final class LanguageRules {
    private static final String[] FACE = {"knock/3", "release/2", "pedal/1", "tick/1", "set/2", "noteOf/2", "voiceAt/1",
        "find/2", "partOf/2", "count/1", "next/0", "peak/1", "silence/0", "freeIn/0", "undo/0", "type/1", "clearText/0",
        "fault/1", "adopt/0", "mix/0", "alone/1"};
    private static final String[] CONSTANTS = {"INVALID_ARGUMENT", "NOT_POSSIBLE", "LIMIT_REACHED", "NOT_FOUND"};
    private static final String[] BANNED = {"\\b(throw|throws|try|catch|finally|synchronized|assert|import|package|"
        + "protected|lambda|Exception|Object|Thread|System\\.(?!arraycopy)\\w+|Random|Exact|volatile|transient|native)\\b",
        "->", "::", "[^\\x00-\\x7f]"};
    private static int wrong = 0;

    private static void due(boolean holds, String what) {
        if (!holds) {
            wrong++;
            System.out.println("not so: " + what);
        }
    }

    public static void main(String[] args) throws Exception {
        face();
        namesOfInnerMethods();
        words();
        System.out.println(wrong == 0 ? "LanguageRules: all hold" : wrong + " do not hold");
        if (wrong != 0) {
            System.exit(1);
        }
    }

    private static void face() {
        due(Modifier.isFinal(ChoirBox.class.getModifiers()), "the class is final");
        TreeSet<String> methods = new TreeSet<>();
        for (Method method : ChoirBox.class.getDeclaredMethods()) {
            if (!Modifier.isPrivate(method.getModifiers())) {
                methods.add(method.getName() + "/" + method.getParameterCount());
                due(method.getReturnType() == int.class, method.getName() + " returns an int");
            }
        }
        due(methods.equals(new TreeSet<>(Arrays.asList(FACE))), "the methods of the face, and no others: " + methods);
        TreeSet<String> fields = new TreeSet<>();
        for (Field field : ChoirBox.class.getDeclaredFields()) {
            if (!Modifier.isPrivate(field.getModifiers())) {
                fields.add(field.getName());
            }
            due(!Modifier.isStatic(field.getModifiers()) || Modifier.isFinal(field.getModifiers()), field + " is final");
        }
        due(fields.equals(new TreeSet<>(Arrays.asList(CONSTANTS))), "the constants of the face, and no others: " + fields);
        Constructor<?>[] constructors = ChoirBox.class.getDeclaredConstructors();
        due(constructors.length == 1 && Modifier.isPublic(constructors[0].getModifiers()), "one public constructor");
    }

    private static void namesOfInnerMethods() {
        TreeSet<String> publicNames = new TreeSet<>();
        for (String name : FACE) {
            publicNames.add(name.substring(0, name.indexOf('/')));
        }
        List<Class<?>> all = new ArrayList<>(Arrays.asList(ChoirBox.class.getDeclaredClasses()));
        due(all.size() <= 12, "some twelve classes");
        all.add(ChoirBox.class);
        for (Class<?> one : all) {
            due(one == ChoirBox.class || Modifier.isStatic(one.getModifiers()), one + " is static");
            for (Method method : one.getDeclaredMethods()) {
                boolean ofTheFace = Modifier.isPublic(method.getModifiers());
                due(ofTheFace || !publicNames.contains(method.getName()), method + " bears no name of the face");
                due(method.getParameterCount() <= 7, method + " takes at most seven parameters");
            }
        }
    }

    private static void words() throws Exception {
        String source = Files.readString(Path.of("src/main/java/ChoirBox.java"));
        String code = source.replaceAll("(?s)/\\*.*?\\*/", "").replaceAll("//[^\\n]*", "");
        for (String banned : BANNED) {
            Matcher matcher = Pattern.compile(banned).matcher(code);
            while (matcher.find()) {
                due(false, "the program does without " + matcher.group());
            }
        }
    }
}
