import java.lang.reflect.Field;
import java.lang.reflect.Method;
import java.lang.reflect.Modifier;
import java.nio.file.Files;
import java.nio.file.Path;
import java.util.ArrayList;
import java.util.List;
import java.util.Set;
import java.util.TreeSet;
import java.util.regex.Matcher;
import java.util.regex.Pattern;

/**
 * The rules of LANGUAGE.md, by their numbers, as far as the source and the classes show them. It is
 * stricter than they are where the class needs less: no texts, lists, imports or fractions.
 */
public final class LanguageTest {
    private static final Due DUE = new Due();
    private static final Path SOURCE = Path.of("src/main/java/SpeculativeScheduler.java");

    public static void main(String[] args) throws Exception {
        String code = withoutComments(Files.readString(SOURCE));
        List<Class<?>> classes = allClasses();
        noNameOfThePublic(classes);
        classesInside(classes);
        typesOfFields(classes);
        wordsThatAreRuledOut(code);
        onlyTheLibraryOfTheList(code);
        staticFields(classes);
        sizes(classes, code);
        DUE.end();
    }

    private static String withoutComments(String source) {
        return source.replaceAll("(?s)/\\*.*?\\*/", "").replaceAll("//[^\n]*", "");
    }

    private static List<Class<?>> allClasses() {
        List<Class<?>> classes = new ArrayList<>();
        classes.add(SpeculativeScheduler.class);
        for (int i = 0; i < classes.size(); i++) {
            classes.addAll(List.of(classes.get(i).getDeclaredClasses()));
        }
        return classes;
    }

    private static void noNameOfThePublic(List<Class<?>> classes) {
        DUE.at("rule 1");
        Set<String> visible = new TreeSet<>();
        for (Method method : SpeculativeScheduler.class.getMethods()) visible.add(method.getName());
        for (Class<?> type : classes) {
            for (Method method : type.getDeclaredMethods()) {
                boolean face = type == SpeculativeScheduler.class && Modifier.isPublic(method.getModifiers());
                DUE.is(method + " has a public one's name", !face && visible.contains(method.getName()) ? 1 : 0, 0);
            }
        }
    }

    private static void classesInside(List<Class<?>> classes) {
        DUE.at("rule 2");
        for (Class<?> type : classes) {
            boolean inside = type != SpeculativeScheduler.class;
            DUE.is(type + " is static", !inside || Modifier.isStatic(type.getModifiers()) ? 1 : 0, 1);
            DUE.is(type + " is not visible", inside && Modifier.isPublic(type.getModifiers()) ? 1 : 0, 0);
        }
    }

    private static void typesOfFields(List<Class<?>> classes) {
        DUE.at("rule 3");
        for (Class<?> type : classes) {
            for (Field field : type.getDeclaredFields()) {
                Class<?> held = field.getType();
                Class<?> element = held.isArray() ? held.getComponentType() : held;
                boolean listed = element.isPrimitive() || classes.contains(element);
                DUE.is(field + " is of a type that is listed", listed ? 1 : 0, 1);
            }
        }
    }

    private static void wordsThatAreRuledOut(String code) {
        DUE.at("rules 2 to 6");
        String[] words = {"throw", "throws", "try", "catch", "synchronized", "assert", "import", "package",
            "protected", "float", "double", "equals", "hashCode", "toString", "Object"};
        for (String word : words) DUE.is(word, count(code, "\\b" + word + "\\b"), 0);
        DUE.is("lambdas", count(code, "->"), 0);
        DUE.is("method references", count(code, "::"), 0);
        DUE.is("static blocks", count(code, "static\\s*\\{"), 0);
        DUE.is("texts", count(code, "\""), 0);
    }

    private static void onlyTheLibraryOfTheList(String code) {
        DUE.at("rule 4");
        int library = count(code, "\\b[A-Z][a-z]\\w*\\.\\w+\\(");
        DUE.is("calls of the library beside max and min", library, count(code, "\\bMath\\.(max|min)\\("));
    }

    private static void staticFields(List<Class<?>> classes) {
        DUE.at("rule 5");
        for (Class<?> type : classes) {
            for (Field field : type.getDeclaredFields()) {
                if (!Modifier.isStatic(field.getModifiers())) continue;
                boolean constant = Modifier.isFinal(field.getModifiers()) && field.getType() == int.class;
                DUE.is(field + " is a constant", constant ? 1 : 0, 1);
            }
        }
    }

    private static void sizes(List<Class<?>> classes, String code) {
        DUE.at("rule 11");
        DUE.is("more than twelve classes", classes.size() > 12 ? 1 : 0, 0);
        for (Class<?> type : classes) {
            int fields = 0;
            for (Field field : type.getDeclaredFields()) if (!Modifier.isStatic(field.getModifiers())) fields++;
            DUE.is(type + " has more than twenty fields", fields > 20 ? 1 : 0, 0);
            for (Method method : type.getDeclaredMethods()) {
                DUE.is(method + " has more than seven parameters", method.getParameterCount() > 7 ? 1 : 0, 0);
            }
        }
        // A method's head and its closing brace stand at the same depth, and nothing between them does.
        Matcher body = Pattern.compile("(?m)^( {4}| {8})(?!\\s)([^\n]*\\)) \\{\n(?:(?!\\1\\}).*\n)*?\\1\\}").matcher(code);
        int methods = 0;
        while (body.find()) {
            methods++;
            long lines = body.group().lines().count();
            DUE.is(body.group(2) + " has more than sixty lines", lines > 60 ? 1 : 0, 0);
        }
        DUE.is("methods were found", methods > 50 ? 1 : 0, 1);
    }

    private static int count(String text, String pattern) {
        Matcher m = Pattern.compile(pattern).matcher(text);
        int found = 0;
        while (m.find()) found++;
        return found;
    }
}
