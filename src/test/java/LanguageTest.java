import java.io.IOException;
import java.lang.reflect.Constructor;
import java.lang.reflect.Field;
import java.lang.reflect.Method;
import java.lang.reflect.Modifier;
import java.nio.file.Files;
import java.nio.file.Path;
import java.util.ArrayList;
import java.util.Arrays;
import java.util.List;
import java.util.StringJoiner;
import java.util.TreeSet;
import java.util.regex.Matcher;
import java.util.regex.Pattern;

/** The face of the document, and those rules of LANGUAGE.md that can be told by looking. */
public final class LanguageTest {
    /** What the rules leave out, as it would stand in the text. */
    private static final List<String> BARRED = List.of(
        "->", "::", "\\btry\\b", "\\bcatch\\b", "\\bfinally\\b", "\\bassert\\b",
        "\\bsynchronized\\b",
        "\\bpackage\\b", "\\bnative\\b", "\\bextends\\b", "\\bimplements\\b", "\\binstanceof\\b",
        "\\bSystem\\b", "\\bThread\\b", "\\bObject\\b", "\\bvar\\b", "Exact\\(", "\\bstatic \\{",
        "\\[\\]\\[\\]", "\\.equals\\(", "\\bhashCode\\b", "\\btoString\\b");

    private LanguageTest() {
    }

    public static void main(String[] args) throws IOException {
        String source = Files.readString(Path.of(args[0]));
        String doc = Files.readString(Path.of(args[1]));
        List<String> declared = declared(doc);
        face(declared);
        inside(declared);
        interfaceSays(doc, source, declared);
        text(source);
        Check.end();
    }

    /** The document's face, method by method, each up to its semicolon. */
    private static List<String> declared(String doc) {
        List<String> methods = new ArrayList<>();
        String start = "public final class TenantPlacement {\n    public TenantPlacement();\n";
        int from = doc.indexOf(start);
        Check.part("the public face");
        Check.due("the document has it", true, from >= 0);
        String inside = doc.substring(from + start.length(), doc.indexOf("\n}", from));
        for (String line : inside.split("\n")) {
            methods.add(line.strip().replace(";", ""));
        }
        return methods;
    }

    private static String nameOf(String declared) {
        return declared.substring(0, declared.indexOf('(')).replaceFirst(".* ", "");
    }

    private static boolean isPrivate(int modifiers) {
        return Modifier.isPrivate(modifiers);
    }

    /** As the document writes it, but for the parameters' names, which a class does not keep. */
    private static String signature(Method method) {
        StringJoiner parameters = new StringJoiner(", ", "(", ")");
        for (Class<?> type : method.getParameterTypes()) {
            parameters.add(type.getSimpleName());
        }
        StringJoiner thrown = new StringJoiner(", ", " throws ", "").setEmptyValue("");
        for (Class<?> type : method.getExceptionTypes()) {
            thrown.add(type.getSimpleName());
        }
        String modifiers = Modifier.toString(method.getModifiers());
        String type = method.getReturnType().getSimpleName();
        return modifiers + " " + type + " " + method.getName() + parameters + thrown;
    }

    private static void face(List<String> declared) {
        Check.part("rule 1");
        Class<?> face = TenantPlacement.class;
        int modifiers = face.getModifiers();
        boolean isPublicFinal = Modifier.isPublic(modifiers) && Modifier.isFinal(modifiers);
        Check.due("public and final", true, isPublicFinal);
        TreeSet<String> seen = new TreeSet<>();
        TreeSet<String> hidden = new TreeSet<>();
        for (Method method : face.getDeclaredMethods()) {
            if (isPrivate(method.getModifiers())) {
                hidden.add(method.getName());
            } else {
                seen.add(signature(method));
            }
        }
        TreeSet<String> due = new TreeSet<>();
        for (String method : declared) {
            due.add(method.replaceAll("\\b(int|boolean) \\w+(?=[,)])", "$1"));
        }
        Check.due("methods", due, seen);
        for (Method method : face.getMethods()) {
            Check.due("a private " + method.getName(), false, hidden.contains(method.getName()));
        }
        for (Field field : face.getDeclaredFields()) {
            Check.due(field + " is private", true, isPrivate(field.getModifiers()));
        }
        Constructor<?>[] constructors = face.getDeclaredConstructors();
        Check.due("constructors", 1, constructors.length);
        Check.due("its parameters", 0, constructors[0].getParameterCount());
        Check.due("it is public", Modifier.PUBLIC, constructors[0].getModifiers());
    }

    private static void inside(List<String> declared) {
        Check.part("rules 2, 5 and 11");
        TreeSet<String> names = new TreeSet<>();
        for (String method : declared) {
            names.add(nameOf(method));
        }
        Class<?>[] classes = TenantPlacement.class.getDeclaredClasses();
        Check.due("at most twelve classes", true, classes.length < 12);
        for (Class<?> one : classes) {
            Check.due(one + " is static", true, Modifier.isStatic(one.getModifiers()));
            Check.due(one + " is not public", false, Modifier.isPublic(one.getModifiers()));
            for (Method method : one.getDeclaredMethods()) {
                Check.due(method + " is of the face", false, names.contains(method.getName()));
            }
        }
        Class<?>[] all = Arrays.copyOf(classes, classes.length + 1);
        all[classes.length] = TenantPlacement.class;
        for (Class<?> one : all) {
            int fields = 0;
            for (Field field : one.getDeclaredFields()) {
                int modifiers = field.getModifiers();
                fields += Modifier.isStatic(modifiers) ? 0 : 1;
                boolean isChanging = Modifier.isStatic(modifiers) && !Modifier.isFinal(modifiers);
                Check.due(field + " is changing state", false, isChanging);
            }
            Check.due(one + " has some twenty fields", true, fields <= 20);
        }
    }

    /** The methods stand in the document's order, under the headings that it puts ahead of them. */
    private static void interfaceSays(String doc, String source, List<String> declared) {
        Check.part("the public face");
        String code = source.replaceAll("\\s+", " ");
        String ahead = "Ahead of the calls (.*) the interface says: (.*)\\.";
        Matcher groups = Pattern.compile(ahead).matcher(doc);
        List<String> due = new ArrayList<>();
        while (groups.find()) {
            due.add("// " + groups.group(2) + " ");
            for (String name : groups.group(1).replace("`", "").split(", ")) {
                due.add(name);
            }
        }
        Check.due("headings and methods", true, due.size() > declared.size());
        int at = 0;
        int next = 0;
        for (String one : due) {
            boolean isHeading = one.startsWith("// ");
            if (!isHeading) {
                Check.due("its method", nameOf(declared.get(next)), one);
            }
            String text = isHeading ? one : declared.get(next++) + " {";
            int found = code.indexOf(text, at);
            Check.due(text + " stands behind the one before", true, found >= 0);
            at = Math.max(at, found);
        }
        Check.due("methods under headings", declared.size(), next);
    }

    private static void text(String source) {
        Check.part("rules 3, 4, 6 and 10");
        String code = source.replaceAll("(?s)/\\*.*?\\*/", "").replaceAll("//[^\n]*", "");
        for (String barred : BARRED) {
            Check.due(barred, false, Pattern.compile(barred).matcher(code).find());
        }
        Matcher imports = Pattern.compile("import ([^;]*);").matcher(code);
        while (imports.find()) {
            Check.due("import", "java.util.NoSuchElementException", imports.group(1));
        }
        Matcher math = Pattern.compile("\\bMath\\.(\\w+)").matcher(code);
        while (math.find()) {
            boolean isAllowed = List.of("min", "max", "floorMod").contains(math.group(1));
            Check.due(math.group(), true, isAllowed);
        }
        Matcher throwing = Pattern.compile("\\bthrow ([^;]*);").matcher(code);
        while (throwing.find()) {
            boolean isNew = throwing.group(1).matches("new \\w+Exception\\(\"[^\"]*\"\\)");
            Check.due(throwing.group(), true, isNew);
        }
        for (int i = 0; i < source.length(); i++) {
            if (source.charAt(i) > 126) {
                Check.due("sign " + i, "of 1 to 126", (int) source.charAt(i));
            }
        }
    }
}
