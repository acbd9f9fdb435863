import java.io.IOException;
import java.lang.reflect.Constructor;
import java.lang.reflect.Field;
import java.lang.reflect.Method;
import java.lang.reflect.Modifier;
import java.nio.file.Files;
import java.nio.file.Path;
import java.util.Arrays;
import java.util.List;
import java.util.TreeSet;
import java.util.regex.Matcher;
import java.util.regex.Pattern;

/** The face of the document, and those rules of LANGUAGE.md that can be told by looking. */
public final class LanguageTest {
    private static final List<String> FACE = List.of(
        "int addShard(int, int, int)",
        "boolean setOpen(int, boolean)",
        "int setLimit(int, int, int)",
        "int addTenant(int, int, int, int, int)",
        "int setSize(int, int, int)",
        "int setWindow(int, int, int)",
        "int keepApart(int, int)",
        "int move(int, int)",
        "char reason(int, int)",
        "char fail(int)",
        "int pass(int)",
        "int time()",
        "char phase(int)",
        "int targetOf(int)",
        "int hoursLeft(int)",
        "int hoursByPassing(int)",
        "int moves()",
        "int shards()",
        "int tenants()",
        "int servedBy(int)",
        "int sizeOf(int, int)",
        "int used(int, int)",
        "int usedByLooking(int, int)",
        "boolean isOver(int)",
        "int served(int)",
        "int fewestMoves()",
        "int fewestByTrying()",
        "int planned(int)",
        "int soundPlans()",
        "int switches()",
        "long hoursOver()",
        "float shareOf(int, int)",
        "double meanStorage()");

    /** What the rules leave out, as it would stand in the text. */
    private static final List<String> BARRED = List.of(
        "->", "::", "\\btry\\b", "\\bcatch\\b", "\\bfinally\\b", "\\bassert\\b", "\\bsynchronized\\b",
        "\\bpackage\\b", "\\bnative\\b", "\\bextends\\b", "\\bimplements\\b", "\\binstanceof\\b",
        "\\bSystem\\b", "\\bThread\\b", "\\bObject\\b", "\\bvar\\b", "Exact\\(", "\\bstatic \\{",
        "\\[\\]\\[\\]", "\\.equals\\(", "\\bhashCode\\b", "\\btoString\\b");

    private LanguageTest() {
    }

    public static void main(String[] args) throws IOException {
        face();
        inside();
        text(Files.readString(Path.of(args[0])));
        Check.end();
    }

    private static boolean isPrivate(int modifiers) {
        return Modifier.isPrivate(modifiers);
    }

    private static String signature(Method method) {
        StringBuilder text = new StringBuilder();
        text.append(method.getReturnType()).append(' ').append(method.getName()).append('(');
        for (Class<?> type : method.getParameterTypes()) {
            text.append(text.charAt(text.length() - 1) == '(' ? "" : ", ").append(type);
        }
        return text.append(')').toString();
    }

    private static void face() {
        Check.part("rule 1");
        Class<?> face = TenantPlacement.class;
        int modifiers = face.getModifiers();
        boolean isPublicFinal = Modifier.isPublic(modifiers) && Modifier.isFinal(modifiers);
        Check.due("public and final", true, isPublicFinal);
        TreeSet<String> seen = new TreeSet<>();
        TreeSet<String> hidden = new TreeSet<>();
        for (Method method : face.getDeclaredMethods()) {
            if (isPrivate(method.getModifiers())) {
                hidden.add(method.getName());
            } else {
                boolean isOfDesk = method.getModifiers() == Modifier.PUBLIC;
                seen.add((isOfDesk ? "" : "not just public: ") + signature(method));
            }
        }
        Check.due("methods", new TreeSet<>(FACE), seen);
        for (Method method : face.getMethods()) {
            Check.due("a private " + method.getName(), false, hidden.contains(method.getName()));
        }
        for (Field field : face.getDeclaredFields()) {
            Check.due(field + " is private", true, isPrivate(field.getModifiers()));
        }
        Constructor<?>[] constructors = face.getDeclaredConstructors();
        Check.due("constructors", 1, constructors.length);
        Check.due("its parameters", 0, constructors[0].getParameterCount());
        Check.due("it is public", Modifier.PUBLIC, constructors[0].getModifiers());
    }

    private static void inside() {
        Check.part("rules 2, 5 and 11");
        TreeSet<String> names = new TreeSet<>();
        for (String signature : FACE) {
            names.add(signature.substring(signature.indexOf(' ') + 1, signature.indexOf('(')));
        }
        Class<?>[] classes = TenantPlacement.class.getDeclaredClasses();
        Check.due("at most twelve classes", true, classes.length < 12);
        for (Class<?> one : classes) {
            Check.due(one + " is static", true, Modifier.isStatic(one.getModifiers()));
            Check.due(one + " is not public", false, Modifier.isPublic(one.getModifiers()));
            for (Method method : one.getDeclaredMethods()) {
                Check.due(method + " is of the face", false, names.contains(method.getName()));
            }
        }
        Class<?>[] all = Arrays.copyOf(classes, classes.length + 1);
        all[classes.length] = TenantPlacement.class;
        for (Class<?> one : all) {
            int fields = 0;
            for (Field field : one.getDeclaredFields()) {
                int modifiers = field.getModifiers();
                fields += Modifier.isStatic(modifiers) ? 0 : 1;
                boolean isChanging = Modifier.isStatic(modifiers) && !Modifier.isFinal(modifiers);
                Check.due(field + " is changing state", false, isChanging);
            }
            Check.due(one + " has some twenty fields", true, fields <= 20);
        }
    }

    private static void text(String source) {
        Check.part("rules 3, 4, 6 and 10");
        String code = source.replaceAll("(?s)/\\*.*?\\*/", "").replaceAll("//[^\n]*", "");
        for (String barred : BARRED) {
            Check.due(barred, false, Pattern.compile(barred).matcher(code).find());
        }
        Matcher imports = Pattern.compile("import ([^;]*);").matcher(code);
        while (imports.find()) {
            Check.due("import", "java.util.NoSuchElementException", imports.group(1));
        }
        Matcher math = Pattern.compile("\\bMath\\.(\\w+)").matcher(code);
        while (math.find()) {
            boolean isAllowed = List.of("min", "max", "floorMod").contains(math.group(1));
            Check.due(math.group(), true, isAllowed);
        }
        Matcher throwing = Pattern.compile("\\bthrow ([^;]*);").matcher(code);
        while (throwing.find()) {
            boolean isNew = throwing.group(1).matches("new \\w+Exception\\(\"[^\"]*\"\\)");
            Check.due(throwing.group(), true, isNew);
        }
        for (int i = 0; i < source.length(); i++) {
            if (source.charAt(i) > 126) {
                Check.due("sign " + i, "of 1 to 126", (int) source.charAt(i));
            }
        }
    }
}
