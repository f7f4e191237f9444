import java.lang.reflect.Constructor;
import java.lang.reflect.Field;
import java.lang.reflect.Method;
import java.lang.reflect.Modifier;
import java.nio.file.Files;
import java.nio.file.Path;
import java.util.ArrayList;
import java.util.Arrays;
import java.util.List;
import java.util.TreeSet;
import java.util.regex.Matcher;
import java.util.regex.Pattern;

/** The face is the document's, nothing more and nothing less; and some rules of LANGUAGE.md that a text shows. */
public final class FaceTest {
    private static int wrong = 0;

    private static void due(String what, Object got, Object want) {
        if (!got.equals(want)) {
            wrong++;
            System.out.println(what + ": " + got + ", due is " + want);
        }
    }

    public static void main(String[] args) throws Exception {
        String document = Files.readString(Path.of("../shared/DOC.md"));
        String source = Files.readString(Path.of("src/main/java/KeptWell.java"));
        classIsAsTold();
        faceIsAsTold(document);
        promisesAreOfTheFace(document);
        languageIsKept(source);
        System.out.println(wrong == 0 ? "the face is as told" : wrong + " things are not as due");
        if (wrong != 0) {
            System.exit(1);
        }
    }

    /** public final class KeptWell, its one constant, and no method without an object. */
    private static void classIsAsTold() throws IllegalAccessException, NoSuchFieldException {
        due("the class", Modifier.toString(KeptWell.class.getModifiers()), "public final");
        due("the class stands in no package", KeptWell.class.getPackageName(), "");
        due("above the class stands", KeptWell.class.getSuperclass().getName(), "java.lang.Object");
        due("parts that the class has", KeptWell.class.getInterfaces().length, 0);
        Field none = KeptWell.class.getDeclaredField("NONE");
        due("NONE", Modifier.toString(none.getModifiers()) + " " + none.getType(), "public static final int");
        due("NONE is", none.getInt(null), -1);
        for (Method method : KeptWell.class.getDeclaredMethods()) {
            if (Modifier.isPublic(method.getModifiers())) {
                due(method.getName() + " is", Modifier.toString(method.getModifiers()), "public");
            }
        }
    }

    /** The head of each promise is a row of the face: so what holds for the face holds for the promise. */
    private static void promisesAreOfTheFace(String document) {
        String face = document.substring(document.indexOf("public final class"), document.indexOf("## Terms"));
        Matcher m = Pattern.compile("## Promise (\\d+): (.*)\n\n`([^`]*)`").matcher(document);
        int many = 0;
        while (m.find()) {
            many++;
            due("promise " + m.group(1) + " is the next", m.group(1), "" + many);
            due("promise " + many + " is a row of the face", face.contains("public " + m.group(3) + ";"), true);
            String name = m.group(3).replaceAll("\\(.*", "").replaceAll(".* ", "");
            due("promise " + many + " tells", many == 1 ? "KeptWell" : m.group(2), name);
        }
        due("promises", many, 42);
    }

    private static void faceIsAsTold(String document) {
        TreeSet<String> told = new TreeSet<>();
        TreeSet<String> throwing = new TreeSet<>();
        String face = document.substring(document.indexOf("public final class"), document.indexOf("## Terms"));
        Matcher m = Pattern.compile("public (\\w+) (\\w+)\\(([^)]*)\\)(?: throws ([^;]*))?;").matcher(face);
        while (m.find()) {
            told.add(m.group(1) + " " + m.group(2) + "(" + m.group(3).replaceAll(" \\w+(,|$)", "$1") + ")");
            throwing.add(m.group(2) + ": " + (m.group(4) == null ? "" : m.group(4)));
        }
        TreeSet<String> got = new TreeSet<>();
        TreeSet<String> gotThrowing = new TreeSet<>();
        TreeSet<String> publicNames = new TreeSet<>();
        for (Method method : KeptWell.class.getDeclaredMethods()) {
            if (Modifier.isPublic(method.getModifiers())) {
                publicNames.add(method.getName());
                List<String> types = new ArrayList<>();
                for (Class<?> type : method.getParameterTypes()) {
                    types.add(type.getName());
                }
                got.add(method.getReturnType() + " " + method.getName() + "(" + String.join(", ", types) + ")");
                List<String> names = new ArrayList<>();
                for (Class<?> type : method.getExceptionTypes()) {
                    names.add(type.getSimpleName());
                }
                gotThrowing.add(method.getName() + ": " + String.join(", ", names));
            }
        }
        due("methods told", told.size(), 41);
        due("methods", got, told);
        due("what they throw", gotThrowing, throwing);
        List<Class<?>> classes = new ArrayList<>(Arrays.asList(KeptWell.class.getDeclaredClasses()));
        classes.add(KeptWell.class);
        due("at most twelve classes", classes.size() <= 12, true);
        for (Class<?> type : classes) {
            boolean outer = type == KeptWell.class;
            int fields = 0;
            for (Field field : type.getDeclaredFields()) {
                boolean constant = Modifier.isStatic(field.getModifiers());
                fields += constant ? 0 : 1;
                due(field + " is final if it is static", !constant || Modifier.isFinal(field.getModifiers()), true);
                due(field + " is private or NONE", !outer || Modifier.isPrivate(field.getModifiers())
                        || field.getName().equals("NONE"), true);
            }
            due(type + " has some twenty fields at most", fields <= 20, true);
            for (Method method : type.getDeclaredMethods()) {
                due(method + " has seven parameters at most", method.getParameterCount() <= 7, true);
                due(method + " bears a name of its own",
                        outer && Modifier.isPublic(method.getModifiers()) || !publicNames.contains(method.getName()), true);
                due(method + " is private or of the face", !outer || Modifier.isPrivate(method.getModifiers())
                        || Modifier.isPublic(method.getModifiers()), true);
            }
        }
        for (Constructor<?> constructor : KeptWell.class.getDeclaredConstructors()) {
            due("the constructor", constructor.toString(), "public KeptWell()");
        }
    }

    private static void languageIsKept(String source) {
        String code = source.replaceAll("/\\*(?s:.*?)\\*/", "").replaceAll("//.*", "");
        String[] never = {"->", "::", "Exact", "try ", "catch", "finally", "synchronized", "assert ", "System.", "record ",
            "import java.util.*", "Object", "getClass", "hashCode", "equals("};
        for (String word : never) {
            due("'" + word + "' stands in the class", code.contains(word), false);
        }
        Matcher made = Pattern.compile("\\bnew (\\w+)").matcher(code);
        while (made.find()) {
            String line = code.substring(code.lastIndexOf('\n', made.start()) + 1, code.indexOf('\n', made.start()));
            boolean inField = line.contains("final ") || line.contains("throw ") || line.contains("cells = new long");
            due("made outside a constructor: " + line.trim(), inField, true);
        }
    }
}
