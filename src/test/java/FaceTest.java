import java.lang.reflect.Constructor;
import java.lang.reflect.Field;
import java.lang.reflect.Method;
import java.lang.reflect.Modifier;
import java.nio.file.Files;
import java.nio.file.Path;
import java.util.Set;
import java.util.TreeSet;
import java.util.regex.Pattern;

/** The public face as the document tells it, and the rules of LANGUAGE.md that can be told from outside. */
public final class FaceTest {
    private static final String[] FACE = {
        "int type(int,int)", "int wipe(int)", "int undo(int)", "int fault(int)", "int stone(int,int)",
        "int hand(int,int)", "int jump(int)", "int frost(int,int)", "int gapping(int,int,int)", "int back(int)",
        "int read(int)", "int at(int,int,int,int)", "int column(int,int,int)", "int falls(int)", "int sheep(int)",
        "int mine(int)", "int best()", "int mend(int,int)", "int firm(int)", "int relay(int,int)",
        "int lift(int,int)", "int seen(int,int,int,int)", "int forget()", "int never()", "int was(int,int)",
        "int ask(int)", "long luck(int,int)", "int ages(int,int,int)", "int sheet(int,int,int)", "int lose(int)",
        "int put(int,int,int,int)", "int get(int,int,int)", "int copy(int,int,int,int,int)", "int write(int,int)",
        "int count(int)", "long digest()"};
    private static final String[] FORBIDDEN = {
        "throw", "try", "catch", "synchronized", "assert", "finally", "->", "::", "Object", "Random",
        "System.out", "System.nano", "System.current", "Thread", "toString", "hashCode"};
    private static int wrong = 0;

    public static void main(String[] args) throws Exception {
        lookAtFace();
        lookAtClasses();
        lookAtSource();
        if (wrong != 0) System.exit(1);
    }

    private static void due(boolean well, String what) {
        if (!well) {
            wrong++;
            System.out.println(what);
        }
    }

    private static void lookAtFace() {
        Class<?> face = WallHands.class;
        due(Modifier.isPublic(face.getModifiers()) && Modifier.isFinal(face.getModifiers()), "not public and final");
        due(face.getPackageName().isEmpty(), "in a package");
        Set<String> want = new TreeSet<>(java.util.List.of(FACE));
        Set<String> got = new TreeSet<>();
        Set<String> names = new TreeSet<>();
        for (Method method : face.getDeclaredMethods()) {
            if (Modifier.isPrivate(method.getModifiers())) continue;
            due(method.getModifiers() == Modifier.PUBLIC, method + " is not just public");
            got.add(signature(method));
            names.add(method.getName());
        }
        due(got.equals(want), "methods are " + got + ", due are " + want);
        for (Method method : face.getDeclaredMethods()) {
            boolean hidden = Modifier.isPrivate(method.getModifiers());
            due(!hidden || !names.contains(method.getName()), "a private method bears a public name: " + method);
        }
        Set<String> constants = new TreeSet<>();
        for (Field field : face.getDeclaredFields()) {
            if (!Modifier.isPrivate(field.getModifiers())) constants.add(field.getName());
        }
        due(constants.toString().equals("[BAD, FULL, NONE, NOT]"), "constants are " + constants);
        Constructor<?>[] constructors = face.getDeclaredConstructors();
        due(constructors.length == 1 && constructors[0].getParameterCount() == 0, "not one constructor without parameters");
    }

    private static String signature(Method method) {
        StringBuilder out = new StringBuilder(method.getReturnType() + " " + method.getName() + "(");
        for (Class<?> type : method.getParameterTypes()) {
            if (out.charAt(out.length() - 1) != '(') out.append(',');
            out.append(type);
        }
        return out + ")";
    }

    private static void lookAtClasses() {
        Class<?>[] inside = WallHands.class.getDeclaredClasses();
        due(inside.length < 12, "too many classes: " + inside.length);
        lookAtMembers(WallHands.class);
        for (Class<?> type : inside) {
            due(Modifier.isStatic(type.getModifiers()), type + " is not static");
            due(!Modifier.isPublic(type.getModifiers()) && !Modifier.isProtected(type.getModifiers()), type + " is open");
            lookAtMembers(type);
        }
    }

    private static void lookAtMembers(Class<?> type) {
        int fields = 0;
        for (Field field : type.getDeclaredFields()) {
            boolean fixed = Modifier.isStatic(field.getModifiers());
            due(!fixed || Modifier.isFinal(field.getModifiers()), field + " is static and not final");
            if (!fixed) fields++;
        }
        due(fields <= 20, type + " has " + fields + " fields");
        for (Method method : type.getDeclaredMethods()) {
            due(method.getParameterCount() <= 7, method + " takes too many parameters");
        }
    }

    private static void lookAtSource() throws Exception {
        String source = Files.readString(Path.of("src/main/java/WallHands.java"));
        String code = source.replaceAll("(?s)/\\*.*?\\*/", "").replaceAll("//[^\n]*", "");
        for (String word : FORBIDDEN) {
            String pattern = Character.isLetter(word.charAt(0)) ? "\\b" + Pattern.quote(word) + "\\b" : Pattern.quote(word);
            due(!Pattern.compile(pattern).matcher(code).find(), "the source uses " + word);
        }
        due(!Pattern.compile("Exact\\(").matcher(code).find(), "the source uses an Exact function");
        java.util.regex.Matcher imports = Pattern.compile("import ([^;]*);").matcher(code);
        while (imports.find()) due(imports.group(1).equals("java.util.Arrays"), "the source imports " + imports.group(1));
        lookAtLengths(source);
    }

    /** A method begins at a line that ends with ") {" inside a class and ends at the brace below it. */
    private static void lookAtLengths(String source) {
        String[] lines = source.split("\n");
        for (int i = 0; i < lines.length; i++) {
            if (!lines[i].matches("( {4}| {8})(public|private|static|void|int|long|boolean|[A-Z]).*\\) \\{")) continue;
            String end = lines[i].startsWith("        ") ? "        }" : "    }";
            int j = i;
            while (j < lines.length && !lines[j].equals(end)) j++;
            due(j - i <= 60, "a method of " + (j - i) + " lines: " + lines[i].trim());
        }
    }
}
