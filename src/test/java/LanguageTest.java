import java.io.IOException;
import java.lang.reflect.Constructor;
import java.lang.reflect.Field;
import java.lang.reflect.Method;
import java.lang.reflect.Modifier;
import java.nio.file.Files;
import java.nio.file.Path;
import java.util.Arrays;
import java.util.List;
import java.util.Set;
import java.util.TreeSet;
import java.util.regex.Matcher;
import java.util.regex.Pattern;
import java.util.stream.Collectors;

/** The document's public face, and the rules of LANGUAGE.md that a program can look at. */
public final class LanguageTest {
    private static final Check CHECK = new Check("LanguageTest");
    private static final Path SOURCE = Path.of("src/main/java/Retouched.java");
    private static final String[] FACE = {
        "int feed(int,int,int,int,int)", "boolean end(int)", "int terrace()", "int fault(int)", "int has(int)",
        "int letter(int,int)", "int house(int)", "int person(int,int)", "int thinks(int,int)", "int paints(int,int)",
        "int feud(int)", "int kept(int,int)", "int later(int,int)", "int mind(int,int,int)", "int curtain(int)",
        "int changed(int,int)", "int stranger(int,int,int,int)", "int parted()", "int rest(int)", "int see()",
        "int thoughts(int,int)", "int faces(int)", "int tells(int,int,int)", "boolean change(int,int)",
        "boolean right(int)", "boolean spare(int,int)", "int years(int)", "int chance(int)", "boolean undo()",
        "boolean seed(int)", "long ask()", "int image()", "int octet(int)", "boolean on()", "int status(int)"};
    private static final Set<String> LIBRARY = Set.of("Math.min", "Math.max", "Math.floorDiv", "Math.floorMod",
            "Integer.bitCount", "System.arraycopy", "WORDS.length", "WORDS.charAt");

    public static void main(String[] args) throws IOException {
        face();
        members();
        words(withoutTexts(Files.readString(SOURCE)));
        shape(Files.readAllLines(SOURCE));
        CHECK.finish();
    }

    private static void face() {
        Set<String> due = new TreeSet<>(List.of(FACE));
        Set<String> open = new TreeSet<>();
        for (Method method : Retouched.class.getDeclaredMethods()) {
            if (!Modifier.isPrivate(method.getModifiers())) {
                open.add(method.getReturnType() + " " + method.getName() + "(" + Arrays.stream(method.getParameterTypes())
                        .map(Class::toString).collect(Collectors.joining(",")) + ")");
                CHECK.due("public " + method, Modifier.isPublic(method.getModifiers()), true);
                CHECK.due("not static " + method, Modifier.isStatic(method.getModifiers()), false);
            }
        }
        CHECK.due("the face is " + open, open.equals(due), true);
        Constructor<?>[] constructors = Retouched.class.getDeclaredConstructors();
        CHECK.due("one constructor", constructors.length, 1);
        CHECK.due("it is public", Modifier.isPublic(constructors[0].getModifiers()), true);
        CHECK.due("it takes nothing", constructors[0].getParameterCount(), 0);
        CHECK.due("the class is public and final", Retouched.class.getModifiers(), Modifier.PUBLIC | Modifier.FINAL);
        CHECK.due("NONE", Retouched.NONE, -1);
        CHECK.due("NOTHING", Retouched.NOTHING, -1000000000000000L);
    }

    private static void members() {
        Set<String> names = Arrays.stream(FACE).map(call -> call.replaceAll("^\\w+ |\\(.*", "")).collect(Collectors.toSet());
        Class<?>[] inside = Retouched.class.getDeclaredClasses();
        CHECK.due("some twelve classes", inside.length < 12, true);
        for (Class<?> one : inside) {
            CHECK.due("static " + one, Modifier.isStatic(one.getModifiers()), true);
            CHECK.due("private " + one, Modifier.isPrivate(one.getModifiers()), true);
            CHECK.due("a class of its own, no deeper one " + one, one.getDeclaredClasses().length, 0);
            for (Method method : one.getDeclaredMethods()) {
                CHECK.due("no name of the face " + method, names.contains(method.getName()), false);
            }
            fields(one);
        }
        for (Method method : Retouched.class.getDeclaredMethods()) {
            boolean isHidden = Modifier.isPrivate(method.getModifiers());
            CHECK.due("no name of the face " + method, isHidden && names.contains(method.getName()), false);
            CHECK.due("nothing made by the compiler " + method, method.isSynthetic(), false);
        }
        fields(Retouched.class);
    }

    private static void fields(Class<?> one) {
        int count = 0;
        for (Field field : one.getDeclaredFields()) {
            boolean isConstant = Modifier.isStatic(field.getModifiers());
            count += isConstant ? 0 : 1;
            if (isConstant) {
                CHECK.due("final " + field, Modifier.isFinal(field.getModifiers()), true);
                Set<Class<?>> plain = Set.of(int.class, long.class, String.class);
                CHECK.due("a plain constant " + field, plain.contains(field.getType()), true);
            }
            boolean isOpen = field.getName().equals("NONE") || field.getName().equals("NOTHING");
            CHECK.due("hidden " + field, Modifier.isPrivate(field.getModifiers()), !isOpen);
        }
        CHECK.due("some twenty fields in " + one, count <= 20, true);
    }

    /** The source without comments, and with its texts and signs emptied. */
    private static String withoutTexts(String source) {
        return source.replaceAll("(?s)/\\*.*?\\*/", " ").replaceAll("//[^\n]*", " ").replaceAll("\"[^\"\n]*\"", "TEXT")
                .replaceAll("'.'", "SIGN");
    }

    private static void words(String source) {
        for (String word : new String[] {"throw", "try", "catch", "finally", "synchronized", "assert", "import", "package",
            "instanceof", "equals", "hashCode", "toString", "var", "null", "volatile", "transient", "native", "protected"}) {
            CHECK.due("no " + word, Pattern.compile("\\b" + word + "\\b").matcher(source).find(), false);
        }
        for (String sign : new String[] {"->", "::", "@", "...", "TEXT +", "+ TEXT"}) {
            CHECK.due("no " + sign, source.contains(sign), false);
        }
        Matcher library = Pattern.compile("\\b(Math|Integer|Long|System|Arrays|WORDS|String|List)\\.\\w+").matcher(source);
        while (library.find()) {
            CHECK.due("in the library: " + library.group(), LIBRARY.contains(library.group()), true);
        }
        Matcher loops = Pattern.compile("\\b(while|for) \\(([^{]*)\\) \\{").matcher(source);
        while (loops.find()) {
            CHECK.due("a bound in the loop: " + loops.group(2), loops.group(2).matches("(?s).*[<>].*"), true);
        }
    }

    /** The layout is regular: a method's head and its end stand at the same depth. */
    private static void shape(List<String> lines) {
        int start = -1;
        String end = "";
        for (int i = 0; i < lines.size(); i++) {
            String line = lines.get(i);
            if (start < 0 && line.matches(" {4,8}[\\w\\[\\] ]*\\([^=;]*\\) \\{") && !line.matches("^ *(if|for|while|switch|else|return)\\b.*")) {
                start = i;
                end = line.substring(0, line.indexOf(line.trim())) + "}";
                String inside = line.substring(line.indexOf('(') + 1, line.indexOf(')'));
                CHECK.due("at most seven parameters: " + line.trim(), inside.split(",").length <= 7, true);
            } else if (start >= 0 && line.equals(end)) {
                CHECK.due("at most sixty lines: " + lines.get(start).trim(), i - start < 60, true);
                start = -1;
            }
            CHECK.due("signs of 1 to 127 in line " + (i + 1), line.chars().allMatch(c -> c >= 32 && c <= 126), true);
        }
        CHECK.due("all methods end", start, -1);
    }
}
