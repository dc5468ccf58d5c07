import java.lang.reflect.Field;
import java.lang.reflect.Method;
import java.lang.reflect.Modifier;
import java.nio.charset.StandardCharsets;
import java.nio.file.Files;
import java.nio.file.Path;
import java.util.Arrays;
import java.util.Set;
import java.util.TreeSet;
import java.util.regex.Matcher;
import java.util.regex.Pattern;

/** The public face, and those rules of LANGUAGE.md that can be looked up in the class and its source. */
public final class FaceTest {
    private static final Path SOURCE = Path.of("src/main/java/SkipOfEightYards.java");
    private static final String[] FACE = {
        "int set(int, int, int)", "int thing(int, int)", "int neighbour(int, int)", "int told(int, int)", "int pays(int, int)",
        "int feed(int)", "int text()", "int force(int)", "int night(int)", "int load(int)", "int run(int, int, int)",
        "int cover(int, int)", "int ask(int, int)", "int best(int)", "long share(int)", "int tells(int, int, int)",
        "int film(int, int, int)", "int drawn(int, int)", "long chance(int, int, int, int)", "int image()", "int back()",
        "int count(int)", "int sheet(int, int, int)", "int cell(int, int, int)", "int copy(int, int, int, int, int)",
        "int street(int, int, int, int)", "int taken(int, int)",
    };
    private static final String[] CONSTANTS = {"int NONE", "int BAD", "int STATE", "int FULL", "long NO"};
    private static final String[] FORBIDDEN = {
        "throw", "try", "catch", "finally", "synchronized", "assert", "native", "volatile", "transient", "import", "package",
        "double", "float", "var", "Object", "System\\.(?!arraycopy)", "Math\\.\\w*Exact", "->", "::", "@", "\\?\\s*>",
    };
    private static int wrong = 0;

    private static void must(boolean holds, String what) {
        if (!holds) {
            wrong++;
            System.out.println("not so: " + what);
        }
    }

    private static void face() {
        Set<String> due = new TreeSet<>(Arrays.asList(FACE));
        Set<String> open = new TreeSet<>();
        for (Method m : SkipOfEightYards.class.getDeclaredMethods()) {
            if (Modifier.isPrivate(m.getModifiers())) continue;
            must(m.getModifiers() == Modifier.PUBLIC, m + " is just public");
            String types = Arrays.toString(m.getParameterTypes());
            open.add(m.getReturnType() + " " + m.getName() + "(" + types.substring(1, types.length() - 1) + ")");
        }
        must(open.equals(due), "the methods " + open + " are " + due);
        due = new TreeSet<>(Arrays.asList(CONSTANTS));
        open.clear();
        for (Field f : SkipOfEightYards.class.getDeclaredFields()) {
            if (Modifier.isPrivate(f.getModifiers())) continue;
            must(f.getModifiers() == (Modifier.PUBLIC | Modifier.STATIC | Modifier.FINAL), f + " is a public constant");
            open.add(f.getType() + " " + f.getName());
        }
        must(open.equals(due), "the constants " + open + " are " + due);
        must(SkipOfEightYards.class.getDeclaredConstructors().length == 1, "one constructor");
        must(SkipOfEightYards.class.getConstructors().length == 1, "a public one");
        must(SkipOfEightYards.class.getModifiers() == (Modifier.PUBLIC | Modifier.FINAL), "the class is public and final");
    }

    private static void inside() {
        Set<String> names = new TreeSet<>();
        for (String line : FACE) names.add(line.substring(line.indexOf(' ') + 1, line.indexOf('(')));
        Class<?>[] all = SkipOfEightYards.class.getDeclaredClasses();
        must(all.length <= 11, "some twelve classes");
        for (Method m : SkipOfEightYards.class.getDeclaredMethods()) {
            must(!Modifier.isPrivate(m.getModifiers()) || !names.contains(m.getName()), m + " has a name of its own");
            must(m.getParameterCount() <= 7, m + " takes at most seven");
        }
        for (Class<?> c : all) {
            must(Modifier.isStatic(c.getModifiers()) && Modifier.isPrivate(c.getModifiers()), c + " is static and private");
            int fields = 0;
            for (Field f : c.getDeclaredFields()) {
                if (!Modifier.isStatic(f.getModifiers())) fields++;
                else must(Modifier.isFinal(f.getModifiers()), f + " is final");
            }
            must(fields <= 20, c + " has at most twenty fields");
            for (Method m : c.getDeclaredMethods()) {
                must(!names.contains(m.getName()), m + " has a name of its own");
                must(m.getParameterCount() <= 7, m + " takes at most seven");
            }
        }
    }

    private static void source() throws Exception {
        String text = Files.readString(SOURCE, StandardCharsets.US_ASCII);
        String code = text.replaceAll("(?s)/\\*.*?\\*/", "").replaceAll("//[^\n]*", "").replaceAll("\"[^\"\n]*\"", "\"\"");
        for (String word : FORBIDDEN) {
            String whole = Character.isLetter(word.charAt(0)) ? "\\b" + word + (word.endsWith(")") ? "" : "\\b") : word;
            Matcher m = Pattern.compile(whole).matcher(code);
            must(!m.find(), "no " + word + " stands in " + SOURCE);
        }
        Matcher method = Pattern.compile("(?m)^( +)[\\w\\[\\]<> ]+\\([^;]*\\) \\{\n((?:(?!\\1\\}).*\n)*)").matcher(text);
        int methods = 0;
        while (method.find()) {
            methods++;
            int lines = method.group(2).split("\n").length;
            must(lines <= 60, "a method of " + lines + " lines: " + method.group().split("\n")[0].trim());
        }
        must(methods > 50, "the methods were found: " + methods);
    }

    public static void main(String[] args) throws Exception {
        face();
        inside();
        source();
        System.out.println("the face and the rules: " + wrong + " not so");
        if (wrong != 0) System.exit(1);
    }
}
