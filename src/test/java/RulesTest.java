import java.lang.reflect.Constructor;
import java.lang.reflect.Field;
import java.lang.reflect.Method;
import java.lang.reflect.Modifier;
import java.nio.charset.StandardCharsets;
import java.nio.file.Files;
import java.nio.file.Path;
import java.util.ArrayList;
import java.util.List;
import java.util.Set;
import java.util.TreeSet;
import java.util.regex.Matcher;
import java.util.regex.Pattern;

/**
 * The rules of ../shared/LANGUAGE.md that can be seen from the program's source and its classes;
 * the rule's number stands ahead of each. The source's path is the first argument.
 */
public final class RulesTest {
    private static final String FACE = "about(int) back() by(int) cell(int,int,boolean) end(int) fault(int) "
        + "feed(int,int,int,int,int) given(int,int) guest(int,int,boolean,int,int,int,int) hatch(int,int) "
        + "here(int,int,boolean) horse(int) image() inn(int) last(int) level(int) line(int,int,int) night(int,int,int) "
        + "perch(int,int) pilot(int,int,int,int) rafts() sat(int,int) seat(int,int) shift(int,int) sky(int,int) text() "
        + "there(int) told(int,int) way(int,int,int) ";
    private static final Set<String> TRUE_OR_FALSE = Set.of("by", "cell", "here", "inn", "sky");
    private static int wrong = 0;

    private static void rule(int number, boolean kept, String what) {
        if (!kept) {
            wrong++;
            System.out.println("rule " + number + ": " + what);
        }
    }

    /** The source with comments, strings and signs made blank. */
    private static String bare(String source) {
        StringBuilder s = new StringBuilder();
        Matcher m = Pattern.compile("/\\*.*?\\*/|//[^\n]*|\"(?:\\\\.|[^\"\\\\])*\"|'(?:\\\\.|[^'\\\\])+'", Pattern.DOTALL)
            .matcher(source);
        while (m.find()) {
            String blank = m.group().replaceAll("[^\n]", " ");
            m.appendReplacement(s, m.group().startsWith("\"") ? "\"\"" + blank.substring(2) : blank);
        }
        return m.appendTail(s).toString();
    }

    private static void seeSource(String source) {
        for (int i = 0; i < source.length(); i++) {
            rule(4, source.charAt(i) < 128 && source.charAt(i) > 0, "a sign above 127 at " + i);
        }
        String bare = bare(source);
        String[] never = {"throw", "throws", "try", "catch", "finally", "synchronized", "assert", "instanceof", "interface",
            "record", "enum", "volatile", "transient", "native", "package", "protected", "default ->", "var", "Object", "float",
            "double", "ArrayList", "StringBuilder", "System.out", "System.nanoTime", "equals", "hashCode", "toString"};
        for (String word : never) {
            rule(6, !Pattern.compile("(?<![A-Za-z])" + Pattern.quote(word) + "(?![A-Za-z])").matcher(bare).find(), word + " is used");
        }
        rule(2, !bare.contains("->"), "a lambda");
        rule(2, !bare.contains("::"), "a method reference");
        rule(3, !bare.contains("[][]"), "an array of two dimensions");
        rule(10, !Pattern.compile("\"\\s*\\+|\\+\\s*\"").matcher(bare).find(), "texts joined by +");
        rule(5, !Pattern.compile("static\\s*\\{").matcher(bare).find(), "a static initialiser");
        rule(9, !Pattern.compile("while\\s*\\(|for\\s*\\([^;]*;\\s*;").matcher(bare).find(), "a loop without a counter");
        Matcher m = Pattern.compile("import ([\\w.*]+);|(?<![\\w.])(java|javax|jdk|sun)\\.[\\w.]+").matcher(bare);
        while (m.find()) {
            rule(4, "java.util.Arrays".equals(m.group(1)), m.group());
        }
        m = Pattern.compile("\\b(Arrays|Math|Integer|Long|System)\\.(\\w+)").matcher(bare);
        Set<String> allowed = Set.of("Arrays.fill", "Math.max", "Math.min", "Math.abs", "Integer.bitCount",
            "Long.lowestOneBit", "Long.numberOfTrailingZeros", "System.arraycopy");
        while (m.find()) {
            rule(4, allowed.contains(m.group()), m.group());
        }
        seeMethods(bare);
    }

    private static void seeMethods(String bare) {
        String[] lines = bare.split("\n", -1);
        Pattern head = Pattern.compile("^(    |        )(?:(?:public|private|static|final) )*(?:[\\w\\[\\]]+ )?(\\w+)\\(([^)]*)\\) \\{$");
        int methods = 0;
        for (int i = 0; i < lines.length; i++) {
            Matcher m = head.matcher(lines[i]);
            if (!m.find() || Set.of("if", "for", "switch").contains(m.group(2))) {
                continue;
            }
            methods++;
            int end = i;
            while (end < lines.length && !lines[end].equals(m.group(1) + "}")) {
                end++;
            }
            rule(11, end - i < 60, m.group(2) + " has " + (end - i + 1) + " lines");
            rule(11, m.group(3).isEmpty() || m.group(3).split(",").length <= 7, m.group(2) + " takes more than seven");
            boolean maker = Pattern.compile("^[A-Z]").matcher(m.group(2)).find();
            for (int j = i; j < end && !maker; j++) {
                rule(12, !lines[j].contains("new "), m.group(2) + " makes an object");
            }
        }
        rule(11, methods > 100, "only " + methods + " methods were seen");
    }

    private static String signature(Method m) {
        List<String> types = new ArrayList<>();
        for (Class<?> c : m.getParameterTypes()) {
            types.add(c.getSimpleName());
        }
        return m.getName() + "(" + String.join(",", types) + ")";
    }

    private static void seeFace() {
        Class<?> c = TideGuests.class;
        rule(1, c.getModifiers() == (Modifier.PUBLIC | Modifier.FINAL), "the class is not public and final alone");
        Set<String> names = new TreeSet<>();
        StringBuilder face = new StringBuilder();
        Set<String> seen = new TreeSet<>();
        for (Method m : c.getDeclaredMethods()) {
            if (!Modifier.isPrivate(m.getModifiers()) && !m.isSynthetic()) {
                seen.add(signature(m));
                names.add(m.getName());
                Class<?> answers = TRUE_OR_FALSE.contains(m.getName()) ? boolean.class : int.class;
                rule(1, m.getModifiers() == Modifier.PUBLIC && m.getReturnType() == answers, m + " is otherwise");
            }
        }
        for (String s : seen) {
            face.append(s).append(' ');
        }
        rule(1, face.toString().equals(FACE), "the face is " + face);
        Constructor<?>[] makers = c.getDeclaredConstructors();
        rule(1, makers.length == 1 && makers[0].getModifiers() == Modifier.PUBLIC, "constructors");
        List<Class<?>> all = new ArrayList<>(List.of(c.getDeclaredClasses()));
        rule(11, all.size() <= 12, all.size() + " classes inside");
        for (Class<?> inside : all) {
            int m = inside.getModifiers();
            rule(2, Modifier.isStatic(m) && !Modifier.isPublic(m) && !Modifier.isProtected(m), inside + " is not static");
            rule(2, inside.getDeclaredClasses().length == 0, inside + " has classes inside");
            for (Method method : inside.getDeclaredMethods()) {
                rule(1, !names.contains(method.getName()), method + " bears a name of the face");
            }
        }
        for (Method method : c.getDeclaredMethods()) {
            rule(1, !Modifier.isPrivate(method.getModifiers()) || !names.contains(method.getName()), method + " bears one");
        }
        all.add(c);
        for (Class<?> one : all) {
            seeFields(one);
        }
    }

    private static void seeFields(Class<?> c) {
        int own = 0;
        for (Field f : c.getDeclaredFields()) {
            int m = f.getModifiers();
            if (f.isSynthetic()) {
                continue;
            }
            if (Modifier.isStatic(m)) {
                Set<String> types = Set.of("int", "long", "boolean", "char", "String", "int[]", "long[]", "char[]", "byte[]");
                rule(5, Modifier.isFinal(m) && types.contains(f.getType().getSimpleName()), f + " is no constant");
            } else {
                own++;
            }
            boolean face = c == TideGuests.class && f.getName().equals("NONE");
            rule(1, c != TideGuests.class || Modifier.isPrivate(m) != face, f + " can be seen");
        }
        rule(11, own <= 20, c + " has " + own + " fields");
    }

    public static void main(String[] args) throws java.io.IOException {
        if (args.length < 1) {
            System.out.println("where the source is must be told");
            System.exit(1);
        }
        seeSource(new String(Files.readAllBytes(Path.of(args[0])), StandardCharsets.ISO_8859_1));
        seeFace();
        System.out.println(wrong == 0 ? "the rules are kept" : wrong + " times a rule is not kept");
        if (wrong != 0) {
            System.exit(1);
        }
    }
}
