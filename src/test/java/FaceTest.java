import java.lang.reflect.Constructor;
import java.lang.reflect.Field;
import java.lang.reflect.Method;
import java.lang.reflect.Modifier;
import java.nio.charset.StandardCharsets;
import java.nio.file.Files;
import java.nio.file.Path;
import java.util.Arrays;
import java.util.Set;
import java.util.TreeSet;
import java.util.regex.Matcher;
import java.util.regex.Pattern;

/** The public face, the rules of the language that a text can show, and far arguments to every call. */
public final class FaceTest {
    private static final String[] FACE = {
        "int type(int)", "int wipe()", "int fault()", "int cell(int,int)", "int stand(int,int)", "int owner(int,int)",
        "int read(int)", "int days(int,int)", "int steep(int,int)", "int shade(int,int,int)", "int light(int,int)",
        "int hours(int,int)", "int has(int,int)", "int parts(int)", "int taken(int,int,int)", "int highest(int,int)",
        "int again(int,int,int)", "int worth(int,int,int)", "int value(int,int)", "int change(int,int)",
        "int changes(int)", "int sort(int,int,int)", "int set(int)", "int seen(int,int)", "int forget()",
        "int whose(int)", "int clouds(int,int)", "long clear(int,int,int,int)", "int sheet(int,int,int)",
        "int lose(int)", "int put(int,int,int,int)", "int get(int,int,int)", "int copy(int,int,int,int,int)",
        "int write(int,int)", "int count(int)", "long digest()"};
    private static final String[] FORBIDDEN = {
        "throw", "throws", "try", "catch", "finally", "synchronized", "assert", "Exact", "lambda", "->", "::", "Object",
        "hashCode", "package", "Random", "System.out", "System.nano", "System.current", "Thread", "MIN_VALUE", "MAX_VALUE"};

    public static void main(String[] args) throws Exception {
        face();
        constants();
        namesInside();
        language(Path.of(args.length > 0 ? args[0] : "src/main/java/HillHours.java"));
        farArguments();
        Check.end();
    }

    private static void face() {
        Set<String> told = new TreeSet<>(Arrays.asList(FACE));
        Set<String> there = new TreeSet<>();
        for (Method m : HillHours.class.getDeclaredMethods()) {
            if (!Modifier.isPrivate(m.getModifiers()) && !m.isSynthetic()) {
                there.add(signature(m));
                Check.due(m.getName() + " is public and of an object",
                        Modifier.isPublic(m.getModifiers()) && !Modifier.isStatic(m.getModifiers()) ? 1 : 0, 1);
            }
        }
        Check.due("the face is the document's: " + there, there.equals(told) ? 1 : 0, 1);
        Constructor<?>[] made = HillHours.class.getDeclaredConstructors();
        Check.due("one constructor", made.length, 1);
        Check.due("it is public", Modifier.isPublic(made[0].getModifiers()) ? 1 : 0, 1);
        Check.due("without arguments", made[0].getParameterCount(), 0);
        Check.due("the class is final", Modifier.isFinal(HillHours.class.getModifiers()) ? 1 : 0, 1);
    }

    private static String signature(Method m) {
        StringBuilder s = new StringBuilder(m.getReturnType().getName() + " " + m.getName() + "(");
        for (Class<?> p : m.getParameterTypes()) {
            s.append(s.charAt(s.length() - 1) == '(' ? "" : ",").append(p.getName());
        }
        return s.append(')').toString();
    }

    private static void constants() throws Exception {
        String[] names = {"NONE", "BAD", "NOT", "FULL"};
        for (int i = 0; i < names.length; i++) {
            Field f = HillHours.class.getField(names[i]);
            Check.due(names[i], f.getInt(null), -1 - i);
        }
        for (Field f : HillHours.class.getDeclaredFields()) {
            boolean told = Arrays.asList(names).contains(f.getName());
            Check.due(f.getName() + " is open", Modifier.isPrivate(f.getModifiers()) ? 0 : 1, told ? 1 : 0);
            if (Modifier.isStatic(f.getModifiers())) {
                Check.due(f.getName() + " is final", Modifier.isFinal(f.getModifiers()) ? 1 : 0, 1);
            }
        }
        Check.due("fields of the class", fieldsOf(HillHours.class) <= 20 ? 1 : 0, 1);
    }

    private static int fieldsOf(Class<?> c) {
        int many = 0;
        for (Field f : c.getDeclaredFields()) {
            many += Modifier.isStatic(f.getModifiers()) ? 0 : 1;
        }
        return many;
    }

    private static void namesInside() {
        Set<String> open = new TreeSet<>();
        for (String s : FACE) {
            open.add(s.substring(s.indexOf(' ') + 1, s.indexOf('(')));
        }
        for (Method m : HillHours.class.getDeclaredMethods()) {
            boolean twice = Modifier.isPrivate(m.getModifiers()) && open.contains(m.getName());
            Check.due("private " + m.getName() + " bears a public name", twice ? 1 : 0, 0);
        }
        Class<?>[] inside = HillHours.class.getDeclaredClasses();
        Check.due("classes inside", inside.length <= 11 ? 1 : 0, 1);
        for (Class<?> c : inside) {
            Check.due(c.getName() + " is static", Modifier.isStatic(c.getModifiers()) ? 1 : 0, 1);
            Check.due(c.getName() + " has few fields", fieldsOf(c) <= 20 ? 1 : 0, 1);
            for (Method m : c.getDeclaredMethods()) {
                Check.due(m.getName() + " bears a public name", open.contains(m.getName()) ? 1 : 0, 0);
                Check.due(m.getName() + " takes few arguments", m.getParameterCount() <= 7 ? 1 : 0, 1);
            }
        }
    }

    private static void language(Path source) throws Exception {
        String text = Files.readString(source, StandardCharsets.ISO_8859_1);
        Check.due("only plain signs", text.chars().allMatch(c -> c < 127) ? 1 : 0, 1);
        String code = text.replaceAll("(?s)/\\*.*?\\*/", "").replaceAll("//[^\n]*", "");
        for (String word : FORBIDDEN) {
            String plain = Pattern.quote(word);
            String edge = Character.isLetter(word.charAt(0)) && !word.equals("Exact") ? "\\b" : "";
            Check.due("the code has " + word, Pattern.compile(edge + plain + edge).matcher(code).find() ? 1 : 0, 0);
        }
        Matcher imports = Pattern.compile("import ([a-zA-Z.]+);").matcher(code);
        while (imports.find()) {
            Check.due("import " + imports.group(1), imports.group(1).equals("java.util.Arrays") ? 1 : 0, 1);
        }
        Matcher loops = Pattern.compile("new [A-Za-z]+").matcher(code.substring(code.indexOf("public HillHours()"), code.indexOf("class Ground")));
        Check.due("no call makes an object", loops.find() ? 1 : 0, 0);
        shortMethods(text);
    }

    private static void shortMethods(String text) {
        int length = 0;
        for (String line : text.split("\n")) {
            length = line.isBlank() ? 0 : length + 1;
            Check.due("a stretch of code of sixty lines: " + line, length > 60 ? 1 : 0, 0);
        }
    }

    private static void farArguments() throws Exception {
        int[] far = {Integer.MIN_VALUE, Integer.MIN_VALUE + 1, -1000000, -2, -1, 0, 1, 2, 3, 4, 11, 12, 20, 48, 49,
            Integer.MAX_VALUE - 1, Integer.MAX_VALUE};
        for (Method m : HillHours.class.getDeclaredMethods()) {
            if (Modifier.isPublic(m.getModifiers())) {
                int many = (int) Math.pow(far.length, Math.min(m.getParameterCount(), 3));
                HillHours x = null;
                for (int n = 0; n < many; n++) {
                    x = n % 400 == 0 ? wellUsed(n / 400 % 3) : x;
                    Object[] args = new Object[m.getParameterCount()];
                    int rest = n;
                    for (int i = 0; i < args.length; i++) {
                        args[i] = i < 3 ? far[rest % far.length] : far[(n * 7 + i * 5) % far.length];
                        rest /= far.length;
                    }
                    // A call that the machine broke off would end this test here.
                    m.invoke(x, args);
                }
                Check.due(m.getName() + " was asked", 1, 1);
            }
        }
    }

    private static HillHours wellUsed(int kind) {
        HillHours x = Check.hill(kind == 0 ? "3907;5550;1234" : kind == 1 ? "5" : "12;3");
        x.sheet(0, 0, 48);
        x.sheet(1, 2, 0);
        x.stand(0, 20);
        return x;
    }
}
