import java.io.IOException;
import java.lang.reflect.Constructor;
import java.lang.reflect.Field;
import java.lang.reflect.Method;
import java.lang.reflect.Modifier;
import java.nio.file.Files;
import java.nio.file.Path;
import java.util.ArrayList;
import java.util.Arrays;
import java.util.List;
import java.util.regex.Pattern;

/** The public face, and those rules of LANGUAGE.md that can be seen from the class and its text. */
public final class FaceTest {
    private static final Path SOURCE = Path.of("src/main/java/BlockRanks.java");
    private static final int LONGEST_METHOD = 60;
    private static final String[] METHODS = {"addProduct(int,int)", "cell(int,int,int)", "clearText()", "count(int)",
        "differ(int,int)", "factor(int,int,int)", "join(int,int)", "keep()", "leaf(int,int,int)", "leafAt(int,int,int)",
        "recompress(int)", "restore()", "set(int,int,int,int)", "setPrime(int)", "solve(int,int)", "split(int,int)",
        "table(int,int)", "times(int,int)", "type(char)", "undo()", "work()"};

    private static final Due DUE = new Due("FaceTest");

    public static void main(String[] args) throws IOException {
        constants();
        methods();
        fields();
        classesInside();
        words();
        methodsAreShort();
        DUE.finish();
    }

    private static void constants() {
        DUE.promise("the public face");
        DUE.is("UNKNOWN", BlockRanks.UNKNOWN, -1);
        DUE.is("BAD_VALUE", BlockRanks.BAD_VALUE, -2);
        DUE.is("FULL", BlockRanks.FULL, -3);
        DUE.is("NOT_POSSIBLE", BlockRanks.NOT_POSSIBLE, -4);
        DUE.is("NONE", BlockRanks.NONE, -5);
    }

    private static void methods() {
        DUE.promise("rule 1");
        int modifiers = BlockRanks.class.getModifiers();
        DUE.holds("public and final", Modifier.isPublic(modifiers) && Modifier.isFinal(modifiers));
        Constructor<?>[] constructors = BlockRanks.class.getDeclaredConstructors();
        DUE.is("constructors", constructors.length, 1);
        DUE.holds("public BlockRanks()", Modifier.isPublic(constructors[0].getModifiers())
            && constructors[0].getParameterCount() == 0);
        List<String> found = new ArrayList<>();
        List<String> names = new ArrayList<>();
        for (Method method : BlockRanks.class.getDeclaredMethods()) {
            if (Modifier.isPublic(method.getModifiers())) {
                found.add(signature(method));
                names.add(method.getName());
                DUE.holds(method + " answers an int", method.getReturnType() == int.class);
            }
        }
        found.sort(null);
        DUE.holds("the public methods " + found, found.equals(Arrays.asList(METHODS)));
        for (Method method : BlockRanks.class.getDeclaredMethods()) {
            boolean isPrivate = Modifier.isPrivate(method.getModifiers()) && !names.contains(method.getName());
            DUE.holds(method + " is public or private", Modifier.isPublic(method.getModifiers()) || isPrivate);
            DUE.holds(method + " takes at most seven", method.getParameterCount() <= 7);
        }
    }

    private static String signature(Method method) {
        StringBuilder signature = new StringBuilder(method.getName()).append('(');
        for (Class<?> type : method.getParameterTypes()) {
            signature.append(signature.charAt(signature.length() - 1) == '(' ? "" : ",").append(type.getName());
        }
        return signature.append(')').toString();
    }

    private static void fields() {
        DUE.promise("rules 1 and 5");
        int publicOnes = 0;
        for (Field field : BlockRanks.class.getDeclaredFields()) {
            int modifiers = field.getModifiers();
            if (Modifier.isPublic(modifiers)) {
                publicOnes++;
                DUE.holds(field + " is a constant", Modifier.isStatic(modifiers) && field.getType() == int.class);
            } else {
                DUE.holds(field + " is private", Modifier.isPrivate(modifiers));
            }
            DUE.holds(field + " is final if static", !Modifier.isStatic(modifiers) || Modifier.isFinal(modifiers));
        }
        DUE.is("public constants", publicOnes, 5);
    }

    private static void classesInside() {
        DUE.promise("rules 1, 2 and 11");
        Class<?>[] classes = BlockRanks.class.getDeclaredClasses();
        DUE.holds("at most twelve classes", classes.length <= 11);
        for (Class<?> inside : classes) {
            int modifiers = inside.getModifiers();
            DUE.holds(inside + " is static", Modifier.isStatic(modifiers) && !Modifier.isPublic(modifiers));
            DUE.holds(inside + " has few fields", inside.getDeclaredFields().length <= 20);
        }
    }

    private static String plainSource() throws IOException {
        String source = Files.readString(SOURCE);
        return source.replaceAll("(?s)/\\*.*?\\*/", "").replaceAll("//[^\n]*", "").replaceAll("'(\\\\.|[^\\\\'])'", "0");
    }

    private static void words() throws IOException {
        DUE.promise("rules 2, 4 and 6");
        String source = plainSource();
        String[] words = {"throw", "throws", "try", "catch", "synchronized", "assert", "import", "package", "protected",
            "instanceof", "equals", "hashCode", "toString", "float", "double", "volatile", "native"};
        for (String word : words) {
            DUE.holds("no " + word, !Pattern.compile("\\b" + word + "\\b").matcher(source).find());
        }
        DUE.holds("no lambda", !source.contains("->"));
        DUE.holds("no method reference", !source.contains("::"));
        DUE.holds("no call makes an object: only fields do", source.lines()
            .filter(line -> line.contains("new ")).allMatch(line -> line.contains("private final")));
        DUE.holds("signs 1 to 127", source.chars().allMatch(sign -> sign > 0 && sign < 128));
    }

    /** A method's lines are those from its head, which is indented by 4 or 8, to the brace below it. */
    private static void methodsAreShort() throws IOException {
        DUE.promise("rule 11");
        List<String> lines = Files.readAllLines(SOURCE);
        int methods = 0;
        for (int i = 0; i < lines.size(); i++) {
            String line = lines.get(i);
            if (line.matches("( {4}| {8})[\\w\\[\\] ]+\\(.*\\) \\{") && !line.matches(" *(if|for|while|switch|else) .*")) {
                String end = line.replaceAll("\\S.*", "") + "}";
                int last = i;
                while (last < lines.size() && !lines.get(last).equals(end)) {
                    last++;
                }
                methods++;
                DUE.holds("short: " + line.trim(), last - i < LONGEST_METHOD);
            }
        }
        DUE.holds("methods are found", methods > 60);
    }
}
