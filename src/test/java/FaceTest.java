import java.io.IOException;
import java.lang.reflect.Constructor;
import java.lang.reflect.Field;
import java.lang.reflect.Method;
import java.lang.reflect.Modifier;
import java.nio.file.Files;
import java.nio.file.Path;
import java.util.ArrayList;
import java.util.Arrays;
import java.util.List;

/** The public face: each constant, the constructor and each method, and no other member that is seen from outside. */
public final class FaceTest {
    private static final Path DOCUMENT = Path.of("../shared/DOC.md");
    private static final Path SOURCE = Path.of("src/main/java/BlockRanks.java");
    private static final String[] METHODS = {"addProduct(int,int)", "cell(int,int,int)", "clearText()", "count(int)",
        "differ(int,int)", "factor(int,int,int)", "join(int,int)", "keep()", "leaf(int,int,int)", "leafAt(int,int,int)",
        "recompress(int)", "restore()", "set(int,int,int,int)", "setPrime(int)", "solve(int,int)", "split(int,int)",
        "table(int,int)", "times(int,int)", "type(char)", "undo()", "work()"};

    private static final Due DUE = new Due("FaceTest");

    public static void main(String[] args) throws IOException {
        linesOfTheDocument();
        constants();
        methods();
        fields();
        DUE.finish();
    }

    /** Each line of the document's face stands in the source, and nothing else there is public. */
    private static void linesOfTheDocument() throws IOException {
        DUE.promise("the public face");
        String document = Files.readString(DOCUMENT);
        String[] blocks = document.split("```(java)?\n");
        String source = Files.readString(SOURCE);
        int lines = 0;
        for (String line : blocks.length > 1 ? blocks[1].split("\n") : new String[0]) {
            if (line.contains("public")) {
                lines++;
                DUE.holds("'" + line.trim() + "'", source.contains("\n" + line.replace(");", ") {") + "\n"));
            }
        }
        DUE.is("lines of the face", lines, 28);
        DUE.is("what is public", source.split("\\bpublic\\b").length - 1, lines);
    }

    private static void constants() {
        DUE.promise("the public face");
        DUE.is("UNKNOWN", BlockRanks.UNKNOWN, -1);
        DUE.is("BAD_VALUE", BlockRanks.BAD_VALUE, -2);
        DUE.is("FULL", BlockRanks.FULL, -3);
        DUE.is("NOT_POSSIBLE", BlockRanks.NOT_POSSIBLE, -4);
        DUE.is("NONE", BlockRanks.NONE, -5);
    }

    private static void methods() {
        DUE.promise("rule 1");
        int modifiers = BlockRanks.class.getModifiers();
        DUE.holds("public and final", Modifier.isPublic(modifiers) && Modifier.isFinal(modifiers));
        Constructor<?>[] constructors = BlockRanks.class.getDeclaredConstructors();
        DUE.is("constructors", constructors.length, 1);
        DUE.holds("public BlockRanks()", Modifier.isPublic(constructors[0].getModifiers())
            && constructors[0].getParameterCount() == 0);
        List<String> found = new ArrayList<>();
        List<String> names = new ArrayList<>();
        for (Method method : BlockRanks.class.getDeclaredMethods()) {
            if (Modifier.isPublic(method.getModifiers())) {
                found.add(signature(method));
                names.add(method.getName());
                DUE.holds(method + " answers an int", method.getReturnType() == int.class);
            }
        }
        found.sort(null);
        DUE.holds("the public methods " + found, found.equals(Arrays.asList(METHODS)));
        for (Method method : BlockRanks.class.getDeclaredMethods()) {
            boolean isPrivate = Modifier.isPrivate(method.getModifiers()) && !names.contains(method.getName());
            DUE.holds(method + " is public or private", Modifier.isPublic(method.getModifiers()) || isPrivate);
            DUE.holds(method + " takes at most seven", method.getParameterCount() <= 7);
        }
    }

    private static String signature(Method method) {
        StringBuilder signature = new StringBuilder(method.getName()).append('(');
        for (Class<?> type : method.getParameterTypes()) {
            signature.append(signature.charAt(signature.length() - 1) == '(' ? "" : ",").append(type.getName());
        }
        return signature.append(')').toString();
    }

    private static void fields() {
        DUE.promise("rules 1 and 5");
        int publicOnes = 0;
        for (Field field : BlockRanks.class.getDeclaredFields()) {
            int modifiers = field.getModifiers();
            if (Modifier.isPublic(modifiers)) {
                publicOnes++;
                DUE.holds(field + " is a constant", Modifier.isStatic(modifiers) && field.getType() == int.class);
            } else {
                DUE.holds(field + " is private", Modifier.isPrivate(modifiers));
            }
            DUE.holds(field + " is final if static", !Modifier.isStatic(modifiers) || Modifier.isFinal(modifiers));
        }
        DUE.is("public constants", publicOnes, 5);
    }
}
