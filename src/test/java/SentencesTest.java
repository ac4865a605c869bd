import java.io.IOException;
import java.nio.file.Files;
import java.nio.file.Path;
import java.util.ArrayList;
import java.util.List;
import java.util.regex.Matcher;
import java.util.regex.Pattern;

/**
 * The remarks of the tests: each names a promise and a sentence, as in 'Promise 3: "value: 0 to p - 1"' or, for a
 * sentence under 'Terms', 'Promise 20, TEXTS: "A number is one to three digits"'. Each such sentence stands in the
 * document where the remark says, and each sentence of the document has a test.
 */
public final class SentencesTest {
    private static final Path DOCUMENT = Path.of("../shared/DOC.md");
    private static final Path TESTS = Path.of("src/test/java");
    private static final Pattern REMARK = Pattern.compile("Promise (\\d+)(?:, ([A-Z ]+))?: \"([^\"]+)\"");
    private static final int PROMISES = 22;
    /** What an answer is called alone: when it is given is said of the arguments. */
    private static final List<String> WITHOUT_A_TEST = List.of("UNKNOWN", "BAD_VALUE", "BAD_VALUE (place)", "Returns the number");

    private static final Due DUE = new Due("SentencesTest");

    /** A sentence that a test is about: the promise, the part of 'Terms' or "", and the words. */
    private record Remark(int promise, String part, String words) {
    }

    public static void main(String[] args) throws IOException {
        String document = Files.readString(DOCUMENT).replace("`", "");
        List<Remark> remarks = readRemarks();
        eachRemarkIsInTheDocument(document, remarks);
        eachSentenceOfThePromisesHasATest(document, remarks);
        eachSentenceOfTheTermsHasATest(document, remarks);
        DUE.finish();
    }

    private static List<Remark> readRemarks() throws IOException {
        List<Remark> remarks = new ArrayList<>();
        List<Path> files;
        try (java.util.stream.Stream<Path> found = Files.list(TESTS)) {
            files = found.filter(file -> file.toString().endsWith("Test.java")).sorted().toList();
        }
        for (Path file : files) {
            if (!file.endsWith("SentencesTest.java")) {
                String source = Files.readString(file).replaceAll("\\s*\n\\s*\\* ", " ");
                Matcher matcher = REMARK.matcher(source);
                while (matcher.find()) {
                    String part = matcher.group(2) == null ? "" : matcher.group(2);
                    remarks.add(new Remark(Integer.parseInt(matcher.group(1)), part, matcher.group(3)));
                }
            }
        }
        return remarks;
    }

    private static String section(String document, String head) {
        int start = document.indexOf(head);
        if (start < 0) {
            return "";
        }
        int end = document.indexOf("\n## ", start + 1);
        return document.substring(start, end < 0 ? document.length() : end);
    }

    private static String promise(String document, int number) {
        return section(document, "\n## Promise " + number + ":");
    }

    /** A part of 'Terms' goes from its name, alone in its line, to the next such line. */
    private static String part(String document, String name) {
        if (name.equals("WHAT IT IS")) {
            return section(document, "\n## What it is");
        }
        String terms = section(document, "\n## Terms");
        int start = terms.indexOf("\n" + name + "\n");
        if (start < 0) {
            return "";
        }
        Matcher next = Pattern.compile("\n[A-Z]+\n").matcher(terms);
        return next.find(start + name.length() + 1) ? terms.substring(start, next.start()) : terms.substring(start);
    }

    private static void eachRemarkIsInTheDocument(String document, List<Remark> remarks) {
        DUE.promise("the remarks of the tests");
        DUE.holds("remarks are found", remarks.size() > 150);
        for (Remark remark : remarks) {
            String place = remark.part.isEmpty() ? promise(document, remark.promise) : part(document, remark.part);
            DUE.holds(remark + " stands in the document", place.contains(remark.words));
            DUE.holds(remark + " is of one of the promises", remark.promise >= 1 && remark.promise <= PROMISES);
        }
    }

    private static boolean hasATest(String sentence, List<Remark> remarks, int promise, String part) {
        for (Remark remark : remarks) {
            boolean isOfIt = remark.part.equals(part) && (promise == 0 || remark.promise == promise);
            if (isOfIt && (sentence.contains(remark.words) || remark.words.contains(sentence))) {
                return true;
            }
        }
        return false;
    }

    /** The sentences of a promise: what is said of the call, each argument, and each answer. */
    private static List<String> sentencesOf(String promise) {
        List<String> sentences = new ArrayList<>();
        String text = promise.substring(promise.indexOf("):") + 2);
        String ends = "\n(- )?|^ - |(?<=\\.) (?=[A-Z])|; (?![^(]*\\))|, (?=\\d for )";
        for (String piece : text.split(ends)) {
            String sentence = piece.trim().replaceAll("[.]$", "");
            if (!sentence.isEmpty() && !WITHOUT_A_TEST.contains(sentence)) {
                sentences.add(sentence);
            }
        }
        return sentences;
    }

    private static void eachSentenceOfThePromisesHasATest(String document, List<Remark> remarks) {
        for (int number = 1; number <= PROMISES; number++) {
            DUE.promise("promise " + number + ", a test for each sentence");
            List<String> sentences = sentencesOf(promise(document, number));
            DUE.holds("there are sentences", !sentences.isEmpty());
            for (String sentence : sentences) {
                DUE.holds("'" + sentence + "'", hasATest(sentence, remarks, number, ""));
            }
        }
    }

    private static void eachSentenceOfTheTermsHasATest(String document, List<Remark> remarks) {
        for (String name : new String[] {"TABLES", "BLOCKS", "TEXTS", "HISTORY", "ERRORS"}) {
            DUE.promise(name + ", a test for each sentence");
            String part = part(document, name);
            int end = part.indexOf("The constants:");
            String text = (end < 0 ? part : part.substring(0, end)).replace("\n" + name + "\n", "").replace("\n", " ");
            String[] sentences = text.trim().split("(?<=[.][)]?) +");
            DUE.holds("there are sentences", sentences.length > 3);
            for (String sentence : sentences) {
                DUE.holds("'" + sentence + "'", hasATest(sentence, remarks, 0, name));
            }
        }
    }
}
