import java.io.File;
import java.lang.reflect.InvocationTargetException;
import java.lang.reflect.Method;
import java.nio.file.Files;
import java.nio.file.Path;
import java.util.ArrayList;
import java.util.Arrays;
import java.util.Comparator;
import java.util.List;
import java.util.Map;
import java.util.TreeMap;
import java.util.regex.Matcher;
import java.util.regex.Pattern;

/**
 * Runs every test of the classes *Sentences, and then asks of the document: does each sentence that a test names
 * stand in it, and is there a word in Terms or a promise that no test names?
 */
final class SentencesTest {
    private final Map<String, String> doc = new TreeMap<>();
    private final Map<String, boolean[]> named = new TreeMap<>();
    private int passed;
    private int failed;

    public static void main(String[] args) throws Exception {
        SentencesTest all = new SentencesTest();
        all.readDocument(Files.readString(Path.of(System.getProperty("doc", "../shared/DOC.md"))));
        List<Method> tests = tests();
        for (Method test : tests) all.run(test);
        all.check("the document has promises 1 to 31 and Terms", all.doc.size() == 31 + 5, all.doc.keySet().toString());
        for (String section : all.doc.keySet()) all.askForWords(section);
        System.out.println(all.passed + " passed, " + all.failed + " failed");
        if (all.failed != 0 || tests.isEmpty()) System.exit(1);
    }

    private static List<Method> tests() throws Exception {
        List<Method> tests = new ArrayList<>();
        File here = new File(SentencesTest.class.getProtectionDomain().getCodeSource().getLocation().toURI());
        String[] files = here.list();
        Arrays.sort(files);
        for (String file : files) {
            if (!file.endsWith("Sentences.class")) continue;
            for (Method m : Class.forName(file.replace(".class", "")).getDeclaredMethods()) {
                boolean takesDue = m.getParameterCount() == 1 && m.getParameterTypes()[0] == Due.class;
                if (takesDue && !m.isSynthetic()) tests.add(m);
            }
        }
        tests.sort(Comparator.comparing(Method::toString));
        return tests;
    }

    private void check(String what, boolean holds, String why) {
        if (holds) passed++;
        else failed++;
        System.out.println((holds ? "ok: " : "FAILED: ") + what);
        if (!holds) System.out.println("    " + why);
    }

    private void run(Method test) throws IllegalAccessException {
        Sentence sentence = test.getAnnotation(Sentence.class);
        String name = test.getDeclaringClass().getName() + "." + test.getName();
        if (sentence == null) {
            check(name, false, "names no sentence");
            return;
        }
        Due t = new Due();
        String thrown = "an answer is not due";
        boolean holds = false;
        try {
            test.invoke(null, t);
            holds = t.wrong() == 0;
        } catch (InvocationTargetException e) {
            thrown = "threw " + e.getCause();
        }
        for (String says : sentence.says()) {
            String fault = name(sentence.of(), says);
            check(name + ": " + sentence.of() + ": " + says, holds && fault.isEmpty(), holds ? fault : thrown);
        }
    }

    private static String plain(String text) {
        return text.replaceAll("\\s+", " ").trim();
    }

    private void readDocument(String text) {
        String terms = text.substring(text.indexOf("\n## Terms"), text.indexOf("\n## Promise 1:")).replaceAll("```(text)?", " ");
        String[] parts = terms.replace("\n## Terms", "").split("==== \\d+\\. ");
        for (int i = 0; i < parts.length; i++) put(i == 0 ? "Terms" : "Terms " + i, parts[i]);
        Matcher m = Pattern.compile("\n## (Promise \\d+):[^\n]*\n(.*?)(?=\n## )", Pattern.DOTALL).matcher(text);
        // The words that Java asks for stand in `..` ahead of the promise's own.
        while (m.find()) put(m.group(1), m.group(2).replaceFirst("\\s*`[^`]*`:", ""));
    }

    private void put(String section, String text) {
        doc.put(section, plain(text));
        named.put(section, new boolean[plain(text).length()]);
    }

    /** Marks the sentence in the document; tells what is wrong with it. */
    private String name(String section, String says) {
        String text = doc.getOrDefault(section, "");
        int at = text.indexOf(says);
        if (at < 0) return "the document does not say so there";
        if (text.indexOf(says, at + 1) >= 0) return "the document says so there more than once";
        Arrays.fill(named.get(section), at, at + says.length(), true);
        return "";
    }

    private void askForWords(String section) {
        String text = doc.get(section);
        StringBuilder left = new StringBuilder();
        for (int i = 0; i < text.length(); i++) {
            boolean named = this.named.get(section)[i] || !Character.isLetterOrDigit(text.charAt(i));
            left.append(named ? ' ' : text.charAt(i));
        }
        check(section + ": tests name each word", plain(left.toString()).isEmpty(), plain(left.toString()));
    }
}
