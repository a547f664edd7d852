import java.io.IOException;
import java.nio.file.Files;
import java.nio.file.Path;
import java.util.HashSet;
import java.util.Set;
import java.util.function.Consumer;

/** Tests that each bear the document's words that they stand for. */
final class Sentences {
    private final String document;
    private final Set<String> told = new HashSet<>();
    private String section = "";
    private String sectionText = "";
    private int wrong = 0;

    Sentences() {
        document = plain(read(System.getProperty("document", "")));
    }

    private static String read(String file) {
        try {
            return Files.readString(Path.of(file));
        } catch (IOException e) {
            System.out.println("the document is not at hand: quotes are not compared with it");
            return "";
        }
    }

    private static String plain(String text) {
        return text.replaceAll("```\\w*", " ").replaceAll("\\s+", " ");
    }

    /** The section of the document that the next tests quote. */
    void at(String heading) {
        section = heading;
        int from = (document + " ").replace(':', ' ').indexOf("## " + heading + " ");
        int to = document.indexOf(" ## ", from + 1);
        sectionText = from < 0 ? "" : document.substring(from, to < 0 ? document.length() : to);
        if (from < 0 && !document.isEmpty()) {
            fail("the document has no section " + heading);
        }
    }

    void test(String words, Consumer<Bench> test) {
        test(words, "", test);
    }

    /** One of several cases that the words name. */
    void test(String words, String which, Consumer<Bench> test) {
        String name = section + ": \"" + words + "\"" + (which.isEmpty() ? "" : ", " + which);
        if (!told.add(name)) {
            fail(name + " is tested twice");
        }
        if (!document.isEmpty() && !sectionText.contains(words)) {
            fail(name + " is not in the document");
        }
        Bench bench = new Bench(name);
        run(bench, name, test);
        wrong += bench.wrong;
        if (bench.checks == 0) {
            fail(name + " checks nothing");
        }
    }

    // A call that throws must not hide the tests behind it.
    private void run(Bench bench, String name, Consumer<Bench> test) {
        try {
            test.accept(bench);
        } catch (RuntimeException e) {
            fail(name + " ends with " + e);
        }
    }

    private void fail(String why) {
        wrong++;
        System.out.println(why);
    }

    void end() {
        System.out.println(wrong == 0 ? told.size() + " boundary cases hold" : wrong + " answers are not as due");
        System.exit(wrong == 0 ? 0 : 1);
    }
}
