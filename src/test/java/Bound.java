import java.util.List;
import java.util.Set;
import java.util.TreeSet;

/** Tests of boundary cases: each quotes the sentence of the document that names it, and has runs of its own. */
final class Bound {
    private static final Document DOCUMENT = new Document();
    private static final Set<String> SENTENCES = new TreeSet<>();
    private static final Set<String> BROKEN = new TreeSet<>();

    private Bound() {
    }

    /** One run, on a new object, of calls that the sentence decides. */
    static void test(String section, String sentence, String... lines) {
        String name = section + " | " + sentence;
        SENTENCES.add(name);
        if (!DOCUMENT.quote(section, sentence)) {
            Script.expect(name + ": this sentence does not stand in the document", 0, 1);
        }
        int before = Script.wrongSoFar();
        Script.run(name, lines);
        if (Script.wrongSoFar() > before) {
            BROKEN.add(name);
        }
    }

    static Set<String> sentences() {
        return SENTENCES;
    }

    /** The sentences whose tests have failed. */
    static Set<String> broken() {
        return BROKEN;
    }

    static void end(String... sections) {
        for (String section : sections) {
            List<String> forgotten = DOCUMENT.forgotten(section);
            for (String place : forgotten) {
                Script.expect("no test quotes this boundary, " + place, 0, 1);
            }
        }
        System.out.println(SENTENCES.size() + " sentences that name a boundary");
        Script.end();
    }
}
