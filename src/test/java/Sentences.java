import java.util.HashSet;
import java.util.Set;
import java.util.function.Consumer;

/** Tests of single sentences of the document: each has a new Run, and is named when it fails. */
final class Sentences {
    private final Due due = new Due();
    private final Set<String> told = new HashSet<>();

    /** A test of a sentence, which is told as "promise: its words". */
    void test(String sentence, Consumer<Run> calls) {
        due.beginSentence(sentence);
        due.holds("the sentence is told once", told.add(sentence));
        int before = due.asked();
        calls.accept(new Run(due));
        due.holds("the sentence is asked for", due.asked() > before);
    }

    void end() {
        System.out.println(told.size() + " sentences");
        due.beginSentence("");
        due.end();
    }
}
