import java.util.List;
import java.util.Set;
import java.util.TreeSet;

/** Every section of the document has its tests by sentence in one of the Says tests, and all hold. */
public final class SaysAllTest {
    /** The face is looked at by FaceTest; what is not promised has no test. */
    private static final Set<String> ELSEWHERE = Set.of("The public face", "Not promised");

    public static void main(String[] args) {
        Due due = new Due("SaysAllTest");
        Set<String> told = new TreeSet<>();
        for (Sentences test : all()) {
            told.addAll(test.sections());
            due.is("broken: " + test.broken(), test.broken().isEmpty(), true);
        }
        Set<String> sections = new Document().sections();
        for (String section : sections) {
            due.is(section + " has tests", told.contains(section), !ELSEWHERE.contains(section));
        }
        for (int promise = 1; promise <= 31; promise++) {
            due.is("promise " + promise, sections.contains("Promise " + promise), true);
        }
        due.end();
    }

    static List<Sentences> all() {
        return List.of(SaysThingsTest.all(), SaysBodiesTest.all(), SaysRunTest.all(),
            SaysTellingTest.all(), SaysAskingTest.all(), SaysBooksTest.all());
    }
}
