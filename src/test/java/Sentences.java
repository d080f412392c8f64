import java.util.ArrayList;
import java.util.List;
import java.util.Set;
import java.util.TreeSet;

/** Tests that each belong to one sentence of the document, or to one clause of a long sentence. */
final class Sentences {
    interface Look {
        void at(Due due);
    }

    private final Document document = new Document();
    private final Due due;
    private final Set<String> sections = new TreeSet<>();
    private int looked;
    private final List<String> broken = new ArrayList<>();

    Sentences(String test) {
        due = new Due(test);
    }

    void says(String section, String words, Look look) {
        String name = section + ": " + words;
        sections.add(section);
        due.about(name);
        int asked = due.asked();
        int wrong = due.wrong();
        due.is("the document says so", document.quote(section, words), true);
        try {
            look.at(due);
        } catch (RuntimeException e) {
            due.tell("threw " + e);
        }
        due.is("something was asked", due.asked() > asked + 1, true);
        looked++;
        if (due.wrong() > wrong) {
            broken.add(name);
        }
    }

    /** The sections whose sentences were looked at. */
    Set<String> sections() {
        return sections;
    }

    /** The sentences that do not hold. */
    List<String> broken() {
        return broken;
    }

    void end() {
        for (String section : sections) {
            due.about(section);
            String rest = document.unquoted(section);
            due.is("words without a test: " + rest, rest.isEmpty(), true);
        }
        System.out.println(looked + " sentences, " + broken.size() + " broken");
        due.end();
    }
}
