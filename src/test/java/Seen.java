import java.util.ArrayList;
import java.util.List;

/** All that can be asked of an object without changing it, question by question. */
final class Seen {
    private final List<String> questions = new ArrayList<>();
    private final List<Integer> answers = new ArrayList<>();

    /** At most some 150 calls, so that there is room for others within the 512 of an object. */
    static Seen of(TakenNumbers port) {
        Seen seen = new Seen();
        for (int what = 0; what <= 10; what++) {
            seen.add("count(" + what + ")", port.count(what));
        }
        int numbers = port.count(0);
        for (int x = 1; x <= numbers; x++) {
            for (int what = 0; what <= 3; what++) {
                seen.add("number(" + x + ", " + what + ")", port.number(x, what));
            }
        }
        int persons = port.count(1);
        for (int i = 0; i < persons; i++) {
            for (int what = 0; what <= 2; what++) {
                seen.add("person(" + i + ", " + what + ")", port.person(i, what));
            }
        }
        for (int what = 0; what <= 2; what++) {
            seen.add("law(" + what + ")", port.law(what));
            seen.add("words(" + what + ")", port.words(what));
        }
        int rows = port.count(7);
        for (int row = -1; row < rows; row++) {
            seen.add("book(" + row + ")", port.book(row));
        }
        seen.add("twice()", port.twice());
        seen.add("fault()", port.fault());
        seen.add("stuck()", port.stuck());
        return seen;
    }

    private void add(String question, int answer) {
        questions.add(question);
        answers.add(answer);
    }

    /** The first question that is answered otherwise, with both answers; empty if there is none. */
    String differsFrom(Seen other) {
        for (int k = 0; k < Math.min(answers.size(), other.answers.size()); k++) {
            if (!answers.get(k).equals(other.answers.get(k))) {
                return questions.get(k) + " answers " + answers.get(k) + ", not " + other.answers.get(k);
            }
        }
        return answers.size() == other.answers.size() ? "" : "there are more questions than before";
    }
}
