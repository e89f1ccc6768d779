import java.util.ArrayList;
import java.util.List;

/**
 * All that can be asked about an object behind a run of calls. The run is played again on new objects, as often as it
 * takes, so that none of them gets more calls than the document promises anything for.
 */
final class Picture {
    private final List<Call> calls;
    private final List<String> answers = new ArrayList<>();

    private Picture(List<Call> calls) {
        this.calls = calls;
    }

    static List<String> of(List<Call> calls) {
        Picture picture = new Picture(calls);
        picture.askNow();
        int kept = Math.min(4, picture.number(calls, new Call("told", 5)));
        for (int depth = 1; depth <= kept; depth++) {
            picture.askKept(depth);
        }
        return picture.answers;
    }

    private void askNow() {
        List<Call> questions = stateQuestions(calls);
        int codeLength = Math.min(20000, number(calls, new Call("told", 6)));
        for (int i = 0; i <= codeLength; i++) {
            questions.add(new Call("code", i));
        }
        ask(calls, questions);
    }

    /** Without a protected stretch, so that the whole state is seen as it was kept. */
    private void askKept(int depth) {
        List<Call> longer = new ArrayList<>(calls);
        longer.add(new Call("protect", 0, 0));
        for (int i = 0; i < depth; i++) {
            longer.add(new Call("back"));
        }
        ask(longer, stateQuestions(longer));
    }

    private List<Call> stateQuestions(List<Call> ahead) {
        List<Call> questions = new ArrayList<>();
        for (int what = 0; what <= 8; what++) {
            questions.add(new Call("told", what));
        }
        int used = Math.min(64, number(ahead, new Call("told", 2)));
        for (int i = 0; i < 3 * used; i++) {
            questions.add(new Call("block", i / 3, i % 3));
        }
        int size = Math.min(8192, number(ahead, new Call("told", 0)));
        for (int at = 0; at < size; at += 4) {
            questions.add(new Call("get", at, 4));
        }
        return questions;
    }

    private void ask(List<Call> ahead, List<Call> questions) {
        int atOnce = Run.CALLS_MOST - ahead.size();
        if (atOnce <= 0) {
            throw new IllegalStateException("the run is too long to ask anything behind it");
        }
        for (int from = 0; from < questions.size(); from += atOnce) {
            GlulxHeap heap = played(ahead);
            for (Call question : questions.subList(from, Math.min(questions.size(), from + atOnce))) {
                answers.add(question + " -> " + question.answerOf(heap));
            }
        }
    }

    private int number(List<Call> ahead, Call question) {
        String answer = question.answerOf(played(ahead));
        return answer.matches("-?\\d{1,9}") ? Integer.parseInt(answer) : 0;
    }

    private static GlulxHeap played(List<Call> calls) {
        GlulxHeap heap = new GlulxHeap();
        for (Call call : calls) {
            call.answerOf(heap);
        }
        return heap;
    }
}
