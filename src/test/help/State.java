import java.util.ArrayList;
import java.util.List;

/** What an object answers about itself, so that a call that does nothing can be seen to do nothing. */
final class State {
    private static final int SOME = 3;

    private final PlateDay day;
    private final List<String> answers = new ArrayList<>();

    private State(PlateDay day) {
        this.day = day;
    }

    /** Each answer with its call; as many as calls were made. */
    static List<String> of(PlateDay day) {
        State state = new State(day);
        state.counts();
        state.town();
        state.pictures();
        return state.answers;
    }

    private int note(String call, int answer) {
        answers.add(call + " = " + answer);
        return answer;
    }

    private void counts() {
        note("fault()", day.fault());
        for (int what = 0; what < 5; what++) {
            note("count(" + what + ")", day.count(what));
        }
        for (int what = 10; what < 22; what++) {
            note("count(" + what + ")", day.count(what));
        }
    }

    private void town() {
        for (int what = 0; what < 6; what++) {
            note("told(" + what + ")", day.told(what));
        }
        for (int what = 100; what < 100 + 4 * SOME; what++) {
            note("told(" + what + ")", day.told(what));
        }
        for (int what = 200; what < 200 + 3 * SOME; what++) {
            note("told(" + what + ")", day.told(what));
        }
    }

    private void pictures() {
        int number = 0;
        while (number < SOME && note("all(" + number + ")", day.all(number)) >= 0) {
            note("days", day.days(number, 0));
            int k = 0;
            while (k < SOME && note("sign(" + number + ", " + k + ", 0)", day.sign(number, k, 0)) >= 0) {
                note("sign(" + number + ", " + k + ", 1)", day.sign(number, k, 1));
                k++;
            }
            number++;
        }
        note("shadow(0, 0, 0, 0)", day.shadow(0, 0, 0, 0));
    }
}
