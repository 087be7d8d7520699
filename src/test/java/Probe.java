import java.util.ArrayList;
import java.util.List;

/**
 * All that an object can be asked for, and a day of hours behind it: what it was is used up. That
 * takes some 310 calls, so a script may have some 200.
 */
final class Probe {
    /** So many answers stand at the beginning: how often each finding was. */
    static final int FINDINGS = 5;

    private final Calls asked;
    private final List<Long> answers = new ArrayList<>();
    private int rows = 0;

    private Probe(Calls asked) {
        this.asked = asked;
    }

    static List<Long> of(Calls asked) {
        Probe probe = new Probe(asked);
        probe.askFindings();
        probe.askBook();
        probe.askRows();
        probe.askSuns();
        probe.askTape();
        probe.letADayGo();
        probe.askWhatIsSet();
        return probe.answers;
    }

    private long ask(String name, int... told) {
        long answer = asked.ask(name, told);
        answers.add(answer);
        return answer;
    }

    private void askFindings() {
        for (int finding = 0; finding < FINDINGS; finding++) {
            ask("found", Due.BEYOND - finding);
        }
    }

    private void askBook() {
        ask("next");
        for (int what = 0; what < 8; what++) {
            ask("book", what);
        }
        for (int what = 0; what < 6; what++) {
            ask("all", what);
        }
    }

    private void askRows() {
        while (rows < 10 && ask("about", rows, 0) != Due.BEYOND) {
            for (int what = 1; what < 7; what++) {
                ask("about", rows, what);
            }
            rows++;
        }
        ask("plan", 1, 0);
        ask("worth", 1, 0);
        if (rows == 0) {
            rows = (int) ask("row", 0, 0, 0, 400, 0) + 1;
        }
    }

    private void askSuns() {
        // Turned, as BREADTH tells both numbers of the sun's way then.
        ask("turn", 0, 5);
        for (int hour = 0; hour < 24; hour++) {
            ask("ideal", hour);
            ask("breadth", 0, hour);
        }
    }

    /** What is on the tape is seen by the suns that come of it. */
    private void askTape() {
        long told = ask("tell", 0);
        while (told > 0 && told % 3 != 0) {
            told = ask("tell", 1);
        }
        ask("suns");
        for (int hour = 0; hour < 24; hour++) {
            ask("breadth", 0, hour);
        }
    }

    private void letADayGo() {
        ask("hour");
        for (int row = 0; row < rows; row++) {
            ask("about", row, 5);
        }
        for (int gone = 1; gone < 26; gone++) {
            ask("hour");
            ask("about", gone % rows, 5);
            ask("book", 0);
            ask("book", 5);
        }
    }

    private void askWhatIsSet() {
        for (int string = 0; string < 4; string++) {
            ask("ceiling", string, 7);
        }
        ask("limit", 7);
        for (int hour = 0; hour < 24; hour++) {
            ask("cleaning", hour, 0);
        }
        ask("tell", 0);
    }
}
