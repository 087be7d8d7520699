import java.util.ArrayList;
import java.util.List;
import java.util.Set;

/**
 * A run of calls on a new object, told as text, for one sentence of the document. A line is a call
 * with its numbers and, behind '=', the answer that is due; "3 times" ahead of it repeats it. A line
 * without '=' may answer anything but a finding.
 *
 * Of each line that must leave all as it was (it answers a finding, or only asks) that is looked at,
 * too: the run up to it and the run with it must answer alike to all that can be asked then.
 */
final class Script {
    private static final Set<String> ONLY_ASKS = Set.of("about", "as", "ideal", "back", "breadth",
            "shade", "dark", "current", "gives", "book", "all", "next", "plan", "worth", "found");

    private record Line(String text, String name, int[] told, Long due) {
        boolean isFinding() {
            return due != null && due <= Due.BEYOND && due >= Due.SIZE;
        }

        boolean leavesAll() {
            return isFinding() || ONLY_ASKS.contains(name);
        }

        /** The two acts that tell a finding and empty the tape all the same. */
        boolean isRefusedAndEmptiesTape() {
            return isFinding() && (name.equals("check") || (name.equals("suns") && due == Due.BEYOND));
        }

        boolean isOfTape() {
            return name.equals("tell") || name.equals("suns") || name.equals("check");
        }

        boolean emptiesTape() {
            return name.equals("check") || (name.equals("suns") && (due == null || due != Due.SIZE));
        }
    }

    private final String sentence;
    private final List<Line> lines = new ArrayList<>();

    private Script(String sentence) {
        this.sentence = sentence;
    }

    static void run(String sentence, String text) {
        Script script = new Script(sentence);
        for (String line : text.split("\n")) {
            if (!line.isBlank()) {
                script.add(line.strip());
            }
        }
        script.answersAreDue();
        script.restStaysAsItWas();
    }

    private void add(String text) {
        String[] words = text.split("\\s+");
        int at = 0;
        int times = 1;
        if (words.length > 1 && words[1].equals("times")) {
            times = Integer.parseInt(words[0]);
            at = 2;
        }
        String name = words[at];
        List<Integer> told = new ArrayList<>();
        for (at++; at < words.length && !words[at].equals("="); at++) {
            told.add((int) number(words[at]));
        }
        Long due = at < words.length ? Long.valueOf(number(words[at + 1])) : null;
        int[] numbers = told.stream().mapToInt(Integer::intValue).toArray();
        for (int made = 0; made < times; made++) {
            lines.add(new Line(text, name, numbers, due));
        }
    }

    private static long number(String word) {
        switch (word) {
            case "MIN":
                return Integer.MIN_VALUE;
            case "MAX":
                return Integer.MAX_VALUE;
            case "true":
                return 1;
            case "false":
                return 0;
            case "BEYOND":
                return Due.BEYOND;
            case "NONE":
                return Due.NONE;
            case "KIND":
                return Due.KIND;
            case "FULL":
                return Due.FULL;
            case "SIZE":
                return Due.SIZE;
            default:
                return Long.parseLong(word);
        }
    }

    private void answersAreDue() {
        Calls calls = new Calls();
        for (int at = 0; at < lines.size(); at++) {
            Line line = lines.get(at);
            long answer = calls.ask(line.name, line.told);
            String place = "[" + sentence + "] line " + (at + 1) + ": " + line.text;
            if (line.due != null) {
                Due.is(place, answer, line.due);
            } else {
                Due.isTrue(place + " answered the finding " + answer,
                        answer > Due.BEYOND || answer < Due.SIZE);
            }
        }
    }

    private void restStaysAsItWas() {
        for (int at = 0; at < lines.size(); at++) {
            boolean isRepeated = at > 0 && lines.get(at).text.equals(lines.get(at - 1).text);
            if (lines.get(at).leavesAll() && !isRepeated) {
                stayedAt(at);
            }
        }
    }

    private void stayedAt(int at) {
        Line line = lines.get(at);
        Calls with = new Calls();
        for (int made = 0; made <= at; made++) {
            with.ask(lines.get(made).name, lines.get(made).told);
        }
        Calls without = new Calls();
        List<Line> leftOut = new ArrayList<>(List.of(line));
        int kept = line.isRefusedAndEmptiesTape() ? lastEmptyTape(at) : at;
        for (int made = 0; made < at; made++) {
            if (made > kept && lines.get(made).isOfTape()) {
                leftOut.add(lines.get(made));
            } else {
                without.ask(lines.get(made).name, lines.get(made).told);
            }
        }
        List<Long> got = Probe.of(with);
        List<Long> want = Probe.of(without);
        for (Line one : leftOut) {
            if (one.isFinding()) {
                int finding = (int) (Due.BEYOND - one.due);
                want.set(finding, want.get(finding) + 1);
            }
        }
        Due.isTrue("[" + sentence + "] line " + (at + 1) + ": " + line.text
                + " changed more than it may: " + got + ", due is " + want, got.equals(want));
    }

    /** The latest line ahead of that one behind which the tape was empty; -1 for the new object. */
    private int lastEmptyTape(int before) {
        for (int at = before - 1; at >= 0; at--) {
            if (lines.get(at).emptiesTape()) {
                return at;
            }
        }
        return -1;
    }
}
