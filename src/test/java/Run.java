import java.util.Arrays;
import java.util.List;
import java.util.Map;

/**
 * A run of calls written as text, each with the answer that is due: "want 1 5 -> 1; step 1 -> 2".
 *
 * A refused call and a reading change nothing: a second object gets all other calls alone, and at the end both must
 * read alike. No object is called more often than the document allows.
 */
final class Run {
    private static final int MOST_CALLS = 512;
    private static final int BAD = -1, NONE = -2;
    private static final List<String> READINGS = List.of("holder", "pointer", "queue", "letter", "told", "count");
    private static final Map<String, Integer> NAMES = Map.ofEntries(
        Map.entry("BAD", BAD), Map.entry("NONE", NONE), Map.entry("LETTERS", -3), Map.entry("QUEUED", -4),
        Map.entry("MARKS", -5), Map.entry("FAIR", 0), Map.entry("GREEDY", 1), Map.entry("RANKED", 2),
        Map.entry("who", 0), Map.entry("rank", 1), Map.entry("MIN", Integer.MIN_VALUE),
        Map.entry("MAX", Integer.MAX_VALUE));

    private final Due due;
    private final String name;
    private final PumpHouse x = new PumpHouse();
    private final PumpHouse spared = new PumpHouse();
    private int calls;

    private Run(Due due, String name) {
        this.due = due;
        this.name = name;
    }

    static void edge(Due due, String name, String text) {
        Run run = new Run(due, name);
        for (String line : text.split("\n")) {
            for (String statement : line.replaceFirst("#.*", "").split(";")) {
                if (!statement.isBlank()) {
                    run.make(statement.strip());
                }
            }
        }
        run.readAlike();
        due.holds(name + ": keeps to 512 calls, has " + run.calls, run.calls <= MOST_CALLS);
    }

    /** The same run once for each of several numbers, in the place of the letter W. */
    static void edges(Due due, String name, String text, String... numbers) {
        for (String number : numbers) {
            edge(due, name + " (" + number + ")", text.replaceAll("\\bW\\b", number));
        }
    }

    private void make(String statement) {
        String[] sides = statement.split("->");
        String[] words = sides[0].strip().split(" +");
        int[] numbers = Arrays.stream(words).skip(1).mapToInt(Run::number).toArray();
        if (sides.length == 2) {
            call(statement, words[0], numbers, number(sides[1].strip()));
        } else {
            many(words[0], numbers);
        }
    }

    static int number(String word) {
        return NAMES.containsKey(word) ? NAMES.get(word) : Integer.parseInt(word);
    }

    private void call(String told, String call, int[] numbers, int answer) {
        calls++;
        due.is(name + ": " + told, answerOf(x, call, numbers), answer);
        boolean refused = answer < 0;
        if (!refused && !READINGS.contains(call)) {
            answerOf(spared, call, numbers);
        }
    }

    private void is(int answer, String call, int... numbers) {
        call(call + Arrays.toString(numbers), call, numbers, answer);
    }

    private int both(String call, int... numbers) {
        calls++;
        int answer = answerOf(x, call, numbers);
        due.is(name + ": refused calls and readings change nothing: " + call + Arrays.toString(numbers),
            answer, answerOf(spared, call, numbers));
        return answer;
    }

    /** What many runs begin with, or do on the way. */
    private void many(String what, int[] numbers) {
        switch (what) {
            case "chain" -> tree(numbers[0], false, numbers[1], numbers[2], numbers[3]);
            case "star" -> tree(numbers[0], true, 0, numbers[1], numbers[2]);
            case "carry" -> carry();
            case "ask" -> {
                due.holds(name + ": " + numbers[0] + " wants", both("want", numbers) > 0);
                is(2, "step", numbers[0]);
                carry();
            }
            case "pump" -> {
                is(0, "begin", numbers);
                due.holds(name + ": " + numbers[0] + " has pumped", both("end", numbers) > 0);
            }
            case "fill" -> {
                int copies = both("twin", 0);
                while (copies > 0 && copies < numbers[0]) {
                    copies = both("twin", 0);
                }
            }
            default -> throw new IllegalArgumentException(what);
        }
    }

    private void tree(int n, boolean star, int holder, int rule, int g) {
        is(0, "canal", n);
        for (int s = 1; s < n; s++) {
            is(s, "link", star ? 0 : s - 1, s);
        }
        is(0, "open", holder, rule, g);
    }

    /** All that is under way arrives: letters are taken, and their receipts take them out. */
    private void carry() {
        int answer = both("deliver", 0);
        while (answer != BAD) {
            due.holds(name + ": taken or taken out: " + answer, answer == 1 || answer == 3);
            answer = both("deliver", 0);
        }
    }

    private void readAlike() {
        int n = both("count", 0);
        for (int which : new int[] {1, 3, 4, 5, 6}) {
            both("count", which);
        }
        int copies = both("count", 2);
        if (both("holder") == BAD) {
            linkAll(n);
            return;
        }
        for (int s = 0; s < n; s++) {
            both("pointer", s);
            for (int which = 0; which <= 9; which++) {
                if (which != 3) {
                    both("told", s, which);
                }
            }
            int length = both("told", s, 3);
            for (int i = 0; i < length; i++) {
                both("queue", s, i, 0);
                both("queue", s, i, 1);
            }
        }
        for (int i = 0; i < copies; i++) {
            for (int which = 0; which <= 4; which++) {
                both("letter", i, which);
            }
        }
    }

    // Before opening, nothing tells the links but which others can still be made.
    private void linkAll(int n) {
        for (int a = 0; a < n; a++) {
            for (int b = a + 1; b < n; b++) {
                both("link", a, b);
            }
        }
    }

    static int answerOf(PumpHouse x, String call, int[] n) {
        return switch (call) {
            case "canal" -> x.canal(n[0]);
            case "link" -> x.link(n[0], n[1]);
            case "open" -> x.open(n[0], n[1], n[2]);
            case "want" -> x.want(n[0], n[1]);
            case "begin" -> x.begin(n[0]);
            case "end" -> x.end(n[0]);
            case "step" -> x.step(n[0]);
            case "deliver" -> x.deliver(n[0]);
            case "lose" -> x.lose(n[0]);
            case "twin" -> x.twin(n[0]);
            case "resend" -> x.resend(n[0]);
            case "crash" -> x.crash(n[0]);
            case "restart" -> x.restart(n[0]);
            case "cut" -> x.cut(n[0], n[1]);
            case "join" -> x.join(n[0], n[1]);
            case "holder" -> x.holder();
            case "pointer" -> x.pointer(n[0]);
            case "queue" -> x.queue(n[0], n[1], n[2] == 1);
            case "letter" -> x.letter(n[0], n[1]);
            case "told" -> x.told(n[0], n[1]);
            case "count" -> x.count(n[0]);
            default -> throw new IllegalArgumentException(call);
        };
    }
}
