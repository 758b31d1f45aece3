import java.util.Random;
import java.util.TreeMap;

/** Long runs of calls, drawn from fixed seeds, on PumpHouse and on the model beside it: all answers must agree. */
public final class WanderTest {
    private static final int RUNS = 1500;
    private static final int CALLS = 512;
    private static final int[] ODD = {-1, -2, 24, 25, 60, 1000, Integer.MIN_VALUE, Integer.MAX_VALUE};
    private static final Due due = new Due("wander");

    private final Random random;
    private final PumpHouse x = new PumpHouse();
    private final Model y = new Model();
    private final TreeMap<String, Integer> seen;
    private final int lossy;
    private int stations = 2;

    private WanderTest(long seed, TreeMap<String, Integer> seen) {
        random = new Random(seed);
        lossy = random.nextInt(12);
        this.seen = seen;
    }

    public static void main(String[] args) {
        TreeMap<String, Integer> seen = new TreeMap<>();
        for (int seed = 0; seed < RUNS; seed++) {
            new WanderTest(seed, seen).run();
        }
        String[] rare = {"step 1", "step 2", "step 3", "deliver 0", "deliver 1", "deliver 2", "deliver 3", "deliver 4",
            "begin 0", "begin -2", "cut 0", "cut -1", "cut -3", "cut -4", "join 0", "join -1", "join -5", "twin -1"};
        for (String answer : rare) {
            due.holds("the runs come to " + answer, seen.getOrDefault(answer, 0) > 100);
        }
        afterTheLastCall();
        due.finish();
    }

    private void run() {
        lay();
        for (int call = 0; call < CALLS; call++) {
            act();
            if (call % 8 == 0) {
                compareAll();
            }
        }
        compareAll();
    }

    private void agree(String call, int got, int want) {
        due.is(call, got, want);
        String key = call + " " + (want > 4 ? "more" : want);
        seen.merge(key, 1, Integer::sum);
    }

    private void lay() {
        stations = random.nextInt(4) == 0 ? 2 + random.nextInt(23) : 2 + random.nextInt(6);
        agree("canal", x.canal(stations), y.canal(stations));
        for (int s = 1; s < stations; s++) {
            int t = random.nextInt(s);
            if (random.nextInt(9) == 0) {
                compareAll();
            }
            agree("link", x.link(s, t), y.link(s, t));
            int a = any();
            int b = any();
            agree("link", x.link(a, b), y.link(a, b));
        }
        int holder = random.nextInt(stations);
        int rule = random.nextInt(3);
        int g = 1 + random.nextInt(4);
        agree("open", x.open(holder, rule, g), y.open(holder, rule, g));
    }

    private int any() {
        return random.nextInt(40) == 0 ? ODD[random.nextInt(ODD.length)] : random.nextInt(stations);
    }

    private int copy() {
        int copies = y.count(2);
        if (copies < 1 || random.nextInt(60) == 0) {
            return ODD[random.nextInt(ODD.length)];
        }
        return random.nextBoolean() ? 0 : random.nextInt(copies);
    }

    private void act() {
        int kind = random.nextInt(100);
        if (kind < 30) {
            int i = copy();
            agree("deliver", x.deliver(i), y.deliver(i));
        } else if (kind < 52) {
            int s = any();
            agree("step", x.step(s), y.step(s));
        } else if (kind < 62) {
            int s = any();
            int rank = random.nextInt(104) - 1;
            agree("want", x.want(s, rank), y.want(s, rank));
        } else if (kind < 74) {
            pump();
        } else if (kind < 86) {
            disturb();
        } else if (kind < 99 || random.nextInt(20) > 0) {
            rebuild();
        } else {
            layAnew();
        }
    }

    private void pump() {
        int s = y.holder() >= 0 && random.nextInt(3) > 0 ? y.holder() : any();
        if (random.nextBoolean()) {
            agree("begin", x.begin(s), y.begin(s));
        } else {
            agree("end", x.end(s), y.end(s));
        }
    }

    private void disturb() {
        int kind = random.nextInt(12 + lossy);
        int s = any();
        int i = copy();
        if (kind < 5) {
            agree("resend", x.resend(s), y.resend(s));
        } else if (kind < 7) {
            agree("restart", x.restart(s), y.restart(s));
        } else if (kind < 8) {
            agree("crash", x.crash(s), y.crash(s));
        } else if (kind < 10) {
            agree("lose", x.lose(i), y.lose(i));
        } else {
            int times = random.nextInt(15) == 0 ? 60 : 1;
            for (int t = 0; t < times; t++) {
                agree("twin", x.twin(i), y.twin(i));
            }
        }
    }

    private void rebuild() {
        int a = any();
        int b = any();
        if (random.nextBoolean()) {
            agree("cut", x.cut(a, b), y.cut(a, b));
        } else {
            agree("join", x.join(a, b), y.join(a, b));
        }
    }

    private void layAnew() {
        int n = random.nextInt(28) - 1;
        int answer = y.canal(n);
        agree("canal", x.canal(n), answer);
        if (answer == 0) {
            compareAll();
            lay();
        }
    }

    private void compareAll() {
        for (int which = -1; which <= 7; which++) {
            due.is("count(" + which + ")", x.count(which), y.count(which));
        }
        due.is("holder()", x.holder(), y.holder());
        for (int s = -1; s <= stations; s++) {
            due.is("pointer(" + s + ")", x.pointer(s), y.pointer(s));
            for (int which = -1; which <= 10; which++) {
                due.is("told(" + s + ", " + which + ")", x.told(s, which), y.told(s, which));
            }
            for (int i = -1; i <= Math.max(0, y.told(s, 3)); i++) {
                due.is("queue(" + s + ", " + i + ", false)", x.queue(s, i, false), y.queue(s, i, false));
                due.is("queue(" + s + ", " + i + ", true)", x.queue(s, i, true), y.queue(s, i, true));
            }
        }
        for (int i = -1; i <= Math.max(0, y.count(2)); i++) {
            for (int which = -1; which <= 5; which++) {
                due.is("letter(" + i + ", " + which + ")", x.letter(i, which), y.letter(i, which));
            }
        }
    }

    // What is answered then is free, but nothing may be thrown, however full the outboxes are.
    private static void afterTheLastCall() {
        Random random = new Random(7);
        PumpHouse x = new PumpHouse();
        x.canal(5);
        for (int s = 1; s < 5; s++) {
            x.link(0, s);
        }
        x.open(0, 2, 1);
        for (int call = 0; call < 200_000; call++) {
            int s = random.nextInt(5);
            x.want(s, random.nextInt(101));
            x.step(s);
            x.begin(s);
            x.end(s);
            if (random.nextInt(3) == 0) {
                x.deliver(random.nextInt(60));
            }
            x.cut(0, s);
            x.join(0, s);
            x.resend(s);
        }
        due.holds("the pool keeps its bound", x.count(2) <= 60);
    }
}
