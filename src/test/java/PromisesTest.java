/** One method a promise (two or three for the large ones): ordinary inputs, the named edges, wrong inputs. */
public final class PromisesTest {
    private static final int BAD = -1, NONE = -2, LETTERS = -3, QUEUED = -4, MARKS = -5;
    private static final int FAIR = 0, GREEDY = 1, RANKED = 2;
    private static final int[] NO_STATION_OF_THREE = {-1, 3, 24, 25, Integer.MIN_VALUE, Integer.MAX_VALUE};
    private static final Due due = new Due("promises");

    public static void main(String[] args) {
        newObject();
        canal();
        link();
        open();
        openPointsAll();
        want();
        begin();
        beginByRule();
        beginRanksAndRow();
        end();
        stepPasses();
        stepAsks();
        stepAsksHigher();
        deliverLetters();
        deliverReceipts();
        deliverToOneDown();
        askTwice();
        lose();
        twin();
        poolIsFull();
        resend();
        crashAndRestart();
        cut();
        join();
        joinTurnsPointers();
        joinMarks();
        joinWhileRightIsUnderWay();
        holder();
        pointer();
        queue();
        letter();
        toldFlagsAndNumbers();
        toldOthersBegan();
        toldOvertook();
        count();
        countWhereRightIs();
        nothingBeforeOpening();
        due.finish();
    }

    private static PumpHouse chain(int n, int holder, int rule, int g) {
        PumpHouse x = new PumpHouse();
        due.is("canal", x.canal(n), 0);
        for (int s = 1; s < n; s++) {
            due.is("link", x.link(s - 1, s), s);
        }
        due.is("open", x.open(holder, rule, g), 0);
        return x;
    }

    private static PumpHouse star(int n, int rule, int g) {
        PumpHouse x = new PumpHouse();
        due.is("canal", x.canal(n), 0);
        for (int s = 1; s < n; s++) {
            due.is("link", x.link(0, s), s);
        }
        due.is("open", x.open(0, rule, g), 0);
        return x;
    }

    private static void deliverAll(PumpHouse x) {
        for (int i = 0; i < 400 && x.count(2) > 0; i++) {
            x.deliver(0);
        }
        due.is("copies left", x.count(2), 0);
    }

    private static void wantAndAsk(PumpHouse x, int s, int rank) {
        due.holds("it wants", x.want(s, rank) > 0);
        due.is("step(" + s + ")", x.step(s), 2);
        deliverAll(x);
    }

    private static void pump(PumpHouse x, int s) {
        due.is("begin(" + s + ")", x.begin(s), 0);
        due.holds("it ends", x.end(s) > 0);
    }

    private static void newObject() {
        PumpHouse x = new PumpHouse();
        due.is("stations", x.count(0), 2);
        due.is("links", x.count(1), 1);
        due.is("parts", x.count(5), 1);
        due.is("holder", x.holder(), 0);
        due.is("pointer(1)", x.pointer(1), 0);
        due.is("copies", x.count(2), 0);
        due.is("who pumps", x.count(3), NONE);
        due.is("begun", x.count(6), 0);
        due.is("open again", x.open(0, 0, 1), BAD);
        due.is("link again", x.link(0, 1), BAD);
        // FAIR: who came first goes first, though the other one's rank is greater.
        due.is("want(0)", x.want(0, 0), 1);
        wantAndAsk(x, 1, 100);
        due.is("begin(0)", x.begin(0), 0);
    }

    private static void canal() {
        PumpHouse x = new PumpHouse();
        int[] wrong = {-1, 0, 1, 25, Integer.MIN_VALUE, Integer.MAX_VALUE};
        for (int n : wrong) {
            due.is("canal(" + n + ")", x.canal(n), BAD);
        }
        due.is("still open behind a wrong canal", x.holder(), 0);
        due.is("still two", x.count(0), 2);
        due.is("canal(24)", x.canal(24), 0);
        due.is("stations", x.count(0), 24);
        due.is("links", x.count(1), 0);
        due.is("parts", x.count(5), 24);
        due.is("not open", x.holder(), BAD);
        due.is("canal(2)", x.canal(2), 0);
        due.is("stations", x.count(0), 2);
        due.is("link(0, 2)", x.link(0, 2), BAD);
        due.is("link(1, 0)", x.link(1, 0), 1);
        due.is("wrong canal", x.canal(25), BAD);
        due.is("links stay", x.count(1), 1);
        nothingIsLeftBehindCanal();
    }

    private static void nothingIsLeftBehindCanal() {
        PumpHouse x = star(4, RANKED, 1);
        wantAndAsk(x, 2, 90);
        x.want(0, 100);
        pump(x, 0);
        x.want(0, 100);
        x.begin(0);
        x.want(3, 50);
        x.step(3);
        x.crash(1);
        due.is("canal", x.canal(4), 0);
        due.is("link", x.link(1, 0), 1);
        due.is("link", x.link(0, 2), 2);
        due.is("link", x.link(0, 3), 3);
        due.is("open", x.open(3, FAIR, 1), 0);
        due.is("copies", x.count(2), 0);
        due.is("pumps", x.count(3), NONE);
        due.is("begun", x.count(6), 0);
        for (int s = 0; s < 4; s++) {
            for (int which = 0; which <= 8; which++) {
                due.is("told(" + s + ", " + which + ")", x.told(s, which), 0);
            }
        }
        x.want(3, 0);
        pump(x, 3);
        due.is("2 has not wanted since", x.told(2, 6), 0);
        due.is("want(2, 1)", x.want(2, 1), 1);
        due.is("step(2)", x.step(2), 2);
        due.is("numbers begin at 0", x.letter(0, 3), 0);
        due.is("to", x.letter(0, 2), 0);
        due.is("taken", x.deliver(0), 1);
    }

    private static void link() {
        PumpHouse x = new PumpHouse();
        due.is("open: link", x.link(0, 1), BAD);
        x.canal(3);
        for (int s : NO_STATION_OF_THREE) {
            due.is("link(0, " + s + ")", x.link(0, s), BAD);
            due.is("link(" + s + ", 0)", x.link(s, 0), BAD);
        }
        due.is("itself", x.link(1, 1), BAD);
        due.is("link(2, 0)", x.link(2, 0), 1);
        due.is("twice", x.link(2, 0), BAD);
        due.is("twice, turned", x.link(0, 2), BAD);
        due.is("link(0, 1)", x.link(0, 1), 2);
        due.is("a ring", x.link(1, 2), BAD);
        due.is("links", x.count(1), 2);
        x.canal(24);
        for (int s = 1; s < 24; s++) {
            due.is("link", x.link(s, s - 1), s);
        }
        due.is("a ring of 24", x.link(0, 23), BAD);
        due.is("parts", x.count(5), 1);
    }

    private static void open() {
        PumpHouse x = new PumpHouse();
        due.is("it is open", x.open(1, 0, 1), BAD);
        x.canal(3);
        x.link(0, 1);
        due.is("two parts", x.open(0, 0, 1), BAD);
        x.link(1, 2);
        for (int s : NO_STATION_OF_THREE) {
            due.is("open(" + s + ", 0, 1)", x.open(s, 0, 1), BAD);
        }
        due.is("rule -1", x.open(0, -1, 1), BAD);
        due.is("rule 3", x.open(0, 3, 1), BAD);
        for (int rule = 0; rule <= 2; rule++) {
            due.is("G 0", x.open(0, rule, 0), BAD);
            due.is("G 5", x.open(0, rule, 5), BAD);
        }
        due.is("still not open", x.holder(), BAD);
        due.is("open(2, 2, 4)", x.open(2, 2, 4), 0);
        due.is("holder", x.holder(), 2);
        due.is("twice", x.open(2, 2, 4), BAD);
    }

    private static void openPointsAll() {
        PumpHouse x = new PumpHouse();
        x.canal(7);
        int[] from = {6, 6, 0, 0, 5, 5};
        int[] to = {0, 5, 3, 4, 1, 2};
        for (int i = 0; i < from.length; i++) {
            due.is("link", x.link(from[i], to[i]), i + 1);
        }
        due.is("open", x.open(3, FAIR, 1), 0);
        int[] pointers = {3, 5, 5, 3, 0, 6, 0};
        for (int s = 0; s < 7; s++) {
            due.is("pointer(" + s + ")", x.pointer(s), pointers[s]);
        }
        PumpHouse y = chain(24, 0, FAIR, 1);
        PumpHouse z = chain(24, 23, FAIR, 1);
        for (int s = 0; s < 24; s++) {
            due.is("pointer", y.pointer(s), s == 0 ? 0 : s - 1);
            due.is("pointer", z.pointer(s), s == 23 ? 23 : s + 1);
        }
    }

    private static void want() {
        PumpHouse x = star(3, FAIR, 1);
        for (int s : NO_STATION_OF_THREE) {
            due.is("want(" + s + ", 0)", x.want(s, 0), BAD);
        }
        due.is("rank -1", x.want(1, -1), BAD);
        due.is("rank 101", x.want(1, 101), BAD);
        due.is("nobody wants", x.told(1, 3), 0);
        due.is("rank 100", x.want(1, 100), 1);
        due.is("its rank", x.queue(1, 0, true), 100);
        due.is("it wants", x.want(1, 3), BAD);
        due.is("its rank stays", x.queue(1, 0, true), 100);
        due.is("step", x.step(1), 2);
        deliverAll(x);
        due.is("rank 0, second in its queue", x.want(0, 0), 2);
        due.is("who", x.queue(0, 1, false), 0);
        due.is("crash", x.crash(2), 0);
        due.is("down", x.want(2, 0), BAD);
        due.is("restart", x.restart(2), 0);
        due.is("up again", x.want(2, 0), 1);
        PumpHouse y = star(2, FAIR, 1);
        y.want(0, 0);
        y.begin(0);
        due.is("it pumps", y.want(0, 0), BAD);
        y.end(0);
        due.is("it has pumped", y.want(0, 0), 1);
    }

    private static void begin() {
        PumpHouse x = star(3, FAIR, 1);
        for (int s : NO_STATION_OF_THREE) {
            due.is("begin(" + s + ")", x.begin(s), BAD);
        }
        due.is("it does not want", x.begin(0), NONE);
        due.is("want", x.want(1, 0), 1);
        due.is("it does not hold the right", x.begin(1), NONE);
        due.is("want", x.want(0, 0), 1);
        due.is("crash", x.crash(0), 0);
        due.is("down", x.begin(0), BAD);
        x.restart(0);
        due.is("begin", x.begin(0), 0);
        due.is("pumps", x.told(0, 1), 1);
        due.is("out of its queue", x.told(0, 3), 0);
        due.is("it pumps", x.begin(0), NONE);
        due.is("begun", x.count(6), 1);
    }

    private static void beginByRule() {
        PumpHouse fair = star(3, FAIR, 1);
        wantAndAsk(fair, 1, 0);
        fair.want(0, 100);
        due.is("FAIR: another one came first", fair.begin(0), NONE);
        PumpHouse greedy = star(3, GREEDY, 1);
        wantAndAsk(greedy, 1, 100);
        wantAndAsk(greedy, 2, 100);
        greedy.want(0, 0);
        pump(greedy, 0);
        greedy.want(0, 0);
        due.is("GREEDY: its row is G", greedy.begin(0), NONE);
        due.is("the first of the others", greedy.step(0), 1);
        due.is("that is 1", greedy.pointer(0), 1);
        PumpHouse alone = star(3, GREEDY, 1);
        wantAndAsk(alone, 1, 0);
        alone.want(0, 0);
        pump(alone, 0);
        due.is("GREEDY: the row", alone.told(0, 4), 1);
        PumpHouse ranked = star(3, RANKED, 1);
        wantAndAsk(ranked, 1, 7);
        wantAndAsk(ranked, 2, 8);
        ranked.want(0, 8);
        due.is("RANKED: of several the one that came first", ranked.begin(0), NONE);
        due.is("step", ranked.step(0), 1);
        due.is("that is 2", ranked.pointer(0), 2);
        PumpHouse above = star(3, RANKED, 1);
        wantAndAsk(above, 1, 7);
        above.want(0, 8);
        due.is("RANKED: the greatest rank", above.begin(0), 0);
        greedyWhoCameFirstButHadEnough();
    }

    private static void greedyWhoCameFirstButHadEnough() {
        PumpHouse x = star(3, GREEDY, 1);
        x.want(0, 0);
        wantAndAsk(x, 1, 0);
        pump(x, 0);
        due.is("want again, behind 1", x.want(0, 0), 2);
        due.is("passes", x.step(0), 1);
        deliverAll(x);
        pump(x, 1);
        due.is("back", x.step(1), 1);
        deliverAll(x);
        due.is("row is 0 behind the passing", x.told(0, 4), 0);
        pump(x, 0);
        due.is("row stays without others", x.told(0, 4), 0);
        due.is("want", x.want(0, 0), 1);
        wantAndAsk(x, 2, 0);
        pump(x, 0);
        due.is("row", x.told(0, 4), 1);
    }

    private static void beginRanksAndRow() {
        PumpHouse x = star(4, GREEDY, 4);
        wantAndAsk(x, 1, 0);
        x.want(0, 5);
        wantAndAsk(x, 2, 60);
        due.is("begin", x.begin(0), 0);
        due.is("rank of 1", x.queue(0, 0, true), 1);
        due.is("rank of 2", x.queue(0, 1, true), 61);
        due.is("row", x.told(0, 4), 1);
        ranksGrow();
        due.is("alone: row", rowAlone(), 0);
    }

    private static int rowAlone() {
        PumpHouse x = star(2, FAIR, 1);
        x.want(0, 0);
        x.begin(0);
        return x.told(0, 4);
    }

    // The end of ranks, 1,000, lies beyond what 512 calls can reach.
    private static void ranksGrow() {
        PumpHouse x = star(2, RANKED, 1);
        wantAndAsk(x, 1, 0);
        for (int i = 1; i <= 100; i++) {
            x.want(0, 100);
            pump(x, 0);
            due.is("rank behind " + i + " begins", x.queue(0, 0, true), i);
        }
        x.want(0, 100);
        due.is("100 against 100: 1 came first", x.begin(0), NONE);
        PumpHouse y = star(3, GREEDY, 4);
        wantAndAsk(y, 1, 100);
        y.want(0, 0);
        pump(y, 0);
        due.is("rank goes above 100", y.queue(0, 0, true), 101);
    }

    private static void end() {
        PumpHouse x = star(3, FAIR, 1);
        for (int s : NO_STATION_OF_THREE) {
            due.is("end(" + s + ")", x.end(s), BAD);
        }
        due.is("it does not pump", x.end(0), BAD);
        for (int i = 1; i <= 3; i++) {
            x.want(0, 0);
            x.begin(0);
            due.is("not yet pumped", x.told(0, 5), i - 1);
            due.is("another one", x.end(1), BAD);
            due.is("end", x.end(0), i);
            due.is("pumped", x.told(0, 5), i);
            due.is("no more", x.end(0), BAD);
            due.is("pumps", x.told(0, 1), 0);
        }
    }

    private static void stepPasses() {
        PumpHouse x = star(4, FAIR, 1);
        for (int s : new int[] {-1, 4, 24, Integer.MAX_VALUE}) {
            due.is("step(" + s + ")", x.step(s), BAD);
        }
        due.is("nothing to do for the holder", x.step(0), 0);
        due.is("nothing to do for another one", x.step(1), 0);
        x.want(0, 3);
        due.is("the holder itself is first", x.step(0), 0);
        wantAndAsk(x, 2, 10);
        x.begin(0);
        due.is("it pumps", x.step(0), 0);
        x.end(0);
        wantAndAsk(x, 1, 20);
        due.is("row", x.told(0, 4), 1);
        due.is("passes", x.step(0), 1);
        due.is("pointer", x.pointer(0), 2);
        due.is("row", x.told(0, 4), 0);
        due.is("queue", x.told(0, 3), 1);
        due.is("who stays", x.queue(0, 0, false), 1);
        due.is("rank is 1 more", x.queue(0, 0, true), 21);
        due.is("mark", x.told(0, 0), 1);
        due.is("RIGHT and ASK", x.told(0, 8), 2);
        due.is("one copy", x.count(2), 1);
        due.is("RIGHT", x.letter(0, 0), 1);
        due.is("number", x.letter(0, 3), 0);
        due.is("taken", x.deliver(0), 1);
        due.is("receipt", x.deliver(0), 3);
        due.is("ASK", x.letter(0, 0), 0);
        due.is("number", x.letter(0, 3), 1);
        due.is("its rank", x.letter(0, 4), 21);
        due.is("crash", x.crash(2), 0);
        due.is("down", x.step(2), BAD);
        passesWithoutOthers();
    }

    private static void passesWithoutOthers() {
        PumpHouse x = star(3, FAIR, 1);
        wantAndAsk(x, 1, 0);
        due.is("passes", x.step(0), 1);
        due.is("no mark", x.told(0, 0), 0);
        due.is("RIGHT alone", x.told(0, 8), 1);
        due.is("nothing more", x.step(0), 0);
    }

    private static void stepAsks() {
        PumpHouse x = chain(3, 0, FAIR, 1);
        x.want(2, 40);
        due.is("asks", x.step(2), 2);
        due.is("mark", x.told(2, 0), 1);
        due.is("once", x.step(2), 0);
        due.is("kind", x.letter(0, 0), 0);
        due.is("from", x.letter(0, 1), 2);
        due.is("to", x.letter(0, 2), 1);
        due.is("rank", x.letter(0, 4), 40);
        due.is("taken", x.deliver(0), 1);
        due.is("want", x.want(1, 50), 2);
        due.is("asks on", x.step(1), 2);
        due.is("greatest rank", x.letter(1, 4), 50);
        due.is("to", x.letter(1, 2), 0);
    }

    private static void stepAsksHigher() {
        PumpHouse x = chain(3, 0, RANKED, 1);
        wantAndAsk(x, 2, 40);
        due.is("asks on", x.step(1), 2);
        deliverAll(x);
        due.is("not above", x.step(1), 0);
        due.is("want", x.want(1, 41), 2);
        due.is("above", x.step(1), 3);
        due.is("rank", x.letter(0, 4), 41);
        due.is("number", x.letter(0, 3), 1);
        due.is("once", x.step(1), 0);
        deliverAll(x);
        due.is("at 0", x.queue(0, 0, true), 41);
        due.is("once in the queue", x.told(0, 3), 1);
        PumpHouse equal = chain(3, 0, RANKED, 1);
        wantAndAsk(equal, 2, 40);
        equal.step(1);
        equal.want(1, 40);
        due.is("the same rank", equal.step(1), 0);
        PumpHouse fair = chain(3, 0, FAIR, 1);
        wantAndAsk(fair, 2, 40);
        fair.step(1);
        fair.want(1, 90);
        due.is("FAIR: no second ASK", fair.step(1), 0);
        PumpHouse greedy = chain(3, 0, GREEDY, 1);
        wantAndAsk(greedy, 2, 40);
        greedy.step(1);
        greedy.want(1, 90);
        due.is("GREEDY: no second ASK", greedy.step(1), 0);
        askOfPassingCounts();
    }

    private static void askOfPassingCounts() {
        PumpHouse x = star(3, RANKED, 1);
        wantAndAsk(x, 1, 50);
        wantAndAsk(x, 2, 60);
        due.is("passes to 2, asks with 51", x.step(0), 1);
        due.is("no third", x.step(0), 0);
        due.is("want", x.want(0, 51), 2);
        due.is("51 is not above", x.step(0), 0);
        deliverAll(x);
        due.is("rank at 2", x.queue(2, 1, true), 51);
    }

    private static void deliverLetters() {
        PumpHouse x = star(3, FAIR, 1);
        due.is("none", x.deliver(0), BAD);
        due.is("none", x.deliver(-1), BAD);
        x.want(1, 9);
        x.step(1);
        due.is("none", x.deliver(1), BAD);
        due.is("twin", x.twin(0), 2);
        due.is("taken", x.deliver(0), 1);
        due.is("copies", x.count(2), 2);
        due.is("behind all: its receipt", x.letter(1, 0), 2);
        due.is("from", x.letter(1, 1), 0);
        due.is("to", x.letter(1, 2), 1);
        due.is("number", x.letter(1, 3), 0);
        due.is("rank", x.letter(1, 4), 0);
        due.is("a receipt again", x.deliver(0), 2);
        due.is("copies", x.count(2), 2);
        due.is("once in the queue", x.told(0, 3), 1);
        due.is("passes", x.step(0), 1);
        due.is("RIGHT is taken", x.deliver(2), 1);
        due.is("holder", x.holder(), 1);
        due.is("pointer", x.pointer(1), 1);
        due.is("the mark goes", x.told(1, 0), 0);
    }

    private static void deliverReceipts() {
        PumpHouse x = star(3, FAIR, 1);
        x.want(1, 9);
        x.step(1);
        x.deliver(0);
        x.twin(0);
        due.is("letters", x.told(1, 8), 1);
        due.is("takes it out", x.deliver(0), 3);
        due.is("letters", x.told(1, 8), 0);
        due.is("another receipt", x.deliver(0), 4);
        wantAndAsk(x, 2, 0);
        due.is("passes", x.step(0), 1);
        due.is("RIGHT and ASK", x.told(0, 8), 2);
        due.is("taken", x.deliver(0), 1);
        due.is("twin of the receipt", x.twin(0), 2);
        due.is("takes RIGHT out", x.deliver(0), 3);
        due.is("ASK came to the pool, behind", x.letter(1, 0), 0);
        due.is("an old receipt", x.deliver(0), 4);
        due.is("ASK is still there", x.told(0, 8), 1);
        due.is("taken", x.deliver(0), 1);
        due.is("out", x.deliver(0), 3);
        due.is("empty", x.told(0, 8), 0);
    }

    private static void deliverToOneDown() {
        PumpHouse x = star(3, FAIR, 1);
        x.want(1, 9);
        x.step(1);
        x.crash(0);
        due.is("down", x.deliver(0), 0);
        due.is("no receipt", x.count(2), 0);
        due.is("no entry", x.told(0, 3), 0);
        due.is("its letter waits", x.told(1, 8), 1);
        x.restart(0);
        due.is("again", x.resend(1), 1);
        due.is("taken", x.deliver(0), 1);
        x.crash(1);
        due.is("a receipt for one that is down", x.deliver(0), 0);
        due.is("its letter waits", x.told(1, 8), 1);
        x.restart(1);
        x.resend(1);
        due.is("a receipt again", x.deliver(0), 2);
        due.is("out", x.deliver(0), 3);
        x.want(2, 1);
        x.step(2);
        x.crash(2);
        due.is("from one that is down it is taken", x.deliver(0), 1);
    }

    private static void askTwice() {
        PumpHouse x = chain(3, 0, RANKED, 1);
        wantAndAsk(x, 2, 40);
        x.step(1);
        deliverAll(x);
        for (int i = 0; i < 55; i++) {
            x.want(0, 100);
            pump(x, 0);
        }
        due.is("rank has grown", x.queue(0, 0, true), 95);
        x.want(1, 90);
        due.is("above its last ASK", x.step(1), 3);
        deliverAll(x);
        due.is("the greater one of both", x.queue(0, 0, true), 95);
        due.is("one entry", x.told(0, 3), 1);
    }

    private static void lose() {
        PumpHouse x = star(4, FAIR, 1);
        due.is("none", x.lose(0), BAD);
        due.is("none", x.lose(-1), BAD);
        for (int s = 1; s <= 3; s++) {
            x.want(s, s);
            x.step(s);
        }
        due.is("none", x.lose(3), BAD);
        due.is("lose(1)", x.lose(1), 2);
        due.is("order stays", x.letter(0, 1), 1);
        due.is("order stays", x.letter(1, 1), 3);
        due.is("its outbox has it", x.told(2, 8), 1);
        due.is("lose(1)", x.lose(1), 1);
        due.is("lose(0)", x.lose(0), 0);
        due.is("none", x.lose(0), BAD);
    }

    private static void twin() {
        PumpHouse x = star(4, FAIR, 1);
        due.is("none", x.twin(0), BAD);
        x.want(1, 11);
        x.step(1);
        x.want(2, 12);
        x.step(2);
        due.is("none", x.twin(2), BAD);
        due.is("none", x.twin(-1), BAD);
        due.is("twin", x.twin(0), 3);
        int[] like = {0, 1, 0, 0, 11};
        for (int which = 0; which <= 4; which++) {
            due.is("letter(2, " + which + ")", x.letter(2, which), like[which]);
        }
        due.is("letters do not double", x.told(1, 8), 1);
    }

    private static void poolIsFull() {
        PumpHouse x = star(4, FAIR, 1);
        x.want(1, 1);
        x.step(1);
        for (int i = 2; i <= 60; i++) {
            due.is("twin", x.twin(0), i);
        }
        due.is("there are 60", x.twin(0), BAD);
        x.want(2, 2);
        due.is("asks", x.step(2), 2);
        due.is("what would be more is lost", x.count(2), 60);
        due.is("no copy of 2", x.letter(59, 1), 1);
        due.is("its outbox has it", x.told(2, 8), 1);
        due.is("nothing comes again either", x.resend(2), 60);
        due.is("lose", x.lose(0), 59);
        due.is("resend", x.resend(2), 60);
        due.is("a copy of 2", x.letter(59, 1), 2);
        due.is("deliver(59)", x.deliver(59), 1);
        due.is("its receipt has room", x.letter(59, 0), 2);
    }

    private static void resend() {
        PumpHouse x = new PumpHouse();
        x.canal(4);
        x.link(1, 3);
        x.link(1, 2);
        x.link(1, 0);
        x.open(1, FAIR, 1);
        for (int s : new int[] {-1, 4, 24, Integer.MIN_VALUE}) {
            due.is("resend(" + s + ")", x.resend(s), BAD);
        }
        due.is("nothing", x.resend(1), 0);
        wantAndAsk(x, 3, 0);
        wantAndAsk(x, 2, 5);
        due.is("RIGHT and ASK for 3", x.step(1), 1);
        due.is("taken", x.deliver(0), 1);
        due.is("its receipt is lost", x.lose(0), 0);
        due.is("RIGHT comes again, taken or not", x.resend(1), 1);
        due.is("kind", x.letter(0, 0), 1);
        due.is("a receipt again", x.deliver(0), 2);
        due.is("out", x.deliver(0), 3);
        due.is("only the first of an outbox", x.resend(1), 2);
        due.is("crash", x.crash(1), 0);
        due.is("down", x.resend(1), BAD);
        due.is("restart", x.restart(1), 0);
        neighboursInOrder();
    }

    private static void neighboursInOrder() {
        PumpHouse x = new PumpHouse();
        x.canal(3);
        x.link(1, 2);
        x.link(1, 0);
        x.open(1, FAIR, 1);
        wantAndAsk(x, 2, 0);
        due.is("1 passes to 2", x.step(1), 1);
        due.is("taken", x.deliver(0), 1);
        due.is("its receipt is lost", x.lose(0), 0);
        x.want(0, 0);
        x.step(0);
        deliverAll(x);
        due.is("1 asks 2, behind the RIGHT", x.step(1), 2);
        due.is("no copy", x.count(2), 0);
        due.is("RIGHT again", x.resend(1), 1);
        due.is("a receipt again", x.deliver(0), 2);
        due.is("out, the ASK comes", x.deliver(0), 3);
        due.is("taken", x.deliver(0), 1);
        due.is("its receipt is lost", x.lose(0), 0);
        pump(x, 2);
        due.is("2 passes back", x.step(2), 1);
        deliverAll(x);
        due.is("1 passes to 0", x.step(1), 1);
        due.is("its copy is lost", x.lose(0), 0);
        due.is("two outboxes", x.resend(1), 2);
        due.is("first for 0", x.letter(0, 2), 0);
        due.is("the RIGHT", x.letter(0, 0), 1);
        due.is("then for 2", x.letter(1, 2), 2);
        due.is("the ASK", x.letter(1, 0), 0);
        due.is("how many copies there are in all", x.resend(1), 4);
    }

    private static void crashAndRestart() {
        PumpHouse x = star(3, FAIR, 1);
        for (int s : NO_STATION_OF_THREE) {
            due.is("crash(" + s + ")", x.crash(s), BAD);
            due.is("restart(" + s + ")", x.restart(s), BAD);
        }
        due.is("it is not down", x.restart(0), BAD);
        wantAndAsk(x, 1, 7);
        x.want(2, 8);
        x.step(2);
        due.is("crash", x.crash(2), 0);
        due.is("down", x.told(2, 2), 1);
        due.is("down already", x.crash(2), BAD);
        due.is("another one is not", x.told(0, 2), 0);
        due.is("restart", x.restart(2), 0);
        due.is("up", x.told(2, 2), 0);
        due.is("once", x.restart(2), BAD);
        due.is("mark", x.told(2, 0), 1);
        due.is("queue", x.queue(2, 0, true), 8);
        due.is("letters", x.told(2, 8), 1);
        due.is("not pumped", x.told(2, 5), 0);
        crashWhilePumping();
    }

    private static void crashWhilePumping() {
        PumpHouse x = star(3, FAIR, 1);
        x.want(0, 0);
        x.begin(0);
        due.is("crash", x.crash(0), 0);
        due.is("stops", x.told(0, 1), 0);
        due.is("counts as pumped", x.told(0, 5), 1);
        due.is("nobody pumps", x.count(3), NONE);
        due.is("end", x.end(0), BAD);
        due.is("it holds the right", x.holder(), 0);
        x.restart(0);
        due.is("stopped", x.end(0), BAD);
        due.is("want", x.want(0, 0), 1);
        pump(x, 0);
        due.is("pumped", x.told(0, 5), 2);
    }

    private static void cut() {
        PumpHouse x = chain(4, 1, FAIR, 1);
        for (int s : new int[] {-1, 4, 24, Integer.MAX_VALUE, 0, 2, 3}) {
            due.is("cut(0, " + s + ")", x.cut(0, s), BAD);
            due.is("cut(" + s + ", 0)", x.cut(s, 0), BAD);
        }
        x.want(3, 1);
        x.step(3);
        due.is("an outbox and a copy", x.cut(2, 3), LETTERS);
        x.lose(0);
        due.is("an outbox alone", x.cut(3, 2), LETTERS);
        x.resend(3);
        x.twin(0);
        x.deliver(0);
        due.is("LETTERS before QUEUED", x.cut(2, 3), LETTERS);
        x.deliver(1);
        due.is("an outbox is empty, a copy is under way", x.cut(3, 2), LETTERS);
        x.lose(0);
        due.is("queued", x.cut(2, 3), QUEUED);
        due.is("queued", x.cut(3, 2), QUEUED);
        due.is("another link", x.cut(0, 1), 0);
        due.is("it pointed there", x.pointer(0), NONE);
        due.is("the other end", x.pointer(1), 1);
        due.is("links", x.count(1), 2);
        due.is("parts", x.count(5), 2);
        due.is("neighbours", x.told(1, 9), 1);
        due.is("twice", x.cut(0, 1), BAD);
        cutTurned();
        aReceiptIsACopyOfTheLink();
    }

    private static void cutTurned() {
        PumpHouse x = chain(4, 0, FAIR, 1);
        x.crash(1);
        due.is("the larger end first", x.cut(2, 1), 0);
        due.is("pointer", x.pointer(2), NONE);
        due.is("pointer", x.pointer(1), 0);
        due.is("pointer", x.pointer(3), 2);
        due.is("no right there: a cut", x.cut(3, 2), 0);
        due.is("pointer", x.pointer(3), NONE);
        due.is("pointer", x.pointer(2), NONE);
        due.is("parts", x.count(5), 3);
        x.want(2, 0);
        due.is("pointer NONE: no ASK", x.step(2), 0);
    }

    private static void aReceiptIsACopyOfTheLink() {
        PumpHouse x = star(3, FAIR, 1);
        x.want(1, 0);
        x.step(1);
        x.deliver(0);
        x.twin(0);
        x.deliver(0);
        x.step(0);
        x.deliver(1);
        x.deliver(1);
        due.is("an old receipt alone", x.count(2), 1);
        due.is("letters", x.told(0, 8) + x.told(1, 8), 0);
        due.is("copy", x.cut(0, 1), LETTERS);
        due.is("copy", x.cut(1, 0), LETTERS);
        due.is("another link", x.cut(0, 2), 0);
        due.is("another receipt", x.deliver(0), 4);
        due.is("free", x.cut(1, 0), 0);
        due.is("the end without the right", x.pointer(0), NONE);
        due.is("the holder", x.pointer(1), 1);
    }

    private static void join() {
        PumpHouse x = chain(5, 0, FAIR, 1);
        due.is("one part", x.join(0, 4), BAD);
        due.is("linked", x.join(0, 1), BAD);
        due.is("itself", x.join(2, 2), BAD);
        x.cut(1, 2);
        x.cut(3, 4);
        for (int s : new int[] {-1, 5, 24, Integer.MAX_VALUE, Integer.MIN_VALUE}) {
            due.is("join(0, " + s + ")", x.join(0, s), BAD);
            due.is("join(" + s + ", 0)", x.join(s, 0), BAD);
        }
        due.is("none of both has the right", x.join(2, 4), BAD);
        due.is("none of both has the right", x.join(4, 3), BAD);
        due.is("parts", x.count(5), 3);
        due.is("the other part second", x.join(1, 4), 0);
        due.is("pointer", x.pointer(4), 1);
        due.is("links", x.count(1), 3);
        due.is("the other part first", x.join(2, 4), 0);
        due.is("pointer", x.pointer(2), 4);
        due.is("pointer", x.pointer(3), 2);
        due.is("parts", x.count(5), 1);
        due.is("holder", x.holder(), 0);
        numbersBeginAgain();
    }

    private static void numbersBeginAgain() {
        PumpHouse x = star(3, FAIR, 1);
        wantAndAsk(x, 1, 0);
        x.step(0);
        deliverAll(x);
        pump(x, 1);
        due.is("cut", x.cut(0, 1), 0);
        due.is("join", x.join(0, 1), 0);
        due.is("pointer", x.pointer(0), 1);
        x.want(0, 0);
        x.step(0);
        due.is("number from 0", x.letter(0, 3), 0);
        due.is("taken", x.deliver(0), 1);
        due.is("out", x.deliver(0), 3);
        x.step(1);
        due.is("number from 1", x.letter(0, 3), 0);
        due.is("taken", x.deliver(0), 1);
        due.is("holder", x.holder(), 0);
    }

    private static void joinTurnsPointers() {
        PumpHouse x = new PumpHouse();
        x.canal(8);
        int[] from = {0, 1, 2, 3, 4, 2, 0};
        int[] to = {1, 2, 3, 4, 5, 6, 7};
        for (int i = 0; i < from.length; i++) {
            x.link(from[i], to[i]);
        }
        x.open(7, FAIR, 1);
        due.is("cut", x.cut(0, 1), 0);
        x.crash(3);
        due.is("join", x.join(7, 4), 0);
        int[] pointers = {7, 2, 3, 4, 7, 4, 2, 7};
        for (int s = 0; s < 8; s++) {
            due.is("pointer(" + s + ")", x.pointer(s), pointers[s]);
        }
        due.is("neighbours", x.told(4, 9), 3);
        due.is("no copies", x.count(2), 0);
    }

    private static void joinMarks() {
        PumpHouse x = chain(4, 0, FAIR, 1);
        due.is("cut", x.cut(0, 1), 0);
        x.want(2, 0);
        due.is("asks", x.step(2), 2);
        due.is("a mark on the way", x.join(3, 0), MARKS);
        due.is("a mark at the end", x.join(0, 2), MARKS);
        due.is("nothing was done", x.pointer(2), 1);
        due.is("nothing was done", x.count(1), 2);
        deliverAll(x);
        due.is("the mark stays", x.join(0, 3), MARKS);
        due.is("the last has none and does not count", x.join(0, 1), 0);
        due.is("pointer", x.pointer(1), 0);
        due.is("asks on", x.step(1), 2);
        deliverAll(x);
        due.is("passes", x.step(0), 1);
        deliverAll(x);
        due.is("passes on", x.step(1), 1);
        deliverAll(x);
        pump(x, 2);
    }

    private static void joinWhileRightIsUnderWay() {
        PumpHouse x = chain(4, 0, FAIR, 1);
        due.is("cut", x.cut(2, 3), 0);
        wantAndAsk(x, 1, 0);
        due.is("passes", x.step(0), 1);
        due.is("nobody", x.holder(), NONE);
        due.is("join", x.join(3, 0), 0);
        due.is("pointer", x.pointer(3), 0);
        deliverAll(x);
        due.is("holder", x.holder(), 1);
    }

    private static void holder() {
        PumpHouse x = chain(3, 1, FAIR, 1);
        due.is("holder", x.holder(), 1);
        wantAndAsk(x, 2, 0);
        due.is("passes", x.step(1), 1);
        due.is("nobody", x.holder(), NONE);
        x.deliver(0);
        due.is("holder", x.holder(), 2);
        x.crash(2);
        due.is("though down", x.holder(), 2);
        x.canal(3);
        due.is("not open", x.holder(), BAD);
    }

    private static void pointer() {
        PumpHouse x = chain(3, 1, FAIR, 1);
        for (int s : NO_STATION_OF_THREE) {
            due.is("pointer(" + s + ")", x.pointer(s), BAD);
        }
        due.is("itself", x.pointer(1), 1);
        due.is("a neighbour", x.pointer(0), 1);
        x.cut(0, 1);
        due.is("none", x.pointer(0), NONE);
        x.canal(3);
        due.is("not open", x.pointer(0), BAD);
    }

    private static void queue() {
        PumpHouse x = star(3, FAIR, 1);
        wantAndAsk(x, 2, 30);
        x.want(0, 20);
        wantAndAsk(x, 1, 10);
        int[] who = {2, 0, 1};
        int[] rank = {30, 20, 10};
        for (int i = 0; i < 3; i++) {
            due.is("who", x.queue(0, i, false), who[i]);
            due.is("rank", x.queue(0, i, true), rank[i]);
        }
        for (int i : NO_STATION_OF_THREE) {
            due.is("no entry", x.queue(0, i, false), BAD);
            due.is("no entry", x.queue(0, i, true), BAD);
            due.is("no station", x.queue(i, 0, false), BAD);
            due.is("no station", x.queue(i, 0, true), BAD);
        }
    }

    private static void letter() {
        PumpHouse x = star(3, FAIR, 1);
        due.is("none", x.letter(0, 0), BAD);
        x.want(2, 33);
        x.step(2);
        int[] ask = {0, 2, 0, 0, 33};
        int[] receipt = {2, 0, 2, 0, 0};
        int[] right = {1, 0, 2, 0, 0};
        lettersAre(x, ask);
        x.deliver(0);
        lettersAre(x, receipt);
        x.deliver(0);
        x.step(0);
        lettersAre(x, right);
        for (int bad : new int[] {-1, 5, Integer.MAX_VALUE, Integer.MIN_VALUE}) {
            due.is("another number", x.letter(0, bad), BAD);
        }
        for (int bad : new int[] {-1, 1, 60, Integer.MAX_VALUE, Integer.MIN_VALUE}) {
            due.is("none such", x.letter(bad, 0), BAD);
        }
    }

    private static void lettersAre(PumpHouse x, int[] like) {
        for (int which = 0; which <= 4; which++) {
            due.is("letter(0, " + which + ")", x.letter(0, which), like[which]);
        }
    }

    private static void toldFlagsAndNumbers() {
        PumpHouse x = star(3, FAIR, 1);
        for (int s : NO_STATION_OF_THREE) {
            due.is("told(" + s + ", 0)", x.told(s, 0), BAD);
        }
        for (int which : new int[] {-1, 10, Integer.MAX_VALUE, Integer.MIN_VALUE}) {
            due.is("told(0, " + which + ")", x.told(0, which), BAD);
        }
        for (int s = 0; s < 3; s++) {
            for (int which = 0; which <= 8; which++) {
                due.is("told(" + s + ", " + which + ")", x.told(s, which), 0);
            }
            due.is("neighbours", x.told(s, 9), s == 0 ? 2 : 1);
        }
        x.want(1, 0);
        x.step(1);
        due.is("asked", x.told(1, 0), 1);
        due.is("queue", x.told(1, 3), 1);
        due.is("letters", x.told(1, 8), 1);
        due.is("letters of the other", x.told(0, 8), 0);
        x.cut(0, 2);
        due.is("neighbours", x.told(0, 9), 1);
        due.is("neighbours", x.told(2, 9), 0);
    }

    private static void toldOthersBegan() {
        PumpHouse x = star(3, GREEDY, 4);
        x.want(0, 0);
        pump(x, 0);
        due.is("never wanted", x.told(1, 6), 0);
        wantAndAsk(x, 1, 0);
        due.is("since it wants", x.told(1, 6), 0);
        for (int i = 1; i <= 3; i++) {
            x.want(0, 0);
            pump(x, 0);
            due.is("since it wants", x.told(1, 6), i);
            due.is("not itself", x.told(0, 6), 0);
        }
        due.is("passes", x.step(0), 1);
        deliverAll(x);
        pump(x, 1);
        due.is("since it wanted last", x.told(1, 6), 3);
        due.is("one other", x.told(0, 6), 1);
        due.is("want", x.want(1, 0), 1);
        due.is("anew", x.told(1, 6), 0);
        pump(x, 1);
        due.is("since it wanted last", x.told(0, 6), 2);
        due.is("never wanted", x.told(2, 6), 0);
    }

    private static void toldOvertook() {
        PumpHouse x = star(3, GREEDY, 2);
        x.want(0, 0);
        wantAndAsk(x, 1, 0);
        pump(x, 0);
        due.is("it came first", x.told(0, 7), 0);
        x.want(0, 0);
        pump(x, 0);
        due.is("1 had come before", x.told(0, 7), 1);
        x.want(0, 0);
        due.is("enough", x.begin(0), NONE);
        due.is("not begun", x.told(0, 7), 1);
        PumpHouse y = star(3, RANKED, 1);
        wantAndAsk(y, 1, 5);
        y.want(0, 6);
        pump(y, 0);
        due.is("RANKED", y.told(0, 7), 1);
        due.is("the other", y.told(1, 7), 0);
    }

    private static void count() {
        PumpHouse x = chain(4, 0, FAIR, 1);
        for (int which : new int[] {-1, 7, Integer.MAX_VALUE, Integer.MIN_VALUE}) {
            due.is("count(" + which + ")", x.count(which), BAD);
        }
        due.is("stations", x.count(0), 4);
        due.is("links", x.count(1), 3);
        due.is("pumps", x.count(3), NONE);
        x.want(0, 0);
        x.begin(0);
        due.is("pumps", x.count(3), 0);
        due.is("begun", x.count(6), 1);
        x.end(0);
        x.want(0, 0);
        x.begin(0);
        due.is("begun", x.count(6), 2);
        x.cut(1, 2);
        due.is("links", x.count(1), 2);
        due.is("parts", x.count(5), 2);
        x.cut(0, 1);
        due.is("parts", x.count(5), 3);
        x.join(0, 2);
        due.is("parts", x.count(5), 2);
        due.is("stations", x.count(0), 4);
    }

    private static void countWhereRightIs() {
        PumpHouse x = star(3, FAIR, 1);
        wantAndAsk(x, 1, 0);
        due.is("at the holder", x.count(4), 0);
        x.step(0);
        due.is("in the outbox", x.count(4), 0);
        x.lose(0);
        due.is("its copy is lost", x.count(4), 0);
        x.resend(0);
        due.is("taken", x.deliver(0), 1);
        due.is("at the holder", x.count(4), 1);
        x.lose(0);
        pump(x, 1);
        x.want(0, 0);
        x.step(0);
        due.is("the ASK waits behind the RIGHT", x.count(2), 0);
        x.resend(0);
        due.is("a receipt again", x.deliver(0), 2);
        due.is("out, the ASK comes", x.deliver(0), 3);
        due.is("taken", x.deliver(0), 1);
        x.lose(0);
        due.is("passes back", x.step(1), 1);
        due.is("in the outbox of 1", x.count(4), 1);
        due.is("taken", x.deliver(0), 1);
        due.is("at 0", x.count(4), 0);
        theRightThatWasTakenDoesNotCount();
    }

    private static void theRightThatWasTakenDoesNotCount() {
        PumpHouse x = chain(3, 0, FAIR, 1);
        x.want(2, 0);
        x.step(2);
        deliverAll(x);
        x.step(1);
        deliverAll(x);
        due.is("0 passes", x.step(0), 1);
        due.is("taken by 1", x.deliver(0), 1);
        x.lose(0);
        due.is("1 passes", x.step(1), 1);
        due.is("0 has a RIGHT that was taken", x.told(0, 8), 1);
        due.is("nobody holds", x.holder(), NONE);
        due.is("it is at 1", x.count(4), 1);
    }

    private static void nothingBeforeOpening() {
        PumpHouse x = new PumpHouse();
        x.want(1, 1);
        x.step(1);
        x.canal(2);
        x.link(0, 1);
        int[] answers = {
            x.want(0, 0), x.begin(0), x.end(0), x.step(0), x.deliver(0), x.lose(0), x.twin(0), x.resend(0),
            x.crash(0), x.restart(0), x.cut(0, 1), x.join(0, 1), x.holder(), x.pointer(0), x.queue(0, 0, false),
            x.queue(1, 0, true), x.letter(0, 0), x.told(0, 0), x.told(0, 9), x.count(2), x.count(3), x.count(4),
            x.count(6)
        };
        for (int i = 0; i < answers.length; i++) {
            due.is("answer " + i + " before opening", answers[i], BAD);
        }
        due.is("stations", x.count(0), 2);
        due.is("links", x.count(1), 1);
        due.is("parts", x.count(5), 1);
        due.is("open", x.open(1, 0, 1), 0);
        due.is("no copy is left", x.count(2), 0);
    }
}
