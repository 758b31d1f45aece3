import java.lang.reflect.Field;

/** The document's terms: each sentence that names a bound or a case has a run of its own. */
public final class TermsEdgesTest {
    private static final Due due = new Due("edges of the terms");

    // 1 has a letter that waits for its receipt in each of its two outboxes: the older one for 2, the other one for 0.
    static final String TWO_OUTBOXES = """
        chain 3 1 FAIR 1
        ask 2 0
        step 1 -> 1; deliver 0 -> 1; lose 0 -> 0
        ask 0 0
        step 1 -> 2; count 2 -> 0
        resend 1 -> 1; deliver 0 -> 2; deliver 0 -> 3; deliver 0 -> 1; lose 0 -> 0
        pump 2
        step 2 -> 1; carry
        step 1 -> 1; lose 0 -> 0
        told 1 8 -> 2
        """;

    public static void main(String[] args) throws ReflectiveOperationException {
        stations();
        pointers();
        queues();
        ranksEndAtThousand();
        firstFair();
        firstGreedy();
        firstRanked();
        numbers();
        pool();
        poolIsFull();
        outboxes();
        toOneDown();
        taken();
        lowerNumbers();
        receipts();
        askInTheQueue();
        stepOne();
        stepOneCannot();
        stepTwo();
        stepThree();
        whereTheRightIs();
        parts();
        lastCall();
        due.finish();
    }

    private static void edge(String name, String text) {
        Run.edge(due, name, text);
    }

    private static void stations() {
        edge("the fewest stations", """
            canal 2 -> 0; count 0 -> 2; link 0 1 -> 1; open 1 FAIR 1 -> 0
            pointer 0 -> 1; pointer 1 -> 1; pointer 2 -> BAD
            """);
        edge("the most stations", """
            chain 24 23 FAIR 1
            count 0 -> 24; pointer 0 -> 1; pointer 22 -> 23; pointer 23 -> 23; pointer 24 -> BAD
            """);
    }

    private static void pointers() {
        edge("a pointer is a neighbour, itself, or NONE", """
            chain 4 1 FAIR 1
            pointer 1 -> 1; pointer 0 -> 1; pointer 3 -> 2
            cut 1 2 -> 0
            pointer 1 -> 1; pointer 2 -> NONE; pointer 3 -> 2
            """);
    }

    private static void queues() {
        StringBuilder all = new StringBuilder("star 24 FAIR 1; want 0 7 -> 1\n");
        for (int s = 1; s < 24; s++) {
            all.append("want " + s + " " + s + " -> 1; step " + s + " -> 2; deliver 0 -> 1; deliver 0 -> 3\n");
        }
        edge("a queue of all: itself and 23 neighbours", all + """
            told 0 3 -> 24; queue 0 0 who -> 0; queue 0 23 who -> 23; queue 0 23 rank -> 23; queue 0 24 who -> BAD
            """);
        edge("each at most once", """
            chain 3 0 RANKED 1
            ask 2 40; step 1 -> 2; carry
            want 1 50 -> 2; step 1 -> 3; carry
            told 0 3 -> 1; queue 0 0 who -> 1; queue 0 1 who -> BAD
            """);
        edge("in the order of their coming, which one more ASK does not change", """
            canal 4 -> 0; link 0 1 -> 1; link 0 2 -> 2; link 1 3 -> 3; open 0 RANKED 1 -> 0
            ask 1 10; ask 2 20; ask 3 30
            step 1 -> 3; carry
            queue 0 0 who -> 1; queue 0 0 rank -> 30; queue 0 1 who -> 2; queue 0 1 rank -> 20
            """);
        edge("it wants, if it is in its own queue: others there are not enough", """
            chain 3 0 FAIR 1
            ask 2 0; told 1 3 -> 1; want 1 0 -> 2
            """);
    }

    /** No run of 512 calls brings a rank to its end, so the test lifts one there by hand. */
    private static void ranksEndAtThousand() throws ReflectiveOperationException {
        int[] before = {998, 999, 1000};
        int[] behind = {999, 1000, 1000};
        for (int i = 0; i < before.length; i++) {
            PumpHouse x = threeWaitAt0();
            ranksOf(x, 0)[2] = before[i];
            due.is("begin", x.begin(0), 0);
            due.is("rank " + before[i] + " behind a begin", x.queue(0, 1, true), behind[i]);
            due.is("end", x.end(0), 1);
            ranksOf(x, 0)[1] = before[i];
            due.is("step", x.step(0), 1);
            due.is("rank " + before[i] + " behind a step", x.queue(0, 0, true), behind[i]);
            x.deliver(0);
            x.deliver(0);
            due.is("rank of the ASK", x.letter(0, 4), behind[i]);
        }
    }

    private static PumpHouse threeWaitAt0() {
        PumpHouse x = new PumpHouse();
        x.canal(3);
        x.link(0, 1);
        x.link(0, 2);
        x.open(0, 0, 1);
        x.want(0, 0);
        for (int s = 1; s <= 2; s++) {
            x.want(s, 100);
            x.step(s);
            x.deliver(0);
            x.deliver(0);
        }
        due.is("they wait", x.told(0, 3), 3);
        return x;
    }

    private static int[] ranksOf(PumpHouse x, int s) throws ReflectiveOperationException {
        Object station = ((Object[]) inside(x, "stations"))[s];
        return (int[]) inside(inside(station, "line"), "ranks");
    }

    private static Object inside(Object owner, String name) throws ReflectiveOperationException {
        Field field = owner.getClass().getDeclaredField(name);
        field.setAccessible(true);
        return field.get(owner);
    }

    private static void firstFair() {
        edge("FAIR: the one that came first, whatever the ranks", """
            star 4 FAIR 1
            ask 2 0; ask 1 100; want 0 100 -> 3
            begin 0 -> NONE; step 0 -> 1; pointer 0 -> 2
            """);
        edge("FAIR: itself, if it came first", """
            star 3 FAIR 1
            want 0 0 -> 1; ask 1 100
            step 0 -> 0; begin 0 -> 0
            """);
    }

    private static void firstGreedy() {
        for (int g = 1; g <= 4; g++) {
            StringBuilder text = new StringBuilder("star 3 GREEDY " + g + "\nask 2 100; ask 1 100\n");
            for (int row = 1; row <= g; row++) {
                text.append("want 0 0 -> 3; step 0 -> 0; pump 0; told 0 4 -> " + row + "\n");
            }
            edge("GREEDY, G " + g + ": itself while its ROW is below G, then the first of the others", text + """
                want 0 0 -> 3; begin 0 -> NONE
                step 0 -> 1; pointer 0 -> 2; told 0 4 -> 0
                """);
        }
        edge("GREEDY: itself, if nobody else is there", """
            star 3 GREEDY 1
            want 0 0 -> 1; pump 0; want 0 0 -> 1; pump 0; want 0 0 -> 1; pump 0; told 0 4 -> 0
            """);
        edge("GREEDY: the first of the others, if it is not there itself, though its ROW is below G", """
            star 3 GREEDY 4
            ask 2 0; ask 1 100
            begin 0 -> NONE; step 0 -> 1; pointer 0 -> 2
            """);
    }

    private static void firstRanked() {
        edge("RANKED: the greatest rank, though it came last", """
            star 4 RANKED 1
            ask 1 0; ask 2 99; ask 3 100
            step 0 -> 1; pointer 0 -> 3
            """);
        edge("RANKED: of several greatest the one that came first", """
            star 4 RANKED 1
            ask 1 7; ask 3 8; ask 2 8; want 0 8 -> 4
            begin 0 -> NONE; step 0 -> 1; pointer 0 -> 3
            """);
        edge("RANKED: all ranks 0", """
            star 3 RANKED 1
            want 0 0 -> 1; ask 2 0; ask 1 0
            step 0 -> 0; pump 0; step 0 -> 1; pointer 0 -> 2
            """);
    }

    private static void numbers() {
        edge("numbers 0, 1, .. for each of both ways of a link", """
            star 3 FAIR 1
            want 1 0 -> 1; step 1 -> 2; letter 0 3 -> 0
            want 2 0 -> 1; step 2 -> 2; letter 1 3 -> 0
            carry
            step 0 -> 1; letter 0 0 -> 1; letter 0 3 -> 0         # the other way begins at 0 too
            deliver 0 -> 1; letter 0 0 -> 2; letter 0 3 -> 0
            deliver 0 -> 3; letter 0 0 -> 0; letter 0 3 -> 1      # RIGHT 0, then ASK 1
            deliver 0 -> 1; letter 0 0 -> 2; letter 0 3 -> 1
            deliver 0 -> 3
            pump 1
            step 1 -> 1; letter 0 0 -> 1; letter 0 3 -> 1         # ASK 0, then RIGHT 1
            carry
            step 0 -> 1; letter 0 2 -> 2; letter 0 3 -> 0         # another link
            """);
    }

    private static void pool() {
        edge("copies stand in the order of their coming", """
            star 4 FAIR 1
            want 3 0 -> 1; want 1 0 -> 1; want 2 0 -> 1
            step 3 -> 2; step 1 -> 2; step 2 -> 2
            letter 0 1 -> 3; letter 1 1 -> 1; letter 2 1 -> 2
            lose 1 -> 2; letter 0 1 -> 3; letter 1 1 -> 2
            resend 1 -> 3; letter 2 1 -> 1
            """);
        edge("a receipt comes behind all else", """
            star 3 FAIR 1
            want 1 0 -> 1; step 1 -> 2; want 2 0 -> 1; step 2 -> 2
            deliver 0 -> 1; letter 0 1 -> 2; letter 1 0 -> 2; letter 1 1 -> 0; letter 1 2 -> 1
            """);
    }

    private static void poolIsFull() {
        edge("60 copies", """
            want 1 9 -> 1; step 1 -> 2; fill 60
            count 2 -> 60; letter 59 4 -> 9; letter 60 0 -> BAD
            """);
        edge("60 copies: one more ASK is lost, its letter is not", """
            star 3 FAIR 1
            want 1 0 -> 1; step 1 -> 2; fill 60
            want 2 0 -> 1; step 2 -> 2; count 2 -> 60; letter 59 1 -> 1
            told 2 0 -> 1; told 2 8 -> 1
            lose 0 -> 59; resend 2 -> 60; letter 59 1 -> 2
            """);
        edge("60 copies: the RIGHT is lost, and IS where it was", """
            star 3 FAIR 1
            ask 1 0
            want 2 0 -> 1; step 2 -> 2; fill 60
            step 0 -> 1; count 2 -> 60; letter 59 0 -> 0
            holder -> NONE; count 4 -> 0; told 0 8 -> 1; pointer 0 -> 1
            lose 0 -> 59; resend 0 -> 60; deliver 59 -> 1; holder -> 1
            """);
        edge("60 copies: the ASK of a third kind of step is lost", """
            chain 4 0 RANKED 1
            ask 2 10; step 1 -> 2; carry
            want 3 90 -> 1; step 3 -> 2; fill 60
            want 1 50 -> 2; step 1 -> 3; count 2 -> 60; told 1 8 -> 1
            lose 0 -> 59; resend 1 -> 60; letter 59 1 -> 1; letter 59 4 -> 50
            """);
        edge("60 copies: a receipt has the room of its letter", """
            want 1 0 -> 1; step 1 -> 2; fill 60
            deliver 0 -> 1; count 2 -> 60; letter 59 0 -> 2
            deliver 0 -> 2; count 2 -> 60; letter 58 0 -> 2; letter 59 0 -> 2
            """);
        edge("60 copies: the next letter has the room of the receipt", """
            star 3 FAIR 1
            ask 1 0; ask 2 0
            step 0 -> 1; fill 60; deliver 0 -> 1
            deliver 59 -> 3; count 2 -> 60; letter 59 0 -> 0; letter 59 3 -> 1
            """);
        edge("59 copies: of two that come again the second is lost", TWO_OUTBOXES + """
            resend 1 -> 2; fill 59
            resend 1 -> 60; letter 59 0 -> 1; letter 59 2 -> 0
            """);
        edge("60 copies: both that come again are lost", TWO_OUTBOXES + """
            resend 1 -> 2; fill 60
            resend 1 -> 60; letter 1 2 -> 2; letter 58 2 -> 0; letter 59 2 -> 0
            """);
    }

    private static void outboxes() {
        edge("a letter comes to the pool when it becomes the first, and not before", """
            star 3 FAIR 1
            ask 1 0; ask 2 0
            step 0 -> 1; told 0 8 -> 2; count 2 -> 1; letter 0 0 -> 1
            deliver 0 -> 1; count 2 -> 1; letter 0 0 -> 2
            deliver 0 -> 3; told 0 8 -> 1; count 2 -> 1; letter 0 0 -> 0
            deliver 0 -> 1; deliver 0 -> 3; told 0 8 -> 0; count 2 -> 0
            """);
        StringBuilder many = new StringBuilder("star 14 RANKED 1\nask 13 0; step 0 -> 1; carry\n");
        for (int s = 1; s <= 12; s++) {
            many.append("want " + s + " " + s + " -> 1; step " + s + " -> 2; deliver 0 -> 1; deliver 0 -> 3\n");
            many.append("step 0 -> " + (s == 1 ? 2 : 3) + "; lose 0 -> " + (s == 1 ? "0" : "BAD") + "\n");
        }
        edge("an outbox of many letters", many + "told 0 8 -> 12; count 2 -> 0; resend 0 -> 1; letter 0 3 -> 1\n");
        edge("numbers of an outbox of many letters", """
            star 6 RANKED 1
            ask 5 0; step 0 -> 1; carry
            want 1 1 -> 1; step 1 -> 2; want 2 2 -> 1; step 2 -> 2; want 3 3 -> 1; step 3 -> 2
            deliver 0 -> 1; step 0 -> 2; deliver 0 -> 1; step 0 -> 3; deliver 0 -> 1; step 0 -> 3
            told 0 8 -> 3; count 2 -> 4; letter 1 1 -> 0; letter 1 2 -> 5; letter 1 3 -> 1; letter 1 4 -> 1
            deliver 1 -> 1; deliver 3 -> 3; letter 3 3 -> 2; letter 3 4 -> 2
            deliver 3 -> 1; deliver 3 -> 3; letter 3 3 -> 3; letter 3 4 -> 3
            deliver 3 -> 1; deliver 3 -> 3; count 2 -> 3; told 0 8 -> 0; queue 5 1 rank -> 3
            """);
    }

    private static void toOneDown() {
        edge("for one that is down: an ASK goes, and nothing else happens", """
            star 3 FAIR 1
            want 1 0 -> 1; step 1 -> 2; crash 0 -> 0
            deliver 0 -> 0; count 2 -> 0; told 0 3 -> 0; told 1 8 -> 1
            restart 0 -> 0; resend 1 -> 1; deliver 0 -> 1
            """);
        edge("for one that is down: the RIGHT goes, and nothing else happens", """
            star 3 FAIR 1
            ask 1 0; step 0 -> 1; crash 1 -> 0
            deliver 0 -> 0; count 2 -> 0; holder -> NONE; count 4 -> 0; told 1 0 -> 1; pointer 1 -> 0
            restart 1 -> 0; resend 0 -> 1; deliver 0 -> 1; holder -> 1
            """);
        edge("for one that is down: a doubled letter goes without a receipt", """
            want 1 0 -> 1; step 1 -> 2; twin 0 -> 2; deliver 0 -> 1; crash 0 -> 0
            deliver 0 -> 0; count 2 -> 1; letter 0 0 -> 2
            """);
        edge("for one that is down: a receipt goes, and its letter stays", """
            want 1 0 -> 1; step 1 -> 2; deliver 0 -> 1; crash 1 -> 0
            deliver 0 -> 0; count 2 -> 0; told 1 8 -> 1
            restart 1 -> 0; resend 1 -> 1; deliver 0 -> 2; deliver 0 -> 3; told 1 8 -> 0
            """);
        edge("from one that is down: letters are taken, and count", """
            want 1 0 -> 1; step 1 -> 2; crash 1 -> 0
            deliver 0 -> 1; queue 0 0 who -> 1; letter 0 0 -> 2
            """);
    }

    private static void taken() {
        edge("an ASK that is taken: its sender comes to the queue, with its rank", """
            chain 3 0 FAIR 1
            ask 2 33; want 1 44 -> 2; step 1 -> 2
            deliver 0 -> 1; told 0 3 -> 1; queue 0 0 who -> 1; queue 0 0 rank -> 44
            letter 0 0 -> 2; letter 0 1 -> 0; letter 0 2 -> 1; letter 0 3 -> 0; letter 0 4 -> 0
            """);
        edge("the RIGHT that is taken: the pointer is the station itself, the mark goes", """
            ask 1 5; step 0 -> 1; told 1 0 -> 1; pointer 1 -> 0
            deliver 0 -> 1; told 1 0 -> 0; pointer 1 -> 1; told 1 3 -> 1
            letter 0 0 -> 2; letter 0 1 -> 1; letter 0 2 -> 0; letter 0 3 -> 0
            """);
    }

    private static void lowerNumbers() {
        edge("an ASK that comes late once more: a receipt, and nothing else", """
            want 1 5 -> 1; step 1 -> 2; twin 0 -> 2
            deliver 0 -> 1; deliver 1 -> 3
            step 0 -> 1; deliver 1 -> 1; deliver 1 -> 3; holder -> 1
            deliver 0 -> 2; told 0 3 -> 0; count 2 -> 1; letter 0 0 -> 2; letter 0 3 -> 0
            deliver 0 -> 4
            """);
        edge("the RIGHT that comes late once more: a receipt, no second right, and the mark stays", """
            ask 1 0; step 0 -> 1; twin 0 -> 2; deliver 0 -> 1; deliver 1 -> 3
            pump 1; want 0 0 -> 1; step 0 -> 2; deliver 1 -> 1; deliver 1 -> 3
            step 1 -> 1; deliver 1 -> 1; deliver 1 -> 3; holder -> 0
            want 1 0 -> 1; step 1 -> 2; told 1 0 -> 1
            deliver 0 -> 2; holder -> 0; pointer 1 -> 0; told 1 0 -> 1; letter 1 3 -> 0
            """);
        edge("a letter with a lower number, while a later one is under way", """
            star 3 FAIR 1
            ask 1 0; ask 2 0; step 0 -> 1; twin 0 -> 2
            deliver 0 -> 1; deliver 1 -> 3; letter 0 3 -> 0; letter 1 3 -> 1
            deliver 0 -> 2; deliver 0 -> 1; told 1 3 -> 2
            """);
    }

    private static void receipts() {
        edge("a receipt of the first letter takes it out", """
            want 1 0 -> 1; step 1 -> 2; deliver 0 -> 1; told 1 8 -> 1
            deliver 0 -> 3; told 1 8 -> 0; count 2 -> 0
            """);
        edge("a receipt for an empty outbox does nothing", """
            want 1 0 -> 1; step 1 -> 2; deliver 0 -> 1; twin 0 -> 2; deliver 0 -> 3
            deliver 0 -> 4; count 2 -> 0; told 1 8 -> 0
            """);
        edge("a receipt of an earlier letter does nothing", """
            star 3 FAIR 1
            ask 1 0; ask 2 0; step 0 -> 1
            deliver 0 -> 1; twin 0 -> 2; deliver 0 -> 3; told 0 8 -> 1
            deliver 0 -> 4; told 0 8 -> 1; count 2 -> 1; letter 0 3 -> 1
            """);
        edge("a receipt is for one outbox, others with the same number stay", """
            star 3 FAIR 1
            want 1 0 -> 1; step 1 -> 2; want 2 0 -> 1; step 2 -> 2
            deliver 0 -> 1; deliver 1 -> 3; told 1 8 -> 0; told 2 8 -> 1
            """);
        edge("a receipt goes to the outbox of its own link, not to the other one's", TWO_OUTBOXES + """
            resend 1 -> 2; deliver 0 -> 1; letter 1 3 -> 0
            deliver 1 -> 3; told 1 8 -> 1; resend 1 -> 2; letter 1 2 -> 2
            """);
    }

    private static void askInTheQueue() {
        String grown = """
            chain 3 0 RANKED 1
            ask 2 40; step 1 -> 2; carry
            want 0 100 -> 2; pump 0; want 0 100 -> 2; pump 0; want 0 100 -> 2; pump 0
            queue 0 0 rank -> 43
            """;
        edge("one more ASK with a lower rank: the greater one of both", grown + """
            want 1 42 -> 2; step 1 -> 3; carry; queue 0 0 rank -> 43; told 0 3 -> 1
            """);
        edge("one more ASK with the same rank", grown + """
            want 1 43 -> 2; step 1 -> 3; carry; queue 0 0 rank -> 43; told 0 3 -> 1
            """);
        edge("one more ASK with a greater rank", grown + """
            want 1 44 -> 2; step 1 -> 3; carry; queue 0 0 rank -> 44; told 0 3 -> 1
            """);
    }

    private static void stepOne() {
        edge("step 1: all that it does", """
            star 4 FAIR 1
            want 0 0 -> 1; ask 3 20; pump 0; ask 1 50; want 0 60 -> 3
            told 0 4 -> 1; queue 0 0 rank -> 21
            step 0 -> 1
            told 0 3 -> 2; queue 0 0 who -> 1; queue 0 1 who -> 0
            queue 0 0 rank -> 51; queue 0 1 rank -> 61
            told 0 4 -> 0; pointer 0 -> 3; told 0 0 -> 1; told 0 8 -> 2; holder -> NONE
            deliver 0 -> 1; deliver 0 -> 3; letter 0 0 -> 0; letter 0 4 -> 61
            """);
        edge("step 1: the last of the queue goes out, no ASK, no mark", """
            star 3 FAIR 1
            ask 2 20; step 0 -> 1
            told 0 3 -> 0; told 0 0 -> 0; told 0 8 -> 1; pointer 0 -> 2; step 0 -> 0
            """);
        edge("step 1: once, then it holds the right no more", """
            star 3 FAIR 1
            ask 1 0; ask 2 0; step 0 -> 1; step 0 -> 0; told 0 3 -> 1
            """);
        edge("step 1: the RIGHT waits behind a letter without a receipt", """
            want 1 0 -> 1; step 1 -> 2; deliver 0 -> 1; lose 0 -> 0     # 1 keeps its ASK
            step 0 -> 1; carry; holder -> 1; pump 1
            ask 0 0
            step 1 -> 1; told 1 8 -> 2; count 2 -> 0; holder -> NONE; count 4 -> 1
            resend 1 -> 1; letter 0 0 -> 0; deliver 0 -> 2; deliver 0 -> 3
            letter 0 0 -> 1; deliver 0 -> 1; holder -> 0
            """);
        edge("step 1: while its own neighbour is down, and through one that came by RIGHT", """
            chain 3 0 FAIR 1
            ask 2 0; step 1 -> 2; carry; step 0 -> 1; crash 0 -> 0; deliver 0 -> 1
            holder -> 1; step 1 -> 1; pointer 1 -> 2
            """);
    }

    private static void stepOneCannot() {
        edge("step 1 not: it does not hold the right", """
            chain 3 0 FAIR 1
            ask 2 0; step 1 -> 2; step 1 -> 0; pointer 1 -> 0; told 1 3 -> 1
            """);
        edge("step 1 not: it pumps", """
            star 3 FAIR 1
            want 0 0 -> 1; ask 1 0; begin 0 -> 0; step 0 -> 0; holder -> 0; end 0 -> 1; step 0 -> 1
            """);
        edge("step 1 not: its queue is empty", "star 3 FAIR 1; step 0 -> 0; holder -> 0; count 2 -> 0");
        edge("step 1 not: the first one is itself", """
            star 3 FAIR 1
            want 0 0 -> 1; ask 1 0; step 0 -> 0; holder -> 0
            """);
    }

    private static void stepTwo() {
        edge("step 2: an ASK with the greatest rank, of all in its queue", """
            canal 5 -> 0; link 1 0 -> 1; link 1 2 -> 2; link 1 3 -> 3; link 1 4 -> 4; open 0 FAIR 1 -> 0
            ask 2 10; ask 3 90; want 1 20 -> 3
            step 1 -> 2; told 1 0 -> 1; letter 0 0 -> 0; letter 0 1 -> 1; letter 0 2 -> 0; letter 0 4 -> 90
            told 1 3 -> 3; queue 1 1 rank -> 90
            """);
        edge("step 2: rank 0", "want 1 0 -> 1; step 1 -> 2; letter 0 4 -> 0");
        edge("step 2 not: its pointer is NONE", """
            cut 0 1 -> 0; want 1 0 -> 1; step 1 -> 0; told 1 0 -> 0; told 1 8 -> 0
            """);
        edge("step 2 not: it has asked", "want 1 0 -> 1; step 1 -> 2; step 1 -> 0; told 1 8 -> 1");
        edge("step 2 not: its queue is empty", "step 1 -> 0; told 1 0 -> 0");
        edge("step 2 not: it holds the right", "want 0 0 -> 1; step 0 -> 0; told 0 0 -> 0");
        edge("step 2: behind the passing on, for who comes then", """
            star 3 FAIR 1
            ask 1 0; step 0 -> 1; told 0 0 -> 0; carry
            want 0 3 -> 1; step 0 -> 2; letter 0 2 -> 1; letter 0 3 -> 1
            """);
    }

    private static void stepThree() {
        edge("step 3: the greatest rank is one above the last ASK's", """
            chain 3 0 RANKED 1
            ask 2 40; step 1 -> 2; carry
            want 1 41 -> 2; step 1 -> 3; told 1 0 -> 1; letter 0 4 -> 41; letter 0 3 -> 1; step 1 -> 0
            """);
        edge("step 3 not: the same rank", """
            chain 3 0 RANKED 1
            ask 2 40; step 1 -> 2; want 1 40 -> 2; step 1 -> 0; told 1 8 -> 1
            """);
        edge("step 3 not: a lower rank", """
            chain 3 0 RANKED 1
            ask 2 40; step 1 -> 2; want 1 39 -> 2; step 1 -> 0; told 1 8 -> 1
            """);
        Run.edges(due, "step 3 not: the rule is not RANKED", """
            chain 3 0 W 1
            ask 2 40; step 1 -> 2; want 1 100 -> 2; step 1 -> 0; told 1 8 -> 1
            """, "FAIR", "GREEDY");
        edge("step 3 not: no mark, then it is step 2", """
            chain 3 0 RANKED 1
            ask 2 40; want 1 100 -> 2; step 1 -> 2; letter 0 4 -> 100
            """);
        edge("step 3 not: it has the right again, an older ASK's rank counts no more", """
            chain 3 0 RANKED 1
            ask 1 50; step 0 -> 1; carry; pump 1
            ask 0 90; step 1 -> 1; carry; told 1 0 -> 0
            want 1 10 -> 1; step 1 -> 2; letter 0 4 -> 10     # below the last one, but no mark
            want 0 0 -> BAD
            """);
        edge("step 3: the ASK of a first kind of step is the last one", """
            star 3 RANKED 1
            ask 1 50; ask 2 60; step 0 -> 1; told 0 0 -> 1    # with 51
            want 0 51 -> 2; step 0 -> 0; told 0 8 -> 2
            """);
        edge("step 3: one above the ASK of a first kind of step", """
            star 3 RANKED 1
            ask 1 50; ask 2 60; step 0 -> 1
            want 0 52 -> 2; step 0 -> 3; told 0 8 -> 3
            """);
    }

    private static void whereTheRightIs() {
        edge("the right IS at who holds it, though that one is down", """
            count 4 -> 0; crash 0 -> 0; count 4 -> 0; holder -> 0
            """);
        edge("the right IS in the outbox: copy under way, copy lost, sender down, receiver down", """
            ask 1 0; step 0 -> 1; count 4 -> 0; holder -> NONE
            lose 0 -> 0; count 4 -> 0
            crash 0 -> 0; count 4 -> 0
            crash 1 -> 0; count 4 -> 0
            """);
        edge("a RIGHT that was taken and waits for its receipt is not where the right IS", """
            chain 3 0 FAIR 1
            ask 2 0; step 1 -> 2; carry
            step 0 -> 1; deliver 0 -> 1; lose 0 -> 0; told 0 8 -> 1
            step 1 -> 1; told 1 8 -> 1; holder -> NONE; count 4 -> 1
            deliver 0 -> 1; count 4 -> 2
            """);
        edge("a second RIGHT in the same outbox, the first one taken", """
            ask 1 0; step 0 -> 1; deliver 0 -> 1; lose 0 -> 0; pump 1      # 0 keeps RIGHT 0
            want 0 0 -> 1; step 0 -> 2; resend 0 -> 1; deliver 0 -> 2; deliver 0 -> 3
            deliver 0 -> 1; lose 0 -> 0                                    # 0 keeps ASK 1
            step 1 -> 1; carry; holder -> 0; pump 0
            ask 1 0; step 0 -> 1; told 0 8 -> 2; count 2 -> 0; count 4 -> 0; holder -> NONE
            """);
    }

    private static void parts() {
        edge("each station without links is a part", "canal 24 -> 0; count 5 -> 24; link 3 20 -> 1; count 5 -> 23");
        edge("parts by cuts and joins", """
            chain 4 0 FAIR 1
            count 5 -> 1; cut 1 2 -> 0; count 5 -> 2; cut 2 3 -> 0; count 5 -> 3; cut 0 1 -> 0; count 5 -> 4
            join 3 0 -> 0; count 5 -> 3
            """);
    }

    private static void lastCall() {
        PumpHouse x = new PumpHouse();
        for (int i = 1; i <= 170; i++) {
            due.is("want", x.want(0, 100), 1);
            due.is("begin", x.begin(0), 0);
            due.is("end", x.end(0), i);
        }
        due.is("call 511", x.count(6), 170);
        due.is("call 512", x.told(0, 5), 170);
        lettersToTheLastCall();
    }

    private static void lettersToTheLastCall() {
        PumpHouse x = new PumpHouse();
        for (int round = 0; round < 56; round++) {
            int other = 1 - round % 2;
            due.is("want", x.want(other, 0), 1);
            due.is("step", x.step(other), 2);
            due.is("ASK", x.deliver(0), 1);
            due.is("step", x.step(1 - other), 1);
            due.is("its receipt", x.deliver(0), 3);
            due.is("RIGHT", x.deliver(0), 1);
            due.is("its receipt", x.deliver(0), 3);
            due.is("begin", x.begin(other), 0);
            due.is("end", x.end(other), round / 2 + 1);
        }
        due.is("call 505", x.want(1, 0), 1);
        due.is("call 506", x.step(1), 2);
        due.is("call 507, a number for each round", x.letter(0, 3), 56);
        due.is("call 508", x.deliver(0), 1);
        due.is("call 509", x.step(0), 1);
        due.is("call 510, a number for each round", x.letter(1, 3), 56);
        due.is("call 511", x.deliver(1), 1);
        due.is("call 512", x.holder(), 1);
    }
}
