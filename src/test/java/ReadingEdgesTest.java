/** Promises 17 to 22: each case that they name has a run of its own. */
public final class ReadingEdgesTest {
    private static final String[] NO_STATION_OF_THREE = {"-1", "3", "23", "24", "31", "32", "33", "MIN", "MAX"};
    private static final String[] NO_COUNT = {"-1", "7", "8", "MIN", "MAX"};
    private static final Due due = new Due("edges of promises 17 to 22");

    public static void main(String[] args) {
        holder();
        pointer();
        queue();
        letter();
        toldBad();
        toldFlags();
        toldNumbers();
        toldOthersBegan();
        toldOvertook();
        count();
        countBad();
        due.finish();
    }

    private static void edge(String name, String text) {
        Run.edge(due, name, text);
    }

    private static void holder() {
        edge("17: who holds the right", "chain 24 23 FAIR 1; holder -> 23");
        edge("17: one that is down", "crash 0 -> 0; holder -> 0");
        edge("17: nobody, until the RIGHT is taken", """
            ask 1 0; step 0 -> 1; holder -> NONE; lose 0 -> 0; holder -> NONE; resend 0 -> 1; deliver 0 -> 1
            holder -> 1
            """);
        edge("17: not open", """
            canal 2 -> 0; holder -> BAD; link 0 1 -> 1; holder -> BAD; open 1 FAIR 1 -> 0; holder -> 1
            """);
    }

    private static void pointer() {
        edge("18: itself, a neighbour, NONE", """
            chain 3 1 FAIR 1
            pointer 1 -> 1; pointer 0 -> 1; cut 1 2 -> 0; pointer 2 -> NONE
            """);
        edge("18: of one that is down", "crash 1 -> 0; pointer 1 -> 0");
        edge("18: of both, while the right is under way", "ask 1 0; step 0 -> 1; pointer 0 -> 1; pointer 1 -> 0");
        Run.edges(due, "18: none such", "star 3 FAIR 1; pointer W -> BAD", NO_STATION_OF_THREE);
        edge("18: not open", "canal 2 -> 0; link 0 1 -> 1; pointer 0 -> BAD; pointer 1 -> BAD");
    }

    private static void queue() {
        String three = "star 3 FAIR 1; ask 2 30; want 0 20 -> 2; ask 1 10\n";
        edge("19: who, and its rank, in the order of coming", three + """
            queue 0 0 who -> 2; queue 0 0 rank -> 30; queue 0 1 who -> 0; queue 0 1 rank -> 20
            queue 0 2 who -> 1; queue 0 2 rank -> 10
            """);
        Run.edges(due, "19: no such entry", three + "queue 0 W who -> BAD; queue 0 W rank -> BAD",
            "-1", "3", "4", "23", "24", "25", "MIN", "MAX");
        Run.edges(due, "19: no such station", three + "queue W 0 who -> BAD; queue W 0 rank -> BAD",
            NO_STATION_OF_THREE);
        edge("19: an empty queue", "queue 0 0 who -> BAD; queue 0 0 rank -> BAD; queue 0 -1 who -> BAD");
        edge("19: an entry that went out is no more", """
            want 0 9 -> 1; begin 0 -> 0; queue 0 0 who -> BAD; queue 0 0 rank -> BAD
            """);
        edge("19: of one that is down", "want 1 9 -> 1; crash 1 -> 0; queue 1 0 who -> 1; queue 1 0 rank -> 9");
        edge("19: not open", "want 1 9 -> 1; canal 2 -> 0; link 0 1 -> 1; queue 1 0 who -> BAD; queue 1 0 rank -> BAD");
    }

    private static void letter() {
        edge("20: an ASK", """
            chain 3 0 FAIR 1
            want 2 33 -> 1; step 2 -> 2
            letter 0 0 -> 0; letter 0 1 -> 2; letter 0 2 -> 1; letter 0 3 -> 0; letter 0 4 -> 33
            """);
        edge("20: the RIGHT, its rank is 0", """
            star 3 FAIR 1
            ask 2 33; step 0 -> 1; letter 0 0 -> 1; letter 0 1 -> 0; letter 0 2 -> 2; letter 0 3 -> 0; letter 0 4 -> 0
            """);
        edge("20: a receipt, its rank is 0, its number the letter's", """
            star 3 FAIR 1
            ask 1 5; ask 2 33; step 0 -> 1; deliver 0 -> 1; deliver 0 -> 3; letter 0 3 -> 1
            letter 0 4 -> 34; deliver 0 -> 1
            letter 0 0 -> 2; letter 0 1 -> 1; letter 0 2 -> 0; letter 0 3 -> 1; letter 0 4 -> 0
            """);
        String one = "want 1 5 -> 1; step 1 -> 2\n";
        Run.edges(due, "20: another number", one + "letter 0 W -> BAD", "-1", "5", "6", "MIN", "MAX");
        Run.edges(due, "20: none such", one + "letter W 0 -> BAD; letter W 4 -> BAD; letter W 5 -> BAD",
            "-1", "1", "59", "60", "MIN", "MAX");
        edge("20: an empty pool", "letter 0 0 -> BAD");
        edge("20: one that went out is no more", one + "lose 0 -> 0; letter 0 0 -> BAD; letter 0 4 -> BAD");
        edge("20: not open", one + "canal 2 -> 0; link 0 1 -> 1; letter 0 0 -> BAD; letter 0 5 -> BAD");
        edge("20: the last of 60", one + "fill 60; letter 59 4 -> 5; letter 60 4 -> BAD");
    }

    private static void toldBad() {
        Run.edges(due, "21: another number", "star 3 FAIR 1; told 0 W -> BAD; told 2 W -> BAD",
            "-1", "10", "11", "MIN", "MAX");
        for (int which = 0; which <= 10; which++) {
            Run.edges(due, "21: none such", "star 3 FAIR 1; told W " + which + " -> BAD", NO_STATION_OF_THREE);
            Run.edges(due, "21: not open", "canal 2 -> 0; link 0 1 -> 1; told 0 W -> BAD; told 1 W -> BAD", "" + which);
        }
    }

    private static void toldFlags() {
        edge("21: 0, an asked mark: by a second kind of step until the right comes", """
            told 1 0 -> 0; want 1 0 -> 1; told 1 0 -> 0; step 1 -> 2; told 1 0 -> 1; carry; told 1 0 -> 1
            step 0 -> 1; told 1 0 -> 1; deliver 0 -> 1; told 1 0 -> 0
            """);
        edge("21: 0, an asked mark: by a first kind of step, if others wait", """
            star 3 FAIR 1
            ask 1 0; ask 2 0; told 0 0 -> 0; step 0 -> 1; told 0 0 -> 1
            """);
        edge("21: 1, it pumps", """
            told 0 1 -> 0; want 0 0 -> 1; told 0 1 -> 0; begin 0 -> 0; told 0 1 -> 1; end 0 -> 1; told 0 1 -> 0
            """);
        edge("21: 2, it is down", """
            told 0 2 -> 0; crash 0 -> 0; told 0 2 -> 1; told 1 2 -> 0; restart 0 -> 0; told 0 2 -> 0
            """);
        edge("21: of one that is down, all is told", """
            want 1 0 -> 1; step 1 -> 2; crash 1 -> 0; told 1 0 -> 1; told 1 1 -> 0; told 1 2 -> 1; told 1 3 -> 1
            told 1 4 -> 0; told 1 5 -> 0; told 1 6 -> 0; told 1 7 -> 0; told 1 8 -> 1; told 1 9 -> 1; told 1 10 -> BAD
            """);
    }

    private static void toldNumbers() {
        edge("21: 3, how long its queue is", """
            star 3 FAIR 1
            told 0 3 -> 0; ask 1 0; told 0 3 -> 1; want 0 0 -> 2; told 0 3 -> 2; step 0 -> 1; told 0 3 -> 1
            """);
        edge("21: 4, its ROW, that ends with the passing on", """
            star 3 FAIR 1
            want 0 0 -> 1; ask 1 0; pump 0; told 0 4 -> 1; step 0 -> 1; told 0 4 -> 0
            """);
        edge("21: 4, its ROW goes on above G under another rule than GREEDY", """
            star 2 RANKED 1
            ask 1 0; want 0 100 -> 2; pump 0; want 0 100 -> 2; pump 0; want 0 100 -> 2; pump 0; told 0 4 -> 3
            """);
        edge("21: 5, how often it has pumped, not while it pumps", """
            told 0 5 -> 0; want 0 0 -> 1; begin 0 -> 0; told 0 5 -> 0; end 0 -> 1; told 0 5 -> 1; told 1 5 -> 0
            """);
        edge("21: 8, letters in all its outboxes, not copies", TermsEdgesTest.TWO_OUTBOXES + """
            resend 1 -> 2; twin 0 -> 3; told 1 8 -> 2; told 0 8 -> 0; told 2 8 -> 0; deliver 0 -> 1; told 1 8 -> 2
            deliver 2 -> 3; told 1 8 -> 1
            """);
        edge("21: 9, how many neighbours it has", """
            star 24 FAIR 1
            told 0 9 -> 23; told 23 9 -> 1; cut 0 23 -> 0; told 0 9 -> 22; told 23 9 -> 0; join 22 23 -> 0
            told 22 9 -> 2; told 23 9 -> 1; told 0 9 -> 22
            """);
    }

    private static void toldOthersBegan() {
        edge("21: 6, nobody began since it wants", """
            want 0 0 -> 1; pump 0; want 1 0 -> 1; told 1 6 -> 0
            """);
        edge("21: 6, others began since it wants", """
            star 3 GREEDY 4
            ask 1 0; want 0 0 -> 2; begin 0 -> 0; told 1 6 -> 1; end 0 -> 1; told 1 6 -> 1
            want 0 0 -> 2; pump 0; told 1 6 -> 2; told 0 6 -> 0
            """);
        edge("21: 6, its own begin does not count", """
            want 0 0 -> 1; begin 0 -> 0; told 0 6 -> 0; end 0 -> 1; told 0 6 -> 0; want 0 0 -> 1; pump 0; told 0 6 -> 0
            """);
        edge("21: 6, it wants no more: others that began since it wanted last", """
            want 0 0 -> 1; pump 0; ask 1 0; step 0 -> 1; carry; pump 1; told 0 6 -> 1
            want 1 0 -> 1; pump 1; told 0 6 -> 2; told 1 6 -> 0
            want 0 0 -> 1; told 0 6 -> 0
            """);
        edge("21: 6, it never wanted", "want 0 0 -> 1; pump 0; told 1 6 -> 0");
        edge("21: 6, what can't begin does not count", """
            want 1 0 -> 1; begin 0 -> NONE; begin 1 -> NONE; told 1 6 -> 0; told 0 6 -> 0
            """);
        edge("21: 6, it counts while it is down", """
            want 1 0 -> 1; crash 1 -> 0; want 0 0 -> 1; pump 0; told 1 6 -> 1; restart 1 -> 0; told 1 6 -> 1
            """);
    }

    private static void toldOvertook() {
        edge("21: 7, alone, or somebody came behind it", """
            want 0 0 -> 1; pump 0; want 0 0 -> 1; ask 1 0; pump 0; told 0 7 -> 0
            """);
        edge("21: 7, somebody had come before it", """
            star 2 GREEDY 2
            ask 1 0; want 0 0 -> 2; begin 0 -> 0; told 0 7 -> 1; end 0 -> 1
            want 0 0 -> 2; pump 0; told 0 7 -> 2; want 0 0 -> 2; begin 0 -> NONE; told 0 7 -> 2; told 1 7 -> 0
            """);
        edge("21: 7, one before it and one behind it", """
            star 3 RANKED 1
            ask 1 5; want 0 6 -> 2; ask 2 5; pump 0; told 0 7 -> 1
            """);
    }

    private static void count() {
        edge("22: 0, 1 and 5 before opening", """
            canal 24 -> 0; count 0 -> 24; count 1 -> 0; count 5 -> 24; link 0 23 -> 1; count 1 -> 1; count 5 -> 23
            """);
        edge("22: 2, copies in the pool", """
            count 2 -> 0; want 1 0 -> 1; step 1 -> 2; count 2 -> 1; fill 60; count 2 -> 60; deliver 0 -> 1
            count 2 -> 60
            lose 0 -> 59; count 2 -> 59
            """);
        edge("22: 3, who pumps", """
            chain 24 23 FAIR 1
            count 3 -> NONE; want 23 0 -> 1; count 3 -> NONE; begin 23 -> 0; count 3 -> 23; end 23 -> 1; count 3 -> NONE
            """);
        edge("22: 3, nobody any more behind a crash", "want 0 0 -> 1; begin 0 -> 0; crash 0 -> 0; count 3 -> NONE");
        edge("22: 4, of 24 stations, nobody holds the right", """
            chain 24 22 FAIR 1
            ask 23 0; step 22 -> 1; holder -> NONE; count 4 -> 22; count 3 -> NONE; deliver 0 -> 1; count 4 -> 23
            """);
        edge("22: 4, where the right IS", """
            ask 1 0; count 4 -> 0; step 0 -> 1; count 4 -> 0; deliver 0 -> 1; count 4 -> 1
            """);
        edge("22: 6, how often somebody began, all together", """
            count 6 -> 0; want 0 0 -> 1; count 6 -> 0; begin 0 -> 0; count 6 -> 1; begin 0 -> NONE; count 6 -> 1
            end 0 -> 1; count 6 -> 1; ask 1 0; step 0 -> 1; carry; begin 1 -> 0; count 6 -> 2
            """);
    }

    private static void countBad() {
        Run.edges(due, "22: another number", "count W -> BAD", NO_COUNT);
        Run.edges(due, "22: another number, not open", "canal 2 -> 0; count W -> BAD", NO_COUNT);
        Run.edges(due, "22: not open", """
            want 1 0 -> 1; step 1 -> 2; want 0 0 -> 1; begin 0 -> 0
            canal 2 -> 0; count W -> BAD; link 0 1 -> 1; count W -> BAD
            """, "2", "3", "4", "6");
        edge("22: not open, and answered", """
            canal 3 -> 0; link 0 1 -> 1; count 0 -> 3; count 1 -> 1; count 5 -> 2
            """);
    }
}
