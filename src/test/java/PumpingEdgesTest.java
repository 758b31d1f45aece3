/** Promises 5 to 8: each case that they name has a run of its own. */
public final class PumpingEdgesTest {
    private static final String[] NO_STATION_OF_THREE = {"-1", "3", "23", "24", "31", "32", "33", "MIN", "MAX"};
    private static final Due due = new Due("edges of promises 5 to 8");

    public static void main(String[] args) {
        want();
        wantRefused();
        begin();
        beginCannot();
        beginBad();
        end();
        step();
        due.finish();
    }

    private static void edge(String name, String text) {
        Run.edge(due, name, text);
    }

    private static void want() {
        Run.edges(due, "5: each rank from the least to the greatest", """
            want 1 W -> 1; queue 1 0 who -> 1; queue 1 0 rank -> W; told 1 3 -> 1
            """, "0", "1", "50", "99", "100");
        edge("5: how long its queue is", """
            star 4 FAIR 1
            ask 3 0; ask 1 0; want 0 0 -> 3; queue 0 2 who -> 0; told 0 3 -> 3
            """);
        edge("5: one whose pointer is NONE", "cut 0 1 -> 0; want 1 4 -> 1; queue 1 0 rank -> 4");
        edge("5: one with the last number", "star 24 FAIR 1; want 23 0 -> 1; queue 23 0 who -> 23");
    }

    private static void wantRefused() {
        Run.edges(due, "5: none such station", "star 3 FAIR 1; want W 0 -> BAD", NO_STATION_OF_THREE);
        Run.edges(due, "5: no such rank", "want 0 W -> BAD; told 0 3 -> 0; begin 0 -> NONE",
            "-1", "101", "1000", "1001", "MIN", "MAX");
        edge("5: not open", "canal 2 -> 0; link 0 1 -> 1; want 0 0 -> BAD; open 0 FAIR 1 -> 0; told 0 3 -> 0");
        edge("5: it wants already", """
            want 1 5 -> 1; want 1 5 -> BAD; want 1 9 -> BAD; queue 1 0 rank -> 5; told 1 3 -> 1
            """);
        edge("5: it wants already, and has asked", "ask 1 5; want 1 5 -> BAD; want 1 9 -> BAD; told 1 3 -> 1");
        edge("5: it wants already, and has the right", """
            ask 1 5; step 0 -> 1; carry; want 1 5 -> BAD; begin 1 -> 0
            """);
        edge("5: it pumps already, and may want behind it", """
            want 0 5 -> 1; begin 0 -> 0; want 0 5 -> BAD; told 0 3 -> 0; end 0 -> 1; want 0 5 -> 1
            """);
        edge("5: it is down, and may want when it is up again", """
            crash 1 -> 0; want 1 0 -> BAD; told 1 3 -> 0; restart 1 -> 0; want 1 0 -> 1
            """);
        edge("5: a refused one is not counted from", """
            want 1 0 -> 1; want 0 0 -> 1; pump 0; told 1 6 -> 1; want 1 0 -> BAD; told 1 6 -> 1
            """);
    }

    private static void begin() {
        edge("6: alone: it goes from its queue, its ROW stays", """
            want 0 5 -> 1; begin 0 -> 0; told 0 1 -> 1; told 0 3 -> 0; told 0 4 -> 0; count 3 -> 0; count 6 -> 1
            holder -> 0; told 0 5 -> 0
            """);
        edge("6: others stand there: their ranks and its ROW are 1 more", """
            star 4 FAIR 1
            want 0 5 -> 1; ask 1 0; ask 2 100; begin 0 -> 0
            told 0 3 -> 2; queue 0 0 rank -> 1; queue 0 1 rank -> 101; told 0 4 -> 1
            """);
        edge("6: one other is enough", "want 0 5 -> 1; ask 1 0; begin 0 -> 0; told 0 4 -> 1; queue 0 0 rank -> 1");
        edge("6: from the middle of its queue", """
            star 4 RANKED 1
            ask 3 10; want 0 90 -> 2; ask 1 20; begin 0 -> 0
            queue 0 0 who -> 3; queue 0 0 rank -> 11; queue 0 1 who -> 1; queue 0 1 rank -> 21; queue 0 2 who -> BAD
            """);
        edge("6: ranks in other stations' queues stay", """
            want 0 5 -> 1; ask 1 7; begin 0 -> 0; queue 0 0 rank -> 8; queue 1 0 rank -> 7
            """);
        edge("6: ROWs of others stay", """
            star 3 GREEDY 4
            ask 1 0; want 0 0 -> 2; pump 0; told 0 4 -> 1; told 1 4 -> 0; told 2 4 -> 0
            """);
        edge("6: with the right that came to it", """
            chain 3 0 FAIR 1
            ask 2 0; step 1 -> 2; carry; step 0 -> 1; carry; step 1 -> 1; carry
            begin 1 -> NONE; begin 0 -> NONE; begin 2 -> 0; count 3 -> 2
            """);
        edge("6: though all others are down", "crash 1 -> 0; want 0 0 -> 1; begin 0 -> 0");
    }

    private static void beginCannot() {
        edge("6: it does not hold the right", "want 1 0 -> 1; begin 1 -> NONE; told 1 3 -> 1; count 6 -> 0");
        edge("6: the right is on its way to it", """
            ask 1 0; step 0 -> 1; begin 1 -> NONE; begin 0 -> NONE; deliver 0 -> 1; begin 1 -> 0
            """);
        edge("6: its pointer is NONE", "cut 0 1 -> 0; want 1 0 -> 1; begin 1 -> NONE");
        edge("6: it pumps", "want 0 0 -> 1; begin 0 -> 0; begin 0 -> NONE; count 6 -> 1; told 0 1 -> 1");
        edge("6: its queue is empty", "begin 0 -> NONE; count 6 -> 0; told 0 1 -> 0");
        edge("6: it is not in its queue", """
            ask 1 0; begin 0 -> NONE; told 0 3 -> 1; queue 0 0 rank -> 0; told 0 4 -> 0
            """);
        edge("6: it has just pumped, and does not want", "want 0 0 -> 1; pump 0; begin 0 -> NONE; count 6 -> 1");
        edge("6: it is not the first, FAIR", "ask 1 0; want 0 100 -> 2; begin 0 -> NONE; queue 0 0 rank -> 0");
        edge("6: it is not the first, RANKED", """
            star 2 RANKED 1
            want 0 99 -> 1; ask 1 100; begin 0 -> NONE; told 0 3 -> 2
            """);
        edge("6: it is not the first, GREEDY", """
            star 2 GREEDY 1
            ask 1 0; want 0 0 -> 2; pump 0; want 0 0 -> 2; begin 0 -> NONE; told 0 4 -> 1; queue 0 0 rank -> 1
            """);
    }

    private static void beginBad() {
        Run.edges(due, "6: none such", "star 3 FAIR 1; want 0 0 -> 1; begin W -> BAD", NO_STATION_OF_THREE);
        edge("6: not open", "canal 2 -> 0; link 0 1 -> 1; begin 0 -> BAD");
        edge("6: down, though it could", "want 0 0 -> 1; crash 0 -> 0; begin 0 -> BAD; restart 0 -> 0; begin 0 -> 0");
        edge("6: down, and it could not", "crash 1 -> 0; begin 1 -> BAD; crash 0 -> 0; begin 0 -> BAD");
    }

    private static void end() {
        edge("7: how often it has pumped", """
            want 0 0 -> 1; begin 0 -> 0; end 0 -> 1; want 0 0 -> 1; begin 0 -> 0; end 0 -> 2
            told 0 1 -> 0; told 0 5 -> 2; told 1 5 -> 0; count 3 -> NONE
            """);
        edge("7: pumping that a crash stopped counts too", """
            want 0 0 -> 1; begin 0 -> 0; crash 0 -> 0; restart 0 -> 0; want 0 0 -> 1; begin 0 -> 0; end 0 -> 2
            """);
        Run.edges(due, "7: none such", "star 3 FAIR 1; want 0 0 -> 1; begin 0 -> 0; end W -> BAD", NO_STATION_OF_THREE);
        edge("7: not open, though it pumped before", """
            want 0 0 -> 1; begin 0 -> 0; canal 2 -> 0; link 0 1 -> 1; end 0 -> BAD; open 0 FAIR 1 -> 0; end 0 -> BAD
            """);
        edge("7: it never began", "end 0 -> BAD; want 0 0 -> 1; end 0 -> BAD; told 0 5 -> 0; told 0 3 -> 1");
        edge("7: it has ended", "want 0 0 -> 1; begin 0 -> 0; end 0 -> 1; end 0 -> BAD; told 0 5 -> 1");
        edge("7: another one pumps", "want 0 0 -> 1; begin 0 -> 0; end 1 -> BAD; told 0 1 -> 1; told 1 5 -> 0");
        edge("7: a crash has stopped it", """
            want 0 0 -> 1; begin 0 -> 0; crash 0 -> 0; end 0 -> BAD; restart 0 -> 0; end 0 -> BAD; told 0 5 -> 1
            """);
    }

    private static void step() {
        edge("8: 1, 2, 3 and 0", """
            chain 3 0 RANKED 1
            step 0 -> 0; step 1 -> 0; ask 2 5; step 1 -> 2; carry; want 1 6 -> 2; step 1 -> 3; carry; step 1 -> 0
            step 0 -> 1
            """);
        Run.edges(due, "8: none such", "star 3 FAIR 1; step W -> BAD", NO_STATION_OF_THREE);
        edge("8: not open", "want 1 0 -> 1; canal 2 -> 0; link 0 1 -> 1; step 1 -> BAD");
        edge("8: down, though it could pass on", "ask 1 0; crash 0 -> 0; step 0 -> BAD; restart 0 -> 0; step 0 -> 1");
        edge("8: down, though it could ask", "want 1 0 -> 1; crash 1 -> 0; step 1 -> BAD; restart 1 -> 0; step 1 -> 2");
        edge("8: down, though it could ask once more", """
            chain 3 0 RANKED 1
            ask 2 5; step 1 -> 2; carry; want 1 6 -> 2; crash 1 -> 0; step 1 -> BAD; restart 1 -> 0; step 1 -> 3
            """);
        edge("8: down, and nothing could be done", "crash 1 -> 0; step 1 -> BAD");
        edge("8: to a neighbour that is down", "crash 0 -> 0; want 1 0 -> 1; step 1 -> 2; told 1 8 -> 1; count 2 -> 1");
    }
}
