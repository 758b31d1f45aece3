/** Promises 1 to 4: each case that they name has a run of its own. */
public final class LayingEdgesTest {
    private static final String[] NO_STATION_OF_THREE = {"-1", "3", "23", "24", "31", "32", "33", "MIN", "MAX"};
    private static final String[] NO_SIZE = {"1", "0", "-1", "25", "26", "32", "MIN", "MAX"};
    private static final Due due = new Due("edges of promises 1 to 4");

    public static void main(String[] args) {
        newObject();
        canalSizes();
        canalAnew();
        link();
        linkInOnePart();
        openWrong();
        openRight();
        openLeavesNothing();
        due.finish();
    }

    private static void edge(String name, String text) {
        Run.edge(due, name, text);
    }

    private static void newObject() {
        edge("1: two stations, a link, 0 holds the right", """
            count 0 -> 2; count 1 -> 1; count 2 -> 0; count 3 -> NONE; count 4 -> 0; count 5 -> 1; count 6 -> 0
            holder -> 0; pointer 0 -> 0; pointer 1 -> 0; pointer 2 -> BAD
            told 0 0 -> 0; told 0 1 -> 0; told 0 2 -> 0; told 0 3 -> 0; told 0 4 -> 0
            told 0 5 -> 0; told 0 6 -> 0; told 0 7 -> 0; told 0 8 -> 0; told 0 9 -> 1
            told 1 0 -> 0; told 1 1 -> 0; told 1 2 -> 0; told 1 3 -> 0; told 1 4 -> 0
            told 1 5 -> 0; told 1 6 -> 0; told 1 7 -> 0; told 1 8 -> 0; told 1 9 -> 1
            """);
        edge("1: it is open", "link 0 1 -> BAD; open 0 FAIR 1 -> BAD");
        edge("1: its rule is 0", "ask 1 0; want 0 100 -> 2; begin 0 -> NONE; step 0 -> 1; pointer 0 -> 1");
    }

    private static void canalSizes() {
        Run.edges(due, "2: no such size, it is open and stays so", """
            want 0 0 -> 1; begin 0 -> 0; want 1 3 -> 1; step 1 -> 2
            canal W -> BAD; count 0 -> 2; holder -> 0; count 3 -> 0; count 2 -> 1
            """, NO_SIZE);
        Run.edges(due, "2: no such size, it is not open and stays so", """
            canal 3 -> 0; link 0 1 -> 1
            canal W -> BAD; count 0 -> 3; count 1 -> 1; holder -> BAD
            link 1 2 -> 2; open 2 FAIR 1 -> 0
            """, NO_SIZE);
        for (int n = 2; n <= 24; n++) {
            edge("2: " + n + " stations", "canal W -> 0; count 0 -> W; count 1 -> 0; count 5 -> W; holder -> BAD"
                .replace("W", "" + n));
        }
    }

    private static void canalAnew() {
        edge("2: an open one: not open, without links", """
            chain 4 0 FAIR 1
            canal 4 -> 0; holder -> BAD; count 1 -> 0; count 5 -> 4; told 0 9 -> BAD; want 0 0 -> BAD
            open 0 FAIR 1 -> BAD; link 0 1 -> 1
            """);
        edge("2: one that is not open: links go", """
            canal 3 -> 0; link 0 1 -> 1; link 1 2 -> 2
            canal 3 -> 0; count 1 -> 0; count 5 -> 3; link 0 2 -> 1; link 0 1 -> 2
            """);
        edge("2: fewer than before", """
            chain 24 0 FAIR 1
            canal 2 -> 0; link 0 2 -> BAD; link 1 23 -> BAD; link 0 1 -> 1; open 2 FAIR 1 -> BAD; open 1 FAIR 1 -> 0
            """);
        edge("2: more than before", """
            canal 5 -> 0; count 5 -> 5; link 3 4 -> 1; link 4 0 -> 2; link 0 1 -> 3; link 2 1 -> 4; open 3 FAIR 1 -> 0
            pointer 2 -> 1; pointer 1 -> 0; pointer 0 -> 4; pointer 4 -> 3
            """);
    }

    private static void link() {
        edge("3: how many links there are", """
            canal 4 -> 0; link 0 1 -> 1; link 3 2 -> 2; link 0 3 -> 3; count 1 -> 3; count 5 -> 1
            """);
        edge("3: it is open", "chain 3 0 FAIR 1; link 0 2 -> BAD; link 0 1 -> BAD; count 1 -> 2");
        edge("3: it is open, and two parts by a cut", "chain 3 0 FAIR 1; cut 1 2 -> 0; link 1 2 -> BAD; count 1 -> 1");
        Run.edges(due, "3: no such two", """
            canal 3 -> 0; link W 0 -> BAD; link 0 W -> BAD; link W W -> BAD; count 1 -> 0; count 5 -> 3
            """, NO_STATION_OF_THREE);
        edge("3: the last station", "canal 24 -> 0; link 23 0 -> 1; link 24 0 -> BAD; link 22 23 -> 2");
    }

    private static void linkInOnePart() {
        edge("3: one with itself", "canal 2 -> 0; link 0 0 -> BAD; link 1 1 -> BAD; count 1 -> 0");
        edge("3: the same link", "canal 3 -> 0; link 0 1 -> 1; link 0 1 -> BAD; link 1 0 -> BAD; count 1 -> 1");
        edge("3: a ring", "canal 3 -> 0; link 0 1 -> 1; link 1 2 -> 2; link 2 0 -> BAD; link 0 2 -> BAD; count 1 -> 2");
        edge("3: a ring through two parts that were joined", """
            canal 6 -> 0; link 0 1 -> 1; link 2 3 -> 2; link 4 5 -> 3; link 3 4 -> 4; link 2 5 -> BAD; link 1 2 -> 5
            link 0 5 -> BAD; link 5 0 -> BAD; count 5 -> 1
            """);
        StringBuilder long24 = new StringBuilder("canal 24 -> 0\n");
        for (int i = 1; i < 24; i++) {
            // Upward and downward in turn, so that no one order of walking finds the part at once.
            int place = i % 2 == 1 ? i : 24 - i;
            int before = i == 1 ? 0 : (i - 1) % 2 == 1 ? i - 1 : 24 - (i - 1);
            long24.append("link " + before + " " + place + " -> " + i + "\n");
        }
        edge("3: a ring of 24", long24 + "link 0 12 -> BAD; link 23 0 -> BAD; link 12 0 -> BAD; count 1 -> 23\n");
    }

    private static void openWrong() {
        edge("4: it is open", "open 0 FAIR 1 -> BAD; open 1 RANKED 4 -> BAD; holder -> 0");
        Run.edges(due, "4: no such station", """
            canal 3 -> 0; link 0 1 -> 1; link 1 2 -> 2; open W FAIR 1 -> BAD; holder -> BAD; open 2 FAIR 1 -> 0
            """, NO_STATION_OF_THREE);
        Run.edges(due, "4: no such rule", """
            canal 2 -> 0; link 0 1 -> 1; open 0 W 1 -> BAD; holder -> BAD; open 1 RANKED 1 -> 0
            """, "-1", "3", "4", "MIN", "MAX");
        for (String rule : new String[] {"FAIR", "GREEDY", "RANKED"}) {
            Run.edges(due, "4: no such G, " + rule, """
                canal 2 -> 0; link 0 1 -> 1; open 0 RULE W -> BAD; holder -> BAD; open 1 RULE 1 -> 0
                """.replace("RULE", rule), "0", "5", "-1", "MIN", "MAX");
            Run.edges(due, "4: each G, " + rule, "canal 2 -> 0; link 0 1 -> 1; open 0 RULE W -> 0; holder -> 0"
                .replace("RULE", rule), "1", "2", "3", "4");
        }
        edge("4: each station is a part", "canal 2 -> 0; open 0 FAIR 1 -> BAD; link 0 1 -> 1; open 0 FAIR 1 -> 0");
        edge("4: two parts", """
            canal 4 -> 0; link 0 1 -> 1; link 2 3 -> 2; open 0 FAIR 1 -> BAD; open 3 FAIR 1 -> BAD; holder -> BAD
            link 3 1 -> 3; open 3 FAIR 1 -> 0; holder -> 3
            """);
        edge("4: it was open, and is laid anew without links", "canal 2 -> 0; open 0 FAIR 1 -> BAD");
    }

    private static void openRight() {
        Run.edges(due, "4: each station of three may hold the right", """
            canal 3 -> 0; link 2 1 -> 1; link 0 2 -> 2; open W FAIR 1 -> 0; holder -> W; pointer W -> W; count 4 -> W
            """, "0", "1", "2");
        edge("4: all pointers lead to it, from both sides", """
            chain 24 11 FAIR 1
            pointer 0 -> 1; pointer 10 -> 11; pointer 11 -> 11; pointer 12 -> 11; pointer 23 -> 22
            """);
        edge("4: all pointers lead to a leaf", """
            canal 5 -> 0; link 2 0 -> 1; link 2 1 -> 2; link 2 3 -> 3; link 2 4 -> 4; open 4 FAIR 1 -> 0
            pointer 0 -> 2; pointer 1 -> 2; pointer 2 -> 4; pointer 3 -> 2; pointer 4 -> 4
            """);
    }

    private static void openLeavesNothing() {
        String before = """
            canal 4 -> 0; link 0 1 -> 1; link 0 2 -> 2; link 0 3 -> 3; open 0 RANKED 4 -> 0
            ask 1 90; want 0 100 -> 2; pump 0; want 0 100 -> 2; begin 0 -> 0
            want 2 80 -> 1; step 2 -> 2; crash 3 -> 0
            told 0 1 -> 1; told 0 4 -> 2; told 0 5 -> 1; told 0 7 -> 2; told 1 6 -> 2; count 6 -> 2
            canal 4 -> 0; link 0 1 -> 1; link 0 2 -> 2; link 0 3 -> 3
            """;
        edge("4: queues are empty, rows 0, nobody is down, pumps, asks or has letters", before + """
            open 2 RANKED 1 -> 0
            count 2 -> 0; count 3 -> NONE; count 4 -> 2; count 6 -> 0; holder -> 2; pointer 0 -> 2; pointer 1 -> 0
            told 0 3 -> 0; told 1 3 -> 0; told 2 3 -> 0; told 0 4 -> 0; told 3 2 -> 0; told 0 1 -> 0
            told 1 0 -> 0; told 2 0 -> 0; told 1 8 -> 0; told 2 8 -> 0; restart 3 -> BAD; end 0 -> BAD
            told 0 5 -> 0; told 0 7 -> 0; told 1 6 -> 0
            """);
        edge("4: numbers are 0, of both ways", before + """
            open 0 FAIR 1 -> 0
            want 1 5 -> 1; step 1 -> 2; letter 0 3 -> 0; deliver 0 -> 1; deliver 0 -> 3
            step 0 -> 1; letter 0 3 -> 0; deliver 0 -> 1; holder -> 1
            """);
        edge("4: who wanted before has not wanted since", before + """
            open 0 FAIR 1 -> 0
            want 0 0 -> 1; pump 0; told 1 6 -> 0; told 2 6 -> 0
            """);
        edge("4: the rank of an ASK of before does not count", before + """
            open 0 RANKED 1 -> 0
            want 1 5 -> 1; step 1 -> 2; step 1 -> 0
            """);
        edge("4: rule and G are the new ones", before + """
            open 0 GREEDY 1 -> 0
            ask 1 90; want 0 0 -> 2; pump 0; want 0 100 -> 2; begin 0 -> NONE
            """);
    }
}
