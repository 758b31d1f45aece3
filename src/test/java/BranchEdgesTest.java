/** Promises 13 to 16: each case that they name has a run of its own. */
public final class BranchEdgesTest {
    private static final String[] NO_STATION_OF_THREE = {"-1", "3", "23", "24", "31", "32", "33", "MIN", "MAX"};
    private static final Due due = new Due("edges of promises 13 to 16");

    public static void main(String[] args) {
        crash();
        restart();
        cut();
        cutBad();
        cutLetters();
        cutQueued();
        join();
        joinPointers();
        joinNumbers();
        joinBad();
        joinMarks();
        due.finish();
    }

    private static void edge(String name, String text) {
        Run.edge(due, name, text);
    }

    private static void crash() {
        edge("13: it is down", "crash 1 -> 0; told 1 2 -> 1; told 0 2 -> 0");
        edge("13: it stops pumping, that counts as pumped", """
            want 0 0 -> 1; begin 0 -> 0; told 0 5 -> 0; crash 0 -> 0
            told 0 1 -> 0; told 0 5 -> 1; count 3 -> NONE; count 6 -> 1; holder -> 0
            """);
        edge("13: one that does not pump has not pumped more", """
            want 0 0 -> 1; pump 0; want 0 0 -> 1; crash 0 -> 0; told 0 5 -> 1; told 0 3 -> 1
            """);
        edge("13: another one goes on pumping", "want 0 0 -> 1; begin 0 -> 0; crash 1 -> 0; told 0 1 -> 1; end 0 -> 1");
        edge("13: all may be down", "crash 0 -> 0; crash 1 -> 0; told 0 2 -> 1; told 1 2 -> 1; holder -> 0");
        Run.edges(due, "13: none such", "star 3 FAIR 1; crash W -> BAD", NO_STATION_OF_THREE);
        edge("13: not open", "canal 2 -> 0; link 0 1 -> 1; crash 0 -> BAD; open 0 FAIR 1 -> 0; told 0 2 -> 0");
        edge("13: down already", """
            want 0 0 -> 1; begin 0 -> 0; crash 0 -> 0; crash 0 -> BAD; told 0 5 -> 1; restart 0 -> 0; crash 0 -> 0
            """);
    }

    private static void restart() {
        edge("14: up again, with all that it had", """
            chain 3 0 GREEDY 4
            ask 1 50; want 0 60 -> 2; pump 0; want 0 61 -> 2; crash 0 -> 0
            restart 0 -> 0; told 0 2 -> 0; told 0 3 -> 2; queue 0 0 who -> 1; queue 0 0 rank -> 51; queue 0 1 rank -> 61
            told 0 4 -> 1; told 0 5 -> 1; told 0 7 -> 1; holder -> 0; pump 0; told 0 4 -> 2
            """);
        edge("14: with its mark, its pointer and its letters", """
            want 1 5 -> 1; step 1 -> 2; lose 0 -> 0; crash 1 -> 0
            restart 1 -> 0; told 1 0 -> 1; pointer 1 -> 0; told 1 8 -> 1; step 1 -> 0; resend 1 -> 1; letter 0 3 -> 0
            """);
        edge("14: with the rank of its last ASK", """
            chain 3 0 RANKED 1
            ask 2 40; step 1 -> 2; carry; crash 1 -> 0; restart 1 -> 0; want 1 40 -> 2; step 1 -> 0
            """);
        edge("14: with the numbers that were taken", """
            want 1 5 -> 1; step 1 -> 2; twin 0 -> 2; deliver 0 -> 1; crash 0 -> 0; restart 0 -> 0; deliver 0 -> 2
            """);
        edge("14: what it pumped is over", "want 0 0 -> 1; begin 0 -> 0; crash 0 -> 0; restart 0 -> 0; told 0 1 -> 0");
        Run.edges(due, "14: none such", "star 3 FAIR 1; crash 0 -> 0; restart W -> BAD", NO_STATION_OF_THREE);
        edge("14: not open", "crash 0 -> 0; canal 2 -> 0; link 0 1 -> 1; restart 0 -> BAD; open 0 FAIR 1 -> 0");
        edge("14: it is not down", """
            restart 0 -> BAD; crash 0 -> 0; restart 1 -> BAD; restart 0 -> 0; restart 0 -> BAD
            """);
    }

    private static void cut() {
        edge("15: the end that pointed to the other one has NONE", """
            chain 3 0 FAIR 1
            cut 1 2 -> 0; pointer 2 -> NONE; pointer 1 -> 0; pointer 0 -> 0; count 1 -> 1; count 5 -> 2; told 1 9 -> 1
            told 2 9 -> 0
            """);
        edge("15: the same, ends turned", """
            chain 3 0 FAIR 1
            cut 2 1 -> 0; pointer 2 -> NONE; pointer 1 -> 0; pointer 0 -> 0; count 1 -> 1; count 5 -> 2
            """);
        edge("15: the lower end pointed to the other one", """
            chain 3 2 FAIR 1
            cut 0 1 -> 0; pointer 0 -> NONE; pointer 1 -> 2; cut 1 2 -> 0; pointer 1 -> NONE; pointer 2 -> 2
            """);
        edge("15: in a part without the right", """
            chain 4 0 FAIR 1
            cut 0 1 -> 0; cut 2 3 -> 0; pointer 1 -> NONE; pointer 2 -> 1; pointer 3 -> NONE
            cut 1 2 -> 0; pointer 2 -> NONE; count 5 -> 4; count 1 -> 0
            """);
        edge("15: ends that are down", "crash 0 -> 0; crash 1 -> 0; cut 0 1 -> 0; pointer 1 -> NONE; told 1 2 -> 1");
        edge("15: while an end pumps", "want 0 0 -> 1; begin 0 -> 0; cut 0 1 -> 0; count 3 -> 0; end 0 -> 1");
        edge("15: each wants for itself, that is not the other's queue", """
            want 0 0 -> 1; want 1 0 -> 1; cut 0 1 -> 0; told 0 3 -> 1; told 1 3 -> 1; begin 0 -> 0
            """);
        edge("15: letters and entries of other links do not matter", """
            star 4 FAIR 1
            ask 1 0; want 2 0 -> 1; step 2 -> 2; cut 0 3 -> 0; count 2 -> 1; told 0 3 -> 1
            """);
        edge("15: while the right is under way elsewhere", """
            chain 4 0 FAIR 1
            ask 1 0; step 0 -> 1; cut 2 3 -> 0; pointer 3 -> NONE; cut 1 2 -> 0; pointer 2 -> NONE; count 4 -> 0
            """);
    }

    private static void cutBad() {
        edge("15: not open", "canal 2 -> 0; link 0 1 -> 1; cut 0 1 -> BAD; count 1 -> 1");
        Run.edges(due, "15: no such stations", """
            star 3 FAIR 1
            cut 0 W -> BAD; cut W 0 -> BAD; cut W W -> BAD; count 1 -> 2
            """, NO_STATION_OF_THREE);
        edge("15: one with itself", "cut 0 0 -> BAD; cut 1 1 -> BAD; count 1 -> 1");
        edge("15: two of one part without a link", "chain 3 0 FAIR 1; cut 0 2 -> BAD; cut 2 0 -> BAD; count 1 -> 2");
        edge("15: it is cut already", "cut 0 1 -> 0; cut 0 1 -> BAD; cut 1 0 -> BAD; count 1 -> 0");
    }

    private static void cutLetters() {
        edge("15: an outbox has a letter, no copy is under way", """
            want 1 0 -> 1; step 1 -> 2; lose 0 -> 0; cut 0 1 -> LETTERS; cut 1 0 -> LETTERS; count 1 -> 1
            pointer 1 -> 0
            """);
        edge("15: the outbox of the end with the lower number", """
            chain 2 1 FAIR 1
            want 0 0 -> 1; step 0 -> 2; lose 0 -> 0; cut 0 1 -> LETTERS; cut 1 0 -> LETTERS
            """);
        edge("15: an outbox has the RIGHT", """
            ask 1 0; step 0 -> 1; lose 0 -> 0; cut 0 1 -> LETTERS; cut 1 0 -> LETTERS
            """);
        edge("15: an outbox has a letter that was taken", """
            want 1 0 -> 1; step 1 -> 2; deliver 0 -> 1; lose 0 -> 0; cut 0 1 -> LETTERS
            """);
        String copyOfAnAsk = """
            want 1 0 -> 1; step 1 -> 2; twin 0 -> 2; deliver 0 -> 1; deliver 1 -> 3
            step 0 -> 1; deliver 1 -> 1; deliver 1 -> 3; told 0 8 -> 0; told 1 8 -> 0; count 2 -> 1
            """;
        edge("15: a copy of an ASK is in the pool, outboxes and queues are empty", copyOfAnAsk + """
            letter 0 0 -> 0; cut 0 1 -> LETTERS; cut 1 0 -> LETTERS; lose 0 -> 0; cut 0 1 -> 0
            """);
        edge("15: a receipt is in the pool, outboxes and queues are empty", copyOfAnAsk + """
            deliver 0 -> 2; letter 0 0 -> 2; cut 0 1 -> LETTERS; cut 1 0 -> LETTERS; deliver 0 -> 4; cut 1 0 -> 0
            """);
        edge("15: a copy of the RIGHT is in the pool, outboxes and queues are empty", """
            ask 1 0; step 0 -> 1; twin 0 -> 2; deliver 0 -> 1; deliver 1 -> 3; count 2 -> 1; letter 0 0 -> 1
            cut 0 1 -> LETTERS; cut 1 0 -> LETTERS; lose 0 -> 0; cut 0 1 -> 0; pointer 0 -> NONE; pointer 1 -> 1
            """);
        edge("15: letters and an entry: LETTERS", """
            want 1 0 -> 1; step 1 -> 2; deliver 0 -> 1; told 0 3 -> 1; cut 0 1 -> LETTERS; carry; cut 0 1 -> QUEUED
            """);
        edge("15: letters under way to one that is down", """
            want 1 0 -> 1; step 1 -> 2; crash 0 -> 0; cut 0 1 -> LETTERS; deliver 0 -> 0; cut 0 1 -> LETTERS
            """);
    }

    private static void cutQueued() {
        edge("15: one end is in the other's queue", """
            ask 1 0; cut 0 1 -> QUEUED; cut 1 0 -> QUEUED; count 1 -> 1; pointer 1 -> 0; told 0 3 -> 1
            """);
        edge("15: the end with the lower number is in the other's queue", """
            chain 2 1 FAIR 1
            ask 0 0; cut 0 1 -> QUEUED; cut 1 0 -> QUEUED
            """);
        edge("15: behind others in the queue", """
            star 3 FAIR 1
            want 0 0 -> 1; ask 1 0; ask 2 0; cut 0 2 -> QUEUED; cut 0 1 -> QUEUED
            """);
        edge("15: not any more, when the right has come", """
            ask 1 0; step 0 -> 1; carry; cut 0 1 -> 0; pointer 0 -> NONE; pointer 1 -> 1; begin 1 -> 0
            """);
        edge("15: who passed the right on and asks for it back", """
            star 3 FAIR 1
            ask 1 0; ask 2 0; step 0 -> 1; carry; cut 0 1 -> QUEUED; cut 0 2 -> QUEUED
            """);
    }

    private static void join() {
        edge("16: the right is in the first one's part", """
            chain 4 0 FAIR 1
            cut 1 2 -> 0; join 0 3 -> 0; pointer 3 -> 0; pointer 2 -> 3; count 1 -> 3; count 5 -> 1; told 0 9 -> 2
            told 3 9 -> 2
            """);
        edge("16: the right is in the second one's part", """
            chain 4 0 FAIR 1
            cut 1 2 -> 0; join 3 0 -> 0; pointer 3 -> 0; pointer 2 -> 3; count 1 -> 3; count 5 -> 1
            """);
        edge("16: the same two again", "cut 0 1 -> 0; join 0 1 -> 0; pointer 0 -> 0; pointer 1 -> 0; count 1 -> 1");
        edge("16: the right is under way in the first one's part", """
            chain 3 0 FAIR 1
            cut 1 2 -> 0; ask 1 0; step 0 -> 1; join 1 2 -> 0; pointer 2 -> 1; carry; holder -> 1
            """);
        edge("16: the right is under way in the second one's part", """
            chain 3 0 FAIR 1
            cut 1 2 -> 0; ask 1 0; step 0 -> 1; lose 0 -> 0; join 2 0 -> 0; pointer 2 -> 0; pointer 0 -> 1; count 4 -> 0
            """);
        edge("16: ends that are down", "cut 0 1 -> 0; crash 0 -> 0; crash 1 -> 0; join 0 1 -> 0; pointer 1 -> 0");
        edge("16: three parts, one after the other", """
            chain 3 1 FAIR 1
            cut 0 1 -> 0; cut 1 2 -> 0; join 0 2 -> BAD; join 0 1 -> 0; join 0 2 -> 0; pointer 2 -> 0; pointer 0 -> 1
            """);
        edge("16: who wanted in the other part asks through the new link", """
            chain 3 0 FAIR 1
            cut 1 2 -> 0; want 2 7 -> 1; step 2 -> 0; join 2 0 -> 0; step 2 -> 2; letter 0 2 -> 0; carry
            step 0 -> 1; carry; pump 2
            """);
    }

    private static void joinPointers() {
        edge("16: pointers are turned up to the station with NONE, others stay", """
            canal 8 -> 0; link 0 1 -> 1; link 1 2 -> 2; link 2 3 -> 3; link 3 4 -> 4; link 4 5 -> 5; link 2 6 -> 6
            link 0 7 -> 7; open 7 FAIR 1 -> 0
            cut 0 1 -> 0; pointer 1 -> NONE; join 4 7 -> 0
            pointer 4 -> 7; pointer 3 -> 4; pointer 2 -> 3; pointer 1 -> 2; pointer 5 -> 4; pointer 6 -> 2
            pointer 0 -> 7; pointer 7 -> 7
            """);
        edge("16: the end itself has NONE: it alone points anew", """
            chain 4 0 FAIR 1
            cut 1 2 -> 0; join 2 0 -> 0; pointer 2 -> 0; pointer 3 -> 2; pointer 1 -> 0
            """);
        StringBuilder turned = new StringBuilder("chain 24 0 FAIR 1\ncut 0 1 -> 0; join 23 0 -> 0; pointer 23 -> 0\n");
        for (int s = 1; s < 23; s++) {
            turned.append("pointer " + s + " -> " + (s + 1) + "\n");
        }
        edge("16: 23 pointers are turned", turned.toString());
        edge("16: stations on the way that are down", """
            chain 4 0 FAIR 1
            cut 0 1 -> 0; crash 1 -> 0; crash 2 -> 0; join 3 0 -> 0; pointer 3 -> 0; pointer 2 -> 3; pointer 1 -> 2
            """);
    }

    private static void joinNumbers() {
        edge("16: numbers of the link are 0, of both ways", """
            star 3 FAIR 1
            ask 1 0; step 0 -> 1; carry; pump 1; ask 0 0; step 1 -> 1; carry; pump 0
            cut 0 1 -> 0; join 1 0 -> 0
            want 1 0 -> 1; step 1 -> 2; letter 0 3 -> 0; deliver 0 -> 1; letter 0 3 -> 0; deliver 0 -> 3
            step 0 -> 1; letter 0 3 -> 0; deliver 0 -> 1; deliver 0 -> 3; holder -> 1
            """);
        edge("16: the same, ends turned", """
            star 3 FAIR 1
            ask 1 0; step 0 -> 1; carry; pump 1
            cut 0 1 -> 0; join 1 0 -> 0; pointer 0 -> 1
            want 0 0 -> 1; step 0 -> 2; letter 0 3 -> 0; deliver 0 -> 1; deliver 0 -> 3
            step 1 -> 1; letter 0 3 -> 0; deliver 0 -> 1; holder -> 0
            """);
        edge("16: numbers of other links go on", """
            star 3 FAIR 1
            ask 1 0; step 0 -> 1; carry; pump 1; cut 0 2 -> 0; join 0 2 -> 0
            want 0 0 -> 1; step 0 -> 2; letter 0 3 -> 1
            """);
    }

    private static void joinBad() {
        edge("16: not open", "canal 2 -> 0; join 0 1 -> BAD; count 1 -> 0; link 0 1 -> 1; join 0 1 -> BAD");
        Run.edges(due, "16: no such two", """
            star 3 FAIR 1
            cut 0 2 -> 0; join 0 W -> BAD; join W 0 -> BAD; join 2 W -> BAD; join W W -> BAD; count 1 -> 1
            """, NO_STATION_OF_THREE);
        edge("16: one with itself", "cut 0 1 -> 0; join 0 0 -> BAD; join 1 1 -> BAD; count 1 -> 0");
        edge("16: one part, linked", "join 0 1 -> BAD; join 1 0 -> BAD; count 1 -> 1");
        edge("16: one part, not linked", "chain 3 0 FAIR 1; join 0 2 -> BAD; join 2 0 -> BAD; count 1 -> 2");
        edge("16: one part without the right", """
            chain 4 0 FAIR 1
            cut 0 1 -> 0; join 1 3 -> BAD; join 2 1 -> BAD; pointer 1 -> NONE
            """);
        edge("16: none of both has the right", """
            chain 4 0 FAIR 1
            cut 0 1 -> 0; cut 2 3 -> 0; join 1 3 -> BAD; join 3 2 -> BAD; count 5 -> 3; pointer 3 -> NONE
            """);
    }

    private static void joinMarks() {
        String marked = """
            chain 5 0 FAIR 1
            cut 0 1 -> 0
            want 3 0 -> 1; step 3 -> 2; carry
            """;
        edge("16: the end has a mark", marked + "join 3 0 -> MARKS; join 0 3 -> MARKS; pointer 3 -> 2; count 1 -> 3");
        edge("16: one on the way has a mark", marked + """
            join 4 0 -> MARKS; join 0 4 -> MARKS; pointer 4 -> 3; count 5 -> 2
            """);
        edge("16: the last before the station with NONE has a mark", marked + """
            step 2 -> 2; carry; join 2 0 -> MARKS; pointer 2 -> 1
            """);
        edge("16: a mark beside the way does not matter", marked + """
            join 2 0 -> 0; pointer 2 -> 0; pointer 1 -> 2; pointer 3 -> 2; told 3 0 -> 1
            """);
        edge("16: the end is the last one itself, marks are behind it", marked + """
            step 2 -> 2; carry; told 1 3 -> 1; join 1 0 -> 0; pointer 1 -> 0; step 1 -> 2
            """);
        edge("16: marks in the part with the right do not matter", """
            chain 4 0 FAIR 1
            cut 2 3 -> 0; ask 2 0; step 1 -> 2; told 1 0 -> 1; told 2 0 -> 1; join 3 2 -> 0; pointer 3 -> 2
            """);
        edge("16: BAD before MARKS: none of both has the right", marked + """
            cut 1 2 -> 0; join 1 3 -> BAD; join 4 1 -> BAD
            """);
    }
}
