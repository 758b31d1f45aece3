/** Promises 9 to 12: each case that they name has a run of its own. */
public final class PostEdgesTest {
    private static final String[] NO_STATION_OF_THREE = {"-1", "3", "23", "24", "31", "32", "33", "MIN", "MAX"};
    private static final String[] NO_COPY_OF_TWO = {"-1", "2", "3", "59", "60", "61", "MIN", "MAX"};
    private static final String TWO_COPIES = """
        star 3 FAIR 1
        want 1 11 -> 1; step 1 -> 2; want 2 22 -> 1; step 2 -> 2; count 2 -> 2
        """;
    private static final Due due = new Due("edges of promises 9 to 12");

    public static void main(String[] args) {
        deliver();
        lose();
        twin();
        resend();
        due.finish();
    }

    private static void edge(String name, String text) {
        Run.edge(due, name, text);
    }

    private static void deliver() {
        edge("9: 0, it was for one that is down", """
            want 1 0 -> 1; step 1 -> 2; crash 0 -> 0; deliver 0 -> 0; count 2 -> 0
            """);
        edge("9: 1, taken, an ASK and the RIGHT", """
            want 1 0 -> 1; step 1 -> 2; deliver 0 -> 1; deliver 0 -> 3; step 0 -> 1; deliver 0 -> 1; holder -> 1
            """);
        edge("9: 2, a receipt again, however often", """
            want 1 0 -> 1; step 1 -> 2; twin 0 -> 2; twin 0 -> 3; twin 0 -> 4
            deliver 0 -> 1; deliver 0 -> 2; deliver 0 -> 2; deliver 0 -> 2; count 2 -> 4; told 0 3 -> 1
            letter 0 0 -> 2; letter 3 0 -> 2; letter 3 1 -> 0; letter 3 2 -> 1; letter 3 3 -> 0
            """);
        edge("9: 3, a receipt that took a letter out", "want 1 0 -> 1; step 1 -> 2; deliver 0 -> 1; deliver 0 -> 3");
        edge("9: 4, another receipt", """
            want 1 0 -> 1; step 1 -> 2; deliver 0 -> 1; twin 0 -> 2; deliver 0 -> 3; deliver 0 -> 4; count 2 -> 0
            """);
        edge("9: 0, a receipt that would take nothing out, for one that is down", """
            want 1 0 -> 1; step 1 -> 2; deliver 0 -> 1; twin 0 -> 2; deliver 0 -> 3; crash 1 -> 0; deliver 0 -> 0
            """);
        edge("9: the first, the middle and the last copy", """
            star 4 FAIR 1
            want 1 0 -> 1; step 1 -> 2; want 2 0 -> 1; step 2 -> 2; want 3 0 -> 1; step 3 -> 2
            deliver 1 -> 1; queue 0 0 who -> 2; letter 0 1 -> 1; letter 1 1 -> 3; letter 2 0 -> 2
            deliver 1 -> 1; queue 0 1 who -> 3
            deliver 2 -> 3; told 3 8 -> 0; told 2 8 -> 1
            deliver 0 -> 1; queue 0 2 who -> 1
            """);
        edge("9: an empty pool", "deliver 0 -> BAD; deliver -1 -> BAD");
        Run.edges(due, "9: none such", TWO_COPIES + "deliver W -> BAD; count 2 -> 2", NO_COPY_OF_TWO);
        edge("9: not open, though there was a copy", """
            want 1 0 -> 1; step 1 -> 2; canal 2 -> 0; link 0 1 -> 1; deliver 0 -> BAD; open 0 FAIR 1 -> 0
            deliver 0 -> BAD
            """);
        edge("9: the last of 60", """
            want 1 0 -> 1; step 1 -> 2; fill 60; deliver 60 -> BAD; deliver 59 -> 1; count 2 -> 60
            """);
    }

    private static void lose() {
        edge("10: how many are left", TWO_COPIES + """
            lose 0 -> 1; letter 0 1 -> 2; lose 0 -> 0; count 2 -> 0; told 1 8 -> 1
            """);
        edge("10: the last one", TWO_COPIES + "lose 1 -> 1; letter 0 1 -> 1; letter 0 4 -> 11");
        edge("10: a receipt", "want 1 0 -> 1; step 1 -> 2; deliver 0 -> 1; lose 0 -> 0; told 1 8 -> 1; told 0 3 -> 1");
        edge("10: one for a station that is down", "want 1 0 -> 1; step 1 -> 2; crash 0 -> 0; lose 0 -> 0");
        edge("10: an empty pool", """
            lose 0 -> BAD; lose -1 -> BAD; want 1 0 -> 1; step 1 -> 2; lose 0 -> 0; lose 0 -> BAD
            """);
        Run.edges(due, "10: none such", TWO_COPIES + "lose W -> BAD; count 2 -> 2", NO_COPY_OF_TWO);
        edge("10: not open", """
            want 1 0 -> 1; step 1 -> 2; canal 2 -> 0; link 0 1 -> 1; lose 0 -> BAD; open 0 FAIR 1 -> 0; lose 0 -> BAD
            """);
        edge("10: the last of 60", """
            want 1 0 -> 1; step 1 -> 2; fill 60; lose 60 -> BAD; lose 59 -> 59; lose 59 -> BAD
            """);
    }

    private static void twin() {
        edge("11: it comes behind all others, all of it the same", TWO_COPIES + """
            twin 0 -> 3; letter 2 0 -> 0; letter 2 1 -> 1; letter 2 2 -> 0; letter 2 3 -> 0; letter 2 4 -> 11
            twin 1 -> 4; letter 3 1 -> 2; letter 3 4 -> 22; told 1 8 -> 1; told 2 8 -> 1
            """);
        edge("11: a receipt", """
            want 1 9 -> 1; step 1 -> 2; deliver 0 -> 1; twin 0 -> 2
            letter 1 0 -> 2; letter 1 1 -> 0; letter 1 2 -> 1; letter 1 3 -> 0; letter 1 4 -> 0
            """);
        edge("11: the RIGHT, that is still one", """
            ask 1 0; step 0 -> 1; twin 0 -> 2; letter 1 0 -> 1; count 4 -> 0
            deliver 0 -> 1; deliver 0 -> 2; holder -> 1; pointer 0 -> 1
            """);
        edge("11: a twin's twin", TWO_COPIES + "twin 1 -> 3; twin 2 -> 4; letter 3 4 -> 22");
        edge("11: an empty pool", "twin 0 -> BAD; twin -1 -> BAD; count 2 -> 0");
        Run.edges(due, "11: none such", TWO_COPIES + "twin W -> BAD; count 2 -> 2", NO_COPY_OF_TWO);
        edge("11: not open", """
            want 1 0 -> 1; step 1 -> 2; canal 2 -> 0; link 0 1 -> 1; twin 0 -> BAD; open 0 FAIR 1 -> 0; twin 0 -> BAD
            """);
        edge("11: there are 59, then 60", """
            want 1 0 -> 1; step 1 -> 2; fill 59; twin 58 -> 60; twin 0 -> BAD; twin 59 -> BAD; count 2 -> 60
            lose 0 -> 59; twin 0 -> 60
            """);
    }

    private static void resend() {
        edge("12: no letters: how many copies there are", "resend 0 -> 0; want 1 0 -> 1; step 1 -> 2; resend 0 -> 1");
        edge("12: the first letter comes again, the copies under way count too", """
            want 1 7 -> 1; step 1 -> 2; resend 1 -> 2; letter 1 0 -> 0; letter 1 3 -> 0; letter 1 4 -> 7; resend 1 -> 3
            """);
        edge("12: the first letter alone, of two", """
            star 3 FAIR 1
            ask 1 0; ask 2 0; step 0 -> 1; told 0 8 -> 2; resend 0 -> 2; letter 1 0 -> 1; letter 1 3 -> 0
            """);
        edge("12: a letter that was taken, without a receipt", """
            want 1 7 -> 1; step 1 -> 2; deliver 0 -> 1; lose 0 -> 0; resend 1 -> 1; deliver 0 -> 2; deliver 0 -> 3
            resend 1 -> 0
            """);
        edge("12: all outboxes, neighbours in the order of their numbers", TermsEdgesTest.TWO_OUTBOXES + """
            resend 1 -> 2; letter 0 2 -> 0; letter 0 0 -> 1; letter 1 2 -> 2; letter 1 0 -> 0
            resend 1 -> 4; letter 2 2 -> 0; letter 3 2 -> 2
            """);
        edge("12: of this station alone", TWO_COPIES + """
            resend 1 -> 3; letter 2 1 -> 1; resend 2 -> 4; letter 3 1 -> 2
            """);
        Run.edges(due, "12: none such", TWO_COPIES + "resend W -> BAD; count 2 -> 2", NO_STATION_OF_THREE);
        edge("12: not open", """
            want 1 0 -> 1; step 1 -> 2; canal 2 -> 0; link 0 1 -> 1; resend 1 -> BAD; open 0 FAIR 1 -> 0; resend 1 -> 0
            """);
        edge("12: down, and again when it is up", """
            want 1 0 -> 1; step 1 -> 2; crash 1 -> 0; resend 1 -> BAD; count 2 -> 1; restart 1 -> 0; resend 1 -> 2
            """);
        edge("12: the receiver may be down", "want 1 0 -> 1; step 1 -> 2; crash 0 -> 0; resend 1 -> 2");
        edge("12: 60 copies already", "want 1 0 -> 1; step 1 -> 2; fill 60; resend 1 -> 60; resend 0 -> 60");
    }
}
