/** Counts the answers that are not the ones due, and prints each of them. */
final class Due {
    private final String part;
    private int asked;
    private int wrong;

    Due(String part) {
        this.part = part;
    }

    void is(String call, long got, long want) {
        asked++;
        if (got != want) {
            wrong++;
            System.out.println(part + ": " + call + " answered " + got + ", due is " + want);
        }
    }

    void holds(String what, boolean so) {
        asked++;
        if (!so) {
            wrong++;
            System.out.println(part + ": it does not hold that " + what);
        }
    }

    void finish() {
        System.out.println(part + ": " + asked + " looked at, " + wrong + " wrong");
        if (wrong != 0) {
            System.exit(1);
        }
    }
}
