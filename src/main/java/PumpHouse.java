import java.util.Arrays;

/** One right to pump that wanders over a tree of canals. The document's promises say what each call answers. */
public final class PumpHouse {
    public static final int BAD = -1, NONE = -2, LETTERS = -3, QUEUED = -4, MARKS = -5;

    private static final int FEWEST_STATIONS = 2, MOST_STATIONS = 24;
    private static final int MOST_COPIES = 60;
    // An object serves 512 calls, and no call brings more than two letters.
    private static final int MOST_LETTERS = 1024;
    private static final int MOST_RANK = 1000, MOST_WANTED_RANK = 100;
    private static final int FAIR = 0, GREEDY = 1, RANKED = 2;
    private static final int LEAST_G = 1, MOST_G = 4;
    private static final int ASK = 0, RIGHT = 1, RECEIPT = 2;

    private final Canals canals = new Canals();
    private final Station[] stations = new Station[MOST_STATIONS];
    private final Letters outboxes = new Letters(MOST_LETTERS);
    private final Letters pool = new Letters(MOST_COPIES);
    private final int[][] nextSent = new int[MOST_STATIONS][MOST_STATIONS];
    private final int[][] nextTaken = new int[MOST_STATIONS][MOST_STATIONS];
    private boolean opened;
    private int rule;
    private int greed;
    private int begun;

    public PumpHouse() {
        for (int s = 0; s < MOST_STATIONS; s++) {
            stations[s] = new Station(s);
        }
        canal(2);
        link(0, 1);
        open(0, FAIR, 1);
    }

    public int canal(int n) {
        if (n < FEWEST_STATIONS || n > MOST_STATIONS) {
            return BAD;
        }
        opened = false;
        canals.clear(n);
        return 0;
    }

    public int link(int a, int b) {
        if (opened || !canals.has(a) || !canals.has(b) || contains(canals.partOf(a), b)) {
            return BAD;
        }
        canals.tie(a, b);
        return canals.links;
    }

    public int open(int holder, int rule, int g) {
        if (opened || !canals.has(holder) || canals.parts() > 1) {
            return BAD;
        }
        if (rule < FAIR || rule > RANKED || g < LEAST_G || g > MOST_G) {
            return BAD;
        }
        this.rule = rule;
        greed = g;
        begun = 0;
        outboxes.size = 0;
        pool.size = 0;
        for (int s = 0; s < MOST_STATIONS; s++) {
            stations[s].clear();
            Arrays.fill(nextSent[s], 0);
            Arrays.fill(nextTaken[s], 0);
        }
        pointAllTo(holder);
        opened = true;
        return 0;
    }

    public int want(int s, int rank) {
        if (!isUp(s) || rank < 0 || rank > MOST_WANTED_RANK) {
            return BAD;
        }
        Station it = stations[s];
        if (it.pumps || it.wants()) {
            return BAD;
        }
        it.line.add(s, rank);
        it.everWanted = true;
        it.othersBegan = 0;
        return it.line.length;
    }

    public int begin(int s) {
        if (!isUp(s)) {
            return BAD;
        }
        Station it = stations[s];
        int place = it.firstPlace(rule, greed);
        if (!it.holds() || it.pumps || place == NONE || it.line.who[place] != s) {
            return NONE;
        }
        if (place > 0) {
            it.overtook++;
        }
        it.line.serve(place);
        if (it.line.length > 0) {
            it.row++;
        }
        it.pumps = true;
        begun++;
        tellOthersOfBegin(s);
        return 0;
    }

    public int end(int s) {
        if (!isStation(s) || !stations[s].pumps) {
            return BAD;
        }
        stations[s].stopPumping();
        return stations[s].pumped;
    }

    public int step(int s) {
        if (!isUp(s)) {
            return BAD;
        }
        Station it = stations[s];
        if (canPassOn(it)) {
            passOn(it);
            return 1;
        }
        if (!it.pointsAway() || it.line.length == 0) {
            return 0;
        }
        if (!it.asked) {
            ask(it);
            return 2;
        }
        if (rule == RANKED && it.line.greatestRank() > it.lastAskRank) {
            ask(it);
            return 3;
        }
        return 0;
    }

    public int deliver(int i) {
        if (!isCopy(i)) {
            return BAD;
        }
        int kind = pool.kinds[i];
        int from = pool.senders[i];
        int to = pool.receivers[i];
        int number = pool.numbers[i];
        int rank = pool.ranks[i];
        pool.remove(i);
        if (stations[to].down) {
            return 0;
        }
        if (kind == RECEIPT) {
            return takeOut(to, from, number) ? 3 : 4;
        }
        boolean isNext = number == nextTaken[from][to];
        if (isNext) {
            nextTaken[from][to]++;
            read(kind, from, to, rank);
        }
        pool.add(RECEIPT, to, from, number, 0);
        return isNext ? 1 : 2;
    }

    public int lose(int i) {
        if (!isCopy(i)) {
            return BAD;
        }
        pool.remove(i);
        return pool.size;
    }

    public int twin(int i) {
        if (!isCopy(i) || pool.size == MOST_COPIES) {
            return BAD;
        }
        pool.addCopy(pool, i);
        return pool.size;
    }

    public int resend(int s) {
        if (!isUp(s)) {
            return BAD;
        }
        for (int t = 0; t < canals.stations; t++) {
            copyFirst(s, t);
        }
        return pool.size;
    }

    public int crash(int s) {
        if (!isUp(s)) {
            return BAD;
        }
        Station it = stations[s];
        if (it.pumps) {
            it.stopPumping();
        }
        it.down = true;
        return 0;
    }

    public int restart(int s) {
        if (!isStation(s) || !stations[s].down) {
            return BAD;
        }
        stations[s].down = false;
        return 0;
    }

    public int cut(int a, int b) {
        if (!isStation(a) || !isStation(b) || !canals.linked(a, b)) {
            return BAD;
        }
        if (outboxes.hasBetween(a, b) || pool.hasBetween(a, b)) {
            return LETTERS;
        }
        if (stations[a].line.placeOf(b) != NONE || stations[b].line.placeOf(a) != NONE) {
            return QUEUED;
        }
        canals.untie(a, b);
        stations[a].forget(b);
        stations[b].forget(a);
        return 0;
    }

    public int join(int a, int b) {
        if (!isStation(a) || !isStation(b)) {
            return BAD;
        }
        int partOfA = canals.partOf(a);
        int right = placeOfRight();
        if (contains(partOfA, b) || right == NONE) {
            return BAD;
        }
        if (contains(partOfA, right)) {
            return hang(b, a);
        }
        if (contains(canals.partOf(b), right)) {
            return hang(a, b);
        }
        return BAD;
    }

    public int holder() {
        return opened ? whoHolds() : BAD;
    }

    public int pointer(int s) {
        return isStation(s) ? stations[s].pointer : BAD;
    }

    public int queue(int s, int i, boolean rank) {
        if (!isStation(s) || i < 0 || i >= stations[s].line.length) {
            return BAD;
        }
        return rank ? stations[s].line.ranks[i] : stations[s].line.who[i];
    }

    public int letter(int i, int which) {
        if (!isCopy(i)) {
            return BAD;
        }
        switch (which) {
            case 0: return pool.kinds[i];
            case 1: return pool.senders[i];
            case 2: return pool.receivers[i];
            case 3: return pool.numbers[i];
            case 4: return pool.ranks[i];
            default: return BAD;
        }
    }

    public int told(int s, int which) {
        if (!isStation(s)) {
            return BAD;
        }
        Station it = stations[s];
        switch (which) {
            case 0: return it.asked ? 1 : 0;
            case 1: return it.pumps ? 1 : 0;
            case 2: return it.down ? 1 : 0;
            case 3: return it.line.length;
            case 4: return it.row;
            case 5: return it.pumped;
            case 6: return it.othersBegan;
            case 7: return it.overtook;
            case 8: return outboxes.sentBy(s);
            case 9: return canals.neighboursOf(s);
            default: return BAD;
        }
    }

    public int count(int which) {
        switch (which) {
            case 0: return canals.stations;
            case 1: return canals.links;
            case 2: return opened ? pool.size : BAD;
            case 3: return opened ? whoPumps() : BAD;
            case 4: return opened ? placeOfRight() : BAD;
            case 5: return canals.parts();
            case 6: return opened ? begun : BAD;
            default: return BAD;
        }
    }

    private boolean isStation(int s) {
        return opened && canals.has(s);
    }

    private boolean isUp(int s) {
        return isStation(s) && !stations[s].down;
    }

    private boolean isCopy(int i) {
        return opened && i >= 0 && i < pool.size;
    }

    private static boolean contains(int set, int s) {
        return (set & 1 << s) != 0;
    }

    private void pointAllTo(int holder) {
        stations[holder].pointer = holder;
        // One round goes one link further at least, so as many rounds as stations reach them all.
        for (int round = 0; round < canals.stations; round++) {
            for (int s = 0; s < canals.stations; s++) {
                if (stations[s].pointer != NONE) {
                    pointNeighboursTo(s);
                }
            }
        }
    }

    private void pointNeighboursTo(int s) {
        for (int t = 0; t < canals.stations; t++) {
            if (canals.linked(s, t) && stations[t].pointer == NONE) {
                stations[t].pointer = s;
            }
        }
    }

    private void tellOthersOfBegin(int s) {
        for (int t = 0; t < canals.stations; t++) {
            // One that never wanted has no moment since when begins could be counted.
            if (t != s && stations[t].everWanted) {
                stations[t].othersBegan++;
            }
        }
    }

    private boolean canPassOn(Station it) {
        int place = it.firstPlace(rule, greed);
        return it.holds() && !it.pumps && place != NONE && it.line.who[place] != it.self;
    }

    private void passOn(Station it) {
        int place = it.firstPlace(rule, greed);
        it.pointer = it.line.who[place];
        it.line.serve(place);
        it.row = 0;
        send(RIGHT, it.self, it.pointer, 0);
        if (it.line.length > 0) {
            ask(it);
        }
    }

    private void ask(Station it) {
        it.lastAskRank = it.line.greatestRank();
        it.asked = true;
        send(ASK, it.self, it.pointer, it.lastAskRank);
    }

    private void send(int kind, int from, int to, int rank) {
        boolean becomesFirst = outboxes.firstBetween(from, to) == NONE;
        outboxes.add(kind, from, to, nextSent[from][to], rank);
        nextSent[from][to]++;
        if (becomesFirst) {
            copyFirst(from, to);
        }
    }

    private void copyFirst(int from, int to) {
        int first = outboxes.firstBetween(from, to);
        if (first != NONE) {
            pool.addCopy(outboxes, first);
        }
    }

    private boolean takeOut(int from, int to, int number) {
        int first = outboxes.firstBetween(from, to);
        if (first == NONE || outboxes.numbers[first] != number) {
            return false;
        }
        outboxes.remove(first);
        copyFirst(from, to);
        return true;
    }

    private void read(int kind, int from, int to, int rank) {
        if (kind == ASK) {
            stations[to].line.admit(from, rank);
        } else {
            stations[to].pointer = to;
            stations[to].asked = false;
        }
    }

    private int hang(int end, int neighbour) {
        if (hasMarkFrom(end)) {
            return MARKS;
        }
        turnPointers(end, neighbour);
        canals.tie(end, neighbour);
        nextSent[end][neighbour] = 0;
        nextSent[neighbour][end] = 0;
        nextTaken[end][neighbour] = 0;
        nextTaken[neighbour][end] = 0;
        return 0;
    }

    private boolean hasMarkFrom(int end) {
        int at = end;
        for (int walked = 0; walked < canals.stations && stations[at].pointsAway(); walked++) {
            if (stations[at].asked) {
                return true;
            }
            at = stations[at].pointer;
        }
        return false;
    }

    private void turnPointers(int end, int neighbour) {
        int at = end;
        int before = neighbour;
        for (int walked = 0; walked < canals.stations && at != NONE; walked++) {
            int after = stations[at].pointer;
            stations[at].pointer = before;
            before = at;
            at = after;
        }
    }

    private int whoHolds() {
        for (int s = 0; s < canals.stations; s++) {
            if (stations[s].holds()) {
                return s;
            }
        }
        return NONE;
    }

    private int whoPumps() {
        for (int s = 0; s < canals.stations; s++) {
            if (stations[s].pumps) {
                return s;
            }
        }
        return NONE;
    }

    private int placeOfRight() {
        int s = whoHolds();
        for (int i = 0; i < outboxes.size && s == NONE; i++) {
            int from = outboxes.senders[i];
            // A RIGHT that was taken stays in its outbox until its receipt comes: it is the right no more.
            if (outboxes.kinds[i] == RIGHT && outboxes.numbers[i] >= nextTaken[from][outboxes.receivers[i]]) {
                s = from;
            }
        }
        return s;
    }

    /** Which stations there are and which links; sets of stations are bits of an int. */
    private static final class Canals {
        final int[] neighbours = new int[MOST_STATIONS];
        int stations;
        int links;

        void clear(int n) {
            Arrays.fill(neighbours, 0);
            stations = n;
            links = 0;
        }

        boolean has(int s) {
            return s >= 0 && s < stations;
        }

        boolean linked(int a, int b) {
            return contains(neighbours[a], b);
        }

        int neighboursOf(int s) {
            return Integer.bitCount(neighbours[s]);
        }

        void tie(int a, int b) {
            neighbours[a] |= 1 << b;
            neighbours[b] |= 1 << a;
            links++;
        }

        void untie(int a, int b) {
            neighbours[a] &= ~(1 << b);
            neighbours[b] &= ~(1 << a);
            links--;
        }

        int partOf(int s) {
            int part = 1 << s;
            for (int round = 1; round < stations; round++) {
                for (int t = 0; t < stations; t++) {
                    if (contains(part, t)) {
                        part |= neighbours[t];
                    }
                }
            }
            return part;
        }

        int parts() {
            // No link ever joins two of one part, so each one makes one part less.
            return stations - links;
        }
    }

    /** A station's queue, in the order of coming. */
    private static final class Line {
        final int[] who = new int[MOST_STATIONS];
        final int[] ranks = new int[MOST_STATIONS];
        int length;

        int placeOf(int s) {
            for (int i = 0; i < length; i++) {
                if (who[i] == s) {
                    return i;
                }
            }
            return NONE;
        }

        void add(int s, int rank) {
            if (length == MOST_STATIONS) {
                return;
            }
            who[length] = s;
            ranks[length] = rank;
            length++;
        }

        void admit(int s, int rank) {
            int place = placeOf(s);
            if (place == NONE) {
                add(s, rank);
            } else {
                ranks[place] = Math.max(ranks[place], rank);
            }
        }

        /** One goes out, and whoever was passed over gains a rank. */
        void serve(int place) {
            closeGap(who, place, length);
            closeGap(ranks, place, length);
            length--;
            for (int i = 0; i < length; i++) {
                ranks[i] = Math.min(ranks[i] + 1, MOST_RANK);
            }
        }

        int greatestPlace() {
            int best = 0;
            for (int i = 1; i < length; i++) {
                if (ranks[i] > ranks[best]) {
                    best = i;
                }
            }
            return best;
        }

        int greatestRank() {
            return ranks[greatestPlace()];
        }
    }

    private static final class Station {
        final int self;
        final Line line = new Line();
        int pointer;
        boolean asked;
        int lastAskRank;
        boolean pumps;
        boolean down;
        int row;
        int pumped;
        boolean everWanted;
        int othersBegan;
        int overtook;

        Station(int self) {
            this.self = self;
        }

        void clear() {
            line.length = 0;
            pointer = NONE;
            asked = false;
            lastAskRank = 0;
            pumps = false;
            down = false;
            row = 0;
            pumped = 0;
            everWanted = false;
            othersBegan = 0;
            overtook = 0;
        }

        boolean holds() {
            return pointer == self;
        }

        boolean pointsAway() {
            return pointer != self && pointer != NONE;
        }

        boolean wants() {
            return line.placeOf(self) != NONE;
        }

        void stopPumping() {
            pumps = false;
            pumped++;
        }

        void forget(int neighbour) {
            if (pointer == neighbour) {
                pointer = NONE;
            }
        }

        int firstPlace(int rule, int greed) {
            if (line.length == 0) {
                return NONE;
            }
            if (rule == GREEDY) {
                return greedyPlace(greed);
            }
            return rule == RANKED ? line.greatestPlace() : 0;
        }

        private int greedyPlace(int greed) {
            int own = line.placeOf(self);
            if (own != NONE && (row < greed || line.length == 1)) {
                return own;
            }
            return own == 0 ? 1 : 0;
        }
    }

    /** Letters in the order of their coming: those in all outboxes, or the copies in the pool. */
    private static final class Letters {
        final int[] kinds;
        final int[] senders;
        final int[] receivers;
        final int[] numbers;
        final int[] ranks;
        int size;

        Letters(int most) {
            kinds = new int[most];
            senders = new int[most];
            receivers = new int[most];
            numbers = new int[most];
            ranks = new int[most];
        }

        void add(int kind, int from, int to, int number, int rank) {
            if (size == kinds.length) {
                return;
            }
            kinds[size] = kind;
            senders[size] = from;
            receivers[size] = to;
            numbers[size] = number;
            ranks[size] = rank;
            size++;
        }

        void addCopy(Letters source, int i) {
            add(source.kinds[i], source.senders[i], source.receivers[i], source.numbers[i], source.ranks[i]);
        }

        void remove(int i) {
            closeGap(kinds, i, size);
            closeGap(senders, i, size);
            closeGap(receivers, i, size);
            closeGap(numbers, i, size);
            closeGap(ranks, i, size);
            size--;
        }

        int firstBetween(int from, int to) {
            for (int i = 0; i < size; i++) {
                if (senders[i] == from && receivers[i] == to) {
                    return i;
                }
            }
            return NONE;
        }

        boolean hasBetween(int a, int b) {
            return firstBetween(a, b) != NONE || firstBetween(b, a) != NONE;
        }

        int sentBy(int s) {
            int letters = 0;
            for (int i = 0; i < size; i++) {
                if (senders[i] == s) {
                    letters++;
                }
            }
            return letters;
        }
    }

    private static void closeGap(int[] row, int gap, int length) {
        System.arraycopy(row, gap + 1, row, gap, length - gap - 1);
    }
}
