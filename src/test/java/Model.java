import java.util.ArrayDeque;
import java.util.ArrayList;
import java.util.HashSet;
import java.util.LinkedHashMap;
import java.util.List;
import java.util.Map;
import java.util.Set;
import java.util.TreeMap;

/** The document once more, written in another way and with the whole library, to be compared with PumpHouse. */
final class Model {
    private static final int BAD = -1, NONE = -2, LETTERS = -3, QUEUED = -4, MARKS = -5;

    private record Copy(int kind, int from, int to, int number, int rank) { }

    private static final class Way {
        final ArrayDeque<Copy> outbox = new ArrayDeque<>();
        int sent;
        int taken;
    }

    private static final class Post {
        int pointer = NONE;
        boolean asked, pumps, down;
        int row, pumped, overtook, lastAsk;
        int othersBegan = 0;
        boolean everWanted;
        final LinkedHashMap<Integer, Integer> queue = new LinkedHashMap<>();
        final TreeMap<Integer, Way> ways = new TreeMap<>();
    }

    private final List<Post> posts = new ArrayList<>();
    private final List<Copy> pool = new ArrayList<>();
    private boolean open;
    private int rule, g, begun, links;

    Model() {
        canal(2);
        link(0, 1);
        open(0, 0, 1);
    }

    int canal(int n) {
        if (n < 2 || n > 24) return BAD;
        posts.clear();
        for (int i = 0; i < n; i++) posts.add(new Post());
        open = false;
        links = 0;
        return 0;
    }

    private boolean there(int s) {
        return s >= 0 && s < posts.size();
    }

    private boolean live(int s) {
        return open && there(s);
    }

    private boolean up(int s) {
        return live(s) && !posts.get(s).down;
    }

    private Set<Integer> part(int s) {
        Set<Integer> seen = new HashSet<>();
        ArrayDeque<Integer> todo = new ArrayDeque<>(List.of(s));
        while (!todo.isEmpty()) {
            int t = todo.pop();
            if (seen.add(t)) todo.addAll(posts.get(t).ways.keySet());
        }
        return seen;
    }

    private int parts() {
        Set<Set<Integer>> all = new HashSet<>();
        for (int s = 0; s < posts.size(); s++) all.add(part(s));
        return all.size();
    }

    private void connect(int a, int b) {
        posts.get(a).ways.put(b, new Way());
        posts.get(b).ways.put(a, new Way());
        links++;
    }

    int link(int a, int b) {
        if (open || !there(a) || !there(b) || part(a).contains(b)) return BAD;
        connect(a, b);
        return links;
    }

    int open(int holder, int rule, int g) {
        if (open || !there(holder) || rule < 0 || rule > 2 || g < 1 || g > 4 || parts() != 1) return BAD;
        this.rule = rule;
        this.g = g;
        begun = 0;
        pool.clear();
        lead(holder, holder);
        open = true;
        return 0;
    }

    private void lead(int s, int to) {
        posts.get(s).pointer = to;
        for (int t : posts.get(s).ways.keySet()) if (t != to) lead(t, s);
    }

    int want(int s, int rank) {
        if (!up(s) || rank < 0 || rank > 100) return BAD;
        Post p = posts.get(s);
        if (p.pumps || p.queue.containsKey(s)) return BAD;
        p.queue.put(s, rank);
        p.everWanted = true;
        p.othersBegan = 0;
        return p.queue.size();
    }

    private int first(int s) {
        Post p = posts.get(s);
        List<Integer> order = new ArrayList<>(p.queue.keySet());
        if (order.isEmpty()) return NONE;
        if (rule == 0) return order.get(0);
        if (rule == 1) {
            boolean others = order.size() > (order.contains(s) ? 1 : 0);
            if (order.contains(s) && (p.row < g || !others)) return s;
            order.remove(Integer.valueOf(s));
            return order.get(0);
        }
        int best = order.get(0);
        for (int t : order) if (p.queue.get(t) > p.queue.get(best)) best = t;
        return best;
    }

    private void outOfQueue(int s, int who) {
        Post p = posts.get(s);
        p.queue.remove(who);
        p.queue.replaceAll((t, rank) -> Math.min(1000, rank + 1));
    }

    int begin(int s) {
        if (!up(s)) return BAD;
        Post p = posts.get(s);
        if (p.pointer != s || p.pumps || first(s) != s) return NONE;
        if (p.queue.keySet().iterator().next() != s) p.overtook++;
        outOfQueue(s, s);
        if (!p.queue.isEmpty()) p.row++;
        p.pumps = true;
        begun++;
        for (Post q : posts) if (q != p && q.everWanted) q.othersBegan++;
        return 0;
    }

    int end(int s) {
        if (!live(s) || !posts.get(s).pumps) return BAD;
        posts.get(s).pumps = false;
        return ++posts.get(s).pumped;
    }

    private void toPool(Copy c) {
        if (pool.size() < 60) pool.add(c);
    }

    private void post(int kind, int from, int to, int rank) {
        Way way = posts.get(from).ways.get(to);
        Copy c = new Copy(kind, from, to, way.sent++, rank);
        if (way.outbox.isEmpty()) toPool(c);
        way.outbox.add(c);
    }

    private int greatest(Post p) {
        return p.queue.values().stream().max(Integer::compare).orElse(-1);
    }

    private void ask(int s) {
        Post p = posts.get(s);
        p.lastAsk = greatest(p);
        p.asked = true;
        post(0, s, p.pointer, p.lastAsk);
    }

    int step(int s) {
        if (!up(s)) return BAD;
        Post p = posts.get(s);
        int first = first(s);
        if (p.pointer == s && !p.pumps && first != NONE && first != s) {
            outOfQueue(s, first);
            p.row = 0;
            p.pointer = first;
            post(1, s, first, 0);
            if (!p.queue.isEmpty()) ask(s);
            return 1;
        }
        boolean away = p.ways.containsKey(p.pointer);
        if (away && !p.asked && !p.queue.isEmpty()) {
            ask(s);
            return 2;
        }
        if (rule == 2 && away && p.asked && greatest(p) > p.lastAsk) {
            ask(s);
            return 3;
        }
        return 0;
    }

    private boolean copy(int i) {
        return open && i >= 0 && i < pool.size();
    }

    int deliver(int i) {
        if (!copy(i)) return BAD;
        Copy c = pool.remove(i);
        Post to = posts.get(c.to);
        if (to.down) return 0;
        if (c.kind == 2) {
            ArrayDeque<Copy> outbox = to.ways.get(c.from).outbox;
            if (outbox.isEmpty() || outbox.peek().number != c.number) return 4;
            outbox.remove();
            if (!outbox.isEmpty()) toPool(outbox.peek());
            return 3;
        }
        Way way = posts.get(c.from).ways.get(c.to);
        if (c.number > way.taken) throw new IllegalStateException("a letter before its time");
        boolean next = c.number == way.taken;
        if (next) {
            way.taken++;
            if (c.kind == 0) {
                to.queue.merge(c.from, c.rank, Math::max);
            } else {
                to.pointer = c.to;
                to.asked = false;
            }
        }
        toPool(new Copy(2, c.to, c.from, c.number, 0));
        return next ? 1 : 2;
    }

    int lose(int i) {
        if (!copy(i)) return BAD;
        pool.remove(i);
        return pool.size();
    }

    int twin(int i) {
        if (!copy(i) || pool.size() >= 60) return BAD;
        pool.add(pool.get(i));
        return pool.size();
    }

    int resend(int s) {
        if (!up(s)) return BAD;
        for (Way way : posts.get(s).ways.values()) if (!way.outbox.isEmpty()) toPool(way.outbox.peek());
        return pool.size();
    }

    int crash(int s) {
        if (!up(s)) return BAD;
        end(s);
        posts.get(s).down = true;
        return 0;
    }

    int restart(int s) {
        if (!live(s) || !posts.get(s).down) return BAD;
        posts.get(s).down = false;
        return 0;
    }

    int cut(int a, int b) {
        if (!live(a) || !live(b) || !posts.get(a).ways.containsKey(b)) return BAD;
        Post p = posts.get(a), q = posts.get(b);
        boolean letters = !p.ways.get(b).outbox.isEmpty() || !q.ways.get(a).outbox.isEmpty();
        for (Copy c : pool) letters |= c.from == a && c.to == b || c.from == b && c.to == a;
        if (letters) return LETTERS;
        if (p.queue.containsKey(b) || q.queue.containsKey(a)) return QUEUED;
        p.ways.remove(b);
        q.ways.remove(a);
        links--;
        if (p.pointer == b) p.pointer = NONE;
        if (q.pointer == a) q.pointer = NONE;
        return 0;
    }

    int join(int a, int b) {
        if (!live(a) || !live(b) || part(a).contains(b)) return BAD;
        if (part(a).contains(where())) return join(b, a, path(b));
        if (part(b).contains(where())) return join(a, b, path(a));
        return BAD;
    }

    private List<Integer> path(int s) {
        List<Integer> path = new ArrayList<>();
        for (int t = s; t != NONE; t = posts.get(t).pointer) path.add(t);
        return path;
    }

    private int join(int end, int neighbour, List<Integer> path) {
        for (int t : path.subList(0, path.size() - 1)) if (posts.get(t).asked) return MARKS;
        for (int i = path.size() - 1; i > 0; i--) posts.get(path.get(i)).pointer = path.get(i - 1);
        posts.get(end).pointer = neighbour;
        connect(end, neighbour);
        return 0;
    }

    int holder() {
        if (!open) return BAD;
        int found = NONE;
        for (int s = 0; s < posts.size(); s++) {
            if (posts.get(s).pointer != s) continue;
            if (found != NONE) throw new IllegalStateException("two hold the right");
            found = s;
        }
        return found;
    }

    private int where() {
        int found = holder();
        for (int s = 0; s < posts.size(); s++) {
            for (Map.Entry<Integer, Way> e : posts.get(s).ways.entrySet()) {
                for (Copy c : e.getValue().outbox) {
                    if (c.kind != 1 || c.number < e.getValue().taken) continue;
                    if (found != NONE) throw new IllegalStateException("the right is in two places");
                    found = s;
                }
            }
        }
        if (found == NONE) throw new IllegalStateException("the right is nowhere");
        return found;
    }

    int pointer(int s) {
        return live(s) ? posts.get(s).pointer : BAD;
    }

    int queue(int s, int i, boolean rank) {
        if (!live(s) || i < 0 || i >= posts.get(s).queue.size()) return BAD;
        int who = new ArrayList<>(posts.get(s).queue.keySet()).get(i);
        return rank ? posts.get(s).queue.get(who) : who;
    }

    int letter(int i, int which) {
        if (!copy(i) || which < 0 || which > 4) return BAD;
        Copy c = pool.get(i);
        return new int[] {c.kind, c.from, c.to, c.number, c.rank}[which];
    }

    int told(int s, int which) {
        if (!live(s) || which < 0 || which > 9) return BAD;
        Post p = posts.get(s);
        int letters = p.ways.values().stream().mapToInt(way -> way.outbox.size()).sum();
        return new int[] {p.asked ? 1 : 0, p.pumps ? 1 : 0, p.down ? 1 : 0, p.queue.size(), p.row, p.pumped,
            p.othersBegan, p.overtook, letters, p.ways.size()}[which];
    }

    int count(int which) {
        if (which == 0) return posts.size();
        if (which == 1) return links;
        if (which == 5) return parts();
        if (!open || which < 0 || which > 6) return BAD;
        if (which == 2) return pool.size();
        if (which == 4) return where();
        if (which == 6) return begun;
        for (int s = 0; s < posts.size(); s++) if (posts.get(s).pumps) return s;
        return NONE;
    }
}
