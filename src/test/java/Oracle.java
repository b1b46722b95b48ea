import java.util.ArrayDeque;
import java.util.ArrayList;
import java.util.Arrays;
import java.util.HashMap;
import java.util.HashSet;
import java.util.List;
import java.util.Map;
import java.util.NoSuchElementException;
import java.util.Set;

/** The document once more, told as plainly as can be and without any table: how loads lie is a list of numbers. */
final class Oracle {
    static final int NONE = -1;

    /** What a law says of here, there, price, all. */
    interface Expr {
        int value(int here, int there, int price, int all);
    }

    record Path(int a, int b, int takes) { }

    record Line(String step, int hut, int other) { }

    record Seen(int hut, int loads, boolean more) { }

    record Now(List<Integer> lying, int carried) { }

    record Mark(Now now, List<Seen> seen) { }

    record Step(int from, int to, List<Integer> lying) { }

    List<Integer> kinds = new ArrayList<>();
    List<Integer> told = new ArrayList<>();
    List<Path> paths = new ArrayList<>();
    Expr law = (here, there, price, all) -> 0;
    List<Line> trip = new ArrayList<>();
    Now now = new Now(new ArrayList<>(), 0);
    ArrayDeque<Now> past = new ArrayDeque<>();
    List<Seen> seen = new ArrayList<>();
    Mark[] marks = new Mark[4];

    void take(List<Integer> kinds, List<Integer> told, List<Path> paths, Expr law) {
        this.kinds = kinds;
        this.told = told;
        this.paths = paths;
        this.law = law;
        trip = new ArrayList<>();
        now = new Now(told, 0);
        past.clear();
        seen = new ArrayList<>();
        marks = new Mark[4];
        comes.clear();
    }

    int n() {
        return kinds.size();
    }

    boolean isHut(int h) {
        return h >= 0 && h < n();
    }

    static int sum(List<Integer> lying) {
        int s = 0;
        for (int l : lying) {
            s += l;
        }
        return s;
    }

    int price(int a, int b) {
        for (Path p : paths) {
            if (p.a == a && p.b == b || p.a == b && p.b == a) {
                int price = p.takes;
                if (kinds.get(a) == 1) {
                    price = price == 2 ? 2 : price - 1;
                }
                return kinds.get(b) == 2 ? price + 1 : price;
            }
        }
        return NONE;
    }

    boolean full(List<Integer> lying, int h) {
        return kinds.get(h) == 3 && lying.get(h) == 3;
    }

    List<Integer> carried(List<Integer> lying, int a, int b) {
        int price = price(a, b);
        if (price == NONE || lying.get(a) < price || full(lying, b)) {
            return null;
        }
        if (law.value(lying.get(a), lying.get(b), price, sum(lying)) != 0) {
            return null;
        }
        return plus(plus(lying, a, -price), b, 1);
    }

    static List<Integer> plus(List<Integer> lying, int h, int many) {
        List<Integer> next = new ArrayList<>(lying);
        next.set(h, next.get(h) + many);
        return next;
    }

    List<Integer> laid(List<Integer> lying, int h) {
        return full(lying, h) || sum(lying) >= 12 ? null : plus(lying, h, 1);
    }

    List<Integer> eaten(List<Integer> lying, int h) {
        return lying.get(h) == 0 ? null : plus(lying, h, -1);
    }

    List<Step> steps(List<Integer> lying) {
        List<Step> all = new ArrayList<>();
        for (int a = 0; a < n(); a++) {
            for (int b = 0; b < n(); b++) {
                List<Integer> next = carried(lying, a, b);
                if (next != null) {
                    all.add(new Step(a, b, next));
                }
            }
        }
        return all;
    }

    /** Each way to lie that is come to, with the fewest carryings. */
    Map<List<Integer>, Integer> walk(List<Integer> start) {
        Map<List<Integer>, Integer> far = new HashMap<>();
        far.put(start, 0);
        ArrayDeque<List<Integer>> open = new ArrayDeque<>();
        open.add(start);
        while (!open.isEmpty()) {
            List<Integer> lying = open.remove();
            for (Step s : steps(lying)) {
                if (!far.containsKey(s.lying)) {
                    far.put(s.lying, far.get(lying) + 1);
                    open.add(s.lying);
                }
            }
        }
        return far;
    }

    interface Wanted {
        boolean is(List<Integer> lying);
    }

    int fewest(List<Integer> start, Wanted wanted) {
        int found = NONE;
        for (Map.Entry<List<Integer>, Integer> e : walk(start).entrySet()) {
            if (wanted.is(e.getKey()) && (found == NONE || e.getValue() < found)) {
                found = e.getValue();
            }
        }
        return found;
    }

    int leastOf(List<Integer> lying, int h) {
        return fewest(lying, l -> l.get(h) > 0);
    }

    int mostOf(List<Integer> lying, int h) {
        int most = 0;
        for (List<Integer> l : walk(lying).keySet()) {
            most = Math.max(most, l.get(h));
        }
        return most;
    }

    private final Map<List<Integer>, Integer> comes = new HashMap<>();

    boolean comesTo(List<Integer> lying, int h) {
        return (comesBits(lying) >> h & 1) != 0;
    }

    private int comesBits(List<Integer> lying) {
        Integer old = comes.get(lying);
        if (old != null) {
            return old;
        }
        int bits = bits(lying);
        for (Step s : steps(lying)) {
            bits |= comesBits(s.lying);
        }
        comes.put(lying, bits);
        return bits;
    }

    /** All ways to lay so many loads, the least first by the loads of hut 0, then 1, .. */
    List<List<Integer>> layingsOf(int sum) {
        List<List<Integer>> all = new ArrayList<>();
        addLayings(all, new ArrayList<>(), sum);
        return all;
    }

    private void addLayings(List<List<Integer>> all, List<Integer> begun, int rest) {
        if (begun.size() == n()) {
            if (rest == 0) {
                all.add(new ArrayList<>(begun));
            }
            return;
        }
        int room = kinds.get(begun.size()) == 3 ? 3 : 12;
        for (int l = 0; l <= Math.min(room, rest); l++) {
            begun.add(l);
            addLayings(all, begun, rest - l);
            begun.remove(begun.size() - 1);
        }
    }

    int hut(int h, int what) {
        if (!isHut(h)) {
            return NONE;
        }
        int bits = 0;
        for (int j = 0; j < n(); j++) {
            bits |= price(h, j) == NONE ? 0 : 1 << j;
        }
        return what == 0 ? kinds.get(h) : what == 1 ? now.lying.get(h) : what == 2 ? bits
            : what == 3 ? (full(now.lying, h) ? 1 : 0) : NONE;
    }

    int priceAsked(int a, int b) {
        return isHut(a) && isHut(b) ? price(a, b) : NONE;
    }

    boolean can(int a, int b) {
        return isHut(a) && isHut(b) && carried(now.lying, a, b) != null;
    }

    private void turn(Now next) {
        past.addLast(now);
        if (past.size() > 16) {
            past.removeFirst();
        }
        now = next;
    }

    int carry(int a, int b) {
        if (!can(a, b)) {
            return NONE;
        }
        turn(new Now(carried(now.lying, a, b), now.carried + 1));
        return price(a, b);
    }

    int lay(int h) {
        List<Integer> next = isHut(h) ? laid(now.lying, h) : null;
        if (next == null) {
            return NONE;
        }
        turn(new Now(next, now.carried));
        return next.get(h);
    }

    int eat(int h) {
        List<Integer> next = isHut(h) ? eaten(now.lying, h) : null;
        if (next == null) {
            return NONE;
        }
        turn(new Now(next, now.carried));
        return next.get(h);
    }

    boolean undo() {
        if (past.isEmpty()) {
            return false;
        }
        now = past.removeLast();
        return true;
    }

    int judged(int what) {
        List<Integer> lying = told;
        int wrong = NONE;
        int covered = NONE;
        for (int i = 0; i < trip.size(); i++) {
            Line l = trip.get(i);
            List<Integer> next = l.step.equals("carry") ? carried(lying, l.hut, l.other)
                : l.step.equals("lay") ? laid(lying, l.hut) : eaten(lying, l.hut);
            if (next == null && wrong == NONE) {
                wrong = i;
            }
            lying = next == null ? lying : next;
            if (covered == NONE && !lying.contains(0)) {
                covered = i;
            }
        }
        return what == 0 ? wrong : what == 1 ? covered : what == 2 ? sum(lying) : -2;
    }

    int most(int h) {
        return isHut(h) ? mostOf(now.lying, h) : NONE;
    }

    int least(int h) {
        return isHut(h) ? leastOf(now.lying, h) : NONE;
    }

    /** All rows of so many carryings behind which a load lies in the hut, in their order, 300000 at most. */
    private void rows(List<Integer> lying, int h, int length, List<Integer> begun, List<List<Integer>> all) {
        if (length == 0) {
            if (lying.get(h) > 0) {
                all.add(new ArrayList<>(begun));
            }
            return;
        }
        for (Step s : steps(lying)) {
            if (all.size() < 300000) {
                begun.add(8 * s.from + s.to);
                rows(s.lying, h, length - 1, begun, all);
                begun.remove(begun.size() - 1);
            }
        }
    }

    List<List<Integer>> rows(int h) {
        List<List<Integer>> all = new ArrayList<>();
        int least = leastOf(now.lying, h);
        if (least != NONE) {
            rows(now.lying, h, least, new ArrayList<>(), all);
        }
        return all;
    }

    int row(int h, int i) {
        List<List<Integer>> all = isHut(h) ? rows(h) : List.of();
        return all.isEmpty() || i < 0 || i >= all.get(0).size() ? NONE : all.get(0).get(i);
    }

    int ways(int h) {
        return isHut(h) ? rows(h).size() : NONE;
    }

    int over(int h) {
        int most = NONE;
        if (isHut(h)) {
            for (List<Integer> l : walk(now.lying).keySet()) {
                most = l.get(h) > 0 ? Math.max(most, sum(l)) : most;
            }
        }
        return most;
    }

    int cover() {
        return fewest(now.lying, l -> !l.contains(0));
    }

    int both(int a, int b) {
        return isHut(a) && isHut(b) && a != b ? fewest(now.lying, l -> l.get(a) > 0 && l.get(b) > 0) : NONE;
    }

    int shrink(int loads) {
        return loads < 0 || loads > 12 ? NONE : fewest(now.lying, l -> sum(l) == loads);
    }

    boolean stuck() {
        return steps(now.lying).isEmpty();
    }

    int longest() {
        return longest(now.lying, new HashMap<>());
    }

    private int longest(List<Integer> lying, Map<List<Integer>, Integer> known) {
        Integer old = known.get(lying);
        if (old != null) {
            return old;
        }
        int most = 0;
        for (Step s : steps(lying)) {
            most = Math.max(most, 1 + longest(s.lying, known));
        }
        known.put(lying, most);
        return most;
    }

    int ends() {
        int many = 0;
        for (List<Integer> l : walk(now.lying).keySet()) {
            many += steps(l).isEmpty() ? 1 : 0;
        }
        return many;
    }

    List<Integer> only(int h) {
        List<Integer> lying = new ArrayList<>();
        for (int i = 0; i < n(); i++) {
            lying.add(i == h ? now.lying.get(h) : 0);
        }
        return lying;
    }

    int alone(int a, int b) {
        return isHut(a) && isHut(b) ? mostOf(only(a), b) : NONE;
    }

    int needed(int h) {
        if (!isHut(h) || !comesTo(now.lying, h)) {
            return NONE;
        }
        int bits = 0;
        for (int j = 0; j < n(); j++) {
            List<Integer> less = eaten(now.lying, j);
            bits |= less != null && !comesTo(less, h) ? 1 << j : 0;
        }
        return bits;
    }

    int brings(int h) {
        if (!isHut(h)) {
            return NONE;
        }
        int bits = 0;
        for (int j = 0; j < n(); j++) {
            bits |= comesTo(only(h), j) ? 1 << j : 0;
        }
        return bits;
    }

    int lack(int h, int what) {
        if (!isHut(h) || what != NONE && !isHut(what)) {
            return -2;
        }
        int all = sum(now.lying);
        for (int many = 0; many + all <= 12; many++) {
            for (List<Integer> later : layingsOf(all + many)) {
                boolean more = true;
                for (int i = 0; i < n(); i++) {
                    more &= later.get(i) >= now.lying.get(i);
                }
                if (more && comesTo(later, h)) {
                    return what == NONE ? many : later.get(what) - now.lying.get(what);
                }
            }
        }
        return -2;
    }

    int guard(int h, int what) {
        if (!isHut(h) || what != NONE && !isHut(what)) {
            return -2;
        }
        int all = sum(now.lying);
        for (int many = 0; many <= all; many++) {
            for (List<Integer> later : layingsOf(all - many)) {
                boolean less = true;
                for (int i = 0; i < n(); i++) {
                    less &= later.get(i) <= now.lying.get(i);
                }
                if (less && !comesTo(later, h)) {
                    return what == NONE ? many : now.lying.get(what) - later.get(what);
                }
            }
        }
        return -2;
    }

    /** All ways to lie to which a carrying leads, each with how many ways to lie lead there. */
    Map<List<Integer>, Integer> allBefore() {
        Map<List<Integer>, Integer> found = new HashMap<>();
        for (int all = 0; all <= 12; all++) {
            for (List<Integer> lying : layingsOf(all)) {
                Set<List<Integer>> next = new HashSet<>();
                for (Step s : steps(lying)) {
                    next.add(s.lying);
                }
                for (List<Integer> l : next) {
                    found.merge(l, 1, Integer::sum);
                }
            }
        }
        return found;
    }

    int before() {
        return allBefore().getOrDefault(now.lying, 0);
    }

    int far(int a, int b) {
        if (!isHut(a) || !isHut(b)) {
            return NONE;
        }
        int[] far = new int[n()];
        Arrays.fill(far, 99);
        far[a] = 0;
        for (int round = 0; round < 9; round++) {
            for (Path p : paths) {
                far[p.a] = Math.min(far[p.a], far[p.b] + 1);
                far[p.b] = Math.min(far[p.b], far[p.a] + 1);
            }
        }
        return far[b] >= 99 ? NONE : far[b];
    }

    int reach(int h) {
        int bits = 0;
        for (int j = 0; j < n(); j++) {
            bits |= far(h, j) != NONE ? 1 << j : 0;
        }
        return isHut(h) ? bits : NONE;
    }

    int rich() {
        for (int l = 12; l >= 0; l--) {
            if (now.lying.contains(l)) {
                return now.lying.indexOf(l);
            }
        }
        return NONE;
    }

    int cheap(int a, int b) {
        return isHut(a) && isHut(b) ? cheap(a, b, 0) : NONE;
    }

    private int cheap(int a, int b, int gone) {
        if (a == b) {
            return 1;
        }
        int least = NONE;
        for (int j = 0; j < n(); j++) {
            if ((gone >> j & 1) == 0 && j != a && price(a, j) != NONE) {
                int rest = cheap(j, b, gone | 1 << a);
                if (rest != NONE && (least == NONE || rest * price(a, j) < least)) {
                    least = rest * price(a, j);
                }
            }
        }
        return least;
    }

    private static boolean isSum(int loads) {
        return loads >= 0 && loads <= 12;
    }

    int layings(int loads) {
        return isSum(loads) ? layingsOf(loads).size() : NONE;
    }

    int comes(int h, int loads) {
        if (!isHut(h) || !isSum(loads)) {
            return NONE;
        }
        int many = 0;
        for (List<Integer> l : layingsOf(loads)) {
            many += comesTo(l, h) ? 1 : 0;
        }
        return many;
    }

    int eden(int loads) {
        if (!isSum(loads)) {
            return NONE;
        }
        Map<List<Integer>, Integer> led = allBefore();
        int many = 0;
        for (List<Integer> l : layingsOf(loads)) {
            many += led.containsKey(l) ? 0 : 1;
        }
        return many;
    }

    private List<Integer> worstOf(int h, int loads) {
        for (List<Integer> l : layingsOf(loads)) {
            if (!comesTo(l, h)) {
                return l;
            }
        }
        return null;
    }

    int sure(int h) {
        if (!isHut(h)) {
            return NONE;
        }
        int found = 13;
        while (found > 1 && worstOf(h, found - 1) == null) {
            found--;
        }
        return found == 13 ? NONE : found;
    }

    int always() {
        int most = NONE;
        for (int h = 0; h < n(); h++) {
            int sure = sure(h);
            if (sure == NONE) {
                return NONE;
            }
            most = Math.max(most, sure);
        }
        return most;
    }

    int worst(int h, int loads, int of) {
        List<Integer> worst = isHut(h) && isSum(loads) && isHut(of) ? worstOf(h, loads) : null;
        return worst == null ? NONE : worst.get(of);
    }

    int best(int what) {
        if (what != NONE && !isHut(what)) {
            return -2;
        }
        for (int all = 0; all <= 12; all++) {
            for (List<Integer> l : layingsOf(all)) {
                boolean each = true;
                for (int h = 0; h < n(); h++) {
                    each = each && comesTo(l, h);
                }
                if (each) {
                    return what == NONE ? all : l.get(what);
                }
            }
        }
        return -2;
    }

    /** In how many carryings it is through, below 0 if who begins has lost (-1: at once). */
    private int pull(List<Integer> lying, Map<List<Integer>, Integer> known) {
        Integer old = known.get(lying);
        if (old != null) {
            return old;
        }
        int fewestWon = 99;
        int mostLost = 0;
        for (Step s : steps(lying)) {
            int later = pull(s.lying, known);
            if (later < 0) {
                fewestWon = Math.min(fewestWon, -1 - later + 1);
            } else {
                mostLost = Math.max(mostLost, later + 1);
            }
        }
        int answer = fewestWon < 99 ? fewestWon : -1 - mostLost;
        known.put(lying, answer);
        return answer;
    }

    int wins(int what) {
        int pull = pull(now.lying, new HashMap<>());
        return what == 0 ? (pull < 0 ? 0 : 1) : what == 1 ? (pull < 0 ? -1 - pull : pull) : NONE;
    }

    int his() {
        Map<List<Integer>, Integer> known = new HashMap<>();
        int pull = pull(now.lying, known);
        for (Step s : steps(now.lying)) {
            int later = pull(s.lying, known);
            boolean same = pull > 0 ? later < 0 && -1 - later + 1 == pull : later + 1 == -1 - pull;
            if (same) {
                return 8 * s.from + s.to;
            }
        }
        return NONE;
    }

    boolean see(int h, int loads, boolean more) {
        if (!isHut(h) || loads < 1 || loads > 12 || seen.size() == 8) {
            return false;
        }
        seen = new ArrayList<>(seen);
        seen.add(new Seen(h, loads, more));
        return true;
    }

    private List<List<Integer>> fitting() {
        List<List<Integer>> all = layingsOf(sum(now.lying));
        for (Seen s : seen) {
            all.removeIf(l -> s.more ? l.get(s.hut) < s.loads : l.get(s.hut) >= s.loads);
        }
        return all;
    }

    int fit() {
        return fitting().size();
    }

    int look() {
        List<List<Integer>> all = fitting();
        int least = all.size();
        int found = NONE;
        for (int h = 0; h < n(); h++) {
            for (int loads = 1; loads <= 12; loads++) {
                int more = 0;
                for (List<Integer> l : all) {
                    more += l.get(h) >= loads ? 1 : 0;
                }
                int greater = Math.max(more, all.size() - more);
                if (greater < least) {
                    least = greater;
                    found = 16 * h + loads;
                }
            }
        }
        return found;
    }

    private long lucky(List<Integer> lying, int h, int times) {
        if (times == 0) {
            return lying.get(h) > 0 ? 1 : 0;
        }
        long many = 0;
        for (Path p : paths) {
            List<Integer> there = carried(lying, p.a, p.b);
            List<Integer> back = carried(lying, p.b, p.a);
            many += lucky(there == null ? lying : there, h, times - 1);
            many += lucky(back == null ? lying : back, h, times - 1);
        }
        return many;
    }

    int chance(int h, int times) {
        if (!isHut(h) || times < 1 || times > 4 || paths.isEmpty()) {
            return NONE;
        }
        long all = 1;
        for (int i = 0; i < times; i++) {
            all *= 2L * paths.size();
        }
        return (int) (lucky(now.lying, h, times) * 1000000 / all);
    }

    int rests(int lose, int carries, int waits, int what) {
        for (int stake : new int[] {lose, carries, waits}) {
            if (stake < 0 || stake > 9) {
                throw new NoSuchElementException();
            }
        }
        List<Integer> found = new ArrayList<>();
        int[][] gain = {{0, waits}, {carries, -lose}};
        for (int a = 0; a < 2; a++) {
            for (int b = 0; b < 2; b++) {
                if (gain[1 - a][b] <= gain[a][b] && gain[1 - b][a] <= gain[b][a]) {
                    found.add(2 * a + b);
                }
            }
        }
        if (what == NONE) {
            return found.size();
        }
        if (what < 0 || what >= found.size()) {
            throw new NoSuchElementException();
        }
        return found.get(what);
    }

    private long g;

    private int draw(int m) {
        g = (g * 1103515245 + 12345) % 2147483648L;
        return (int) (g / 65536 % m);
    }

    int seasons(int seed, int days, int what) {
        if (seed < 0 || seed > 9999 || days < 1 || days > 99 || what < 0 || what > 2) {
            return NONE;
        }
        g = seed;
        List<Integer> lying = now.lying;
        int carried = 0;
        for (int day = 0; day < days && n() > 0; day++) {
            int a = draw(n());
            int b = draw(n());
            int third = draw(4);
            List<Integer> next = third == 3 ? laid(lying, a) : carried(lying, a, b);
            carried += next != null && third < 3 ? 1 : 0;
            lying = next == null ? lying : next;
        }
        return what == 0 ? carried : what == 1 ? sum(lying) : bits(lying);
    }

    private static int bits(List<Integer> lying) {
        int bits = 0;
        for (int i = 0; i < lying.size(); i++) {
            bits |= lying.get(i) > 0 ? 1 << i : 0;
        }
        return bits;
    }

    boolean mark(int mark, boolean back) {
        if (mark < 0 || mark > 3 || back && marks[mark] == null) {
            return false;
        }
        if (back) {
            now = marks[mark].now;
            seen = marks[mark].seen;
            past.clear();
        } else {
            marks[mark] = new Mark(now, seen);
        }
        return true;
    }

    int count(int what) {
        int come = 0;
        for (int h = 0; h < n(); h++) {
            come |= comesTo(now.lying, h) ? 1 << h : 0;
        }
        int[] all = {n(), paths.size(), sum(now.lying), now.carried, bits(now.lying), come, trip.size(), seen.size(),
            past.size()};
        return what >= 0 && what < all.length ? all[what] : NONE;
    }
}
