import java.util.ArrayList;
import java.util.List;
import java.util.NoSuchElementException;
import java.util.Random;

/** Runs of drawn calls on drawn hills, each answer beside the oracle's; then drawn faults beside the judge's. */
public final class RandomTest {
    private static final int MOST_TOLD = 30;
    private static int wrong;
    private static int asked;

    private RandomTest() { }

    private static void due(String where, long got, long want) {
        asked++;
        if (got != want) {
            wrong++;
            if (wrong <= MOST_TOLD) {
                System.out.println(where + " answered " + got + ", due is " + want);
            }
        }
    }

    private static int bit(boolean b) {
        return b ? 1 : 0;
    }

    public static void main(String[] args) {
        int runs = args.length > 1 ? Integer.parseInt(args[1]) : 150;
        int first = args.length > 2 ? Integer.parseInt(args[2]) : 0;
        for (int seed = first; seed < first + runs; seed++) {
            runOnce(seed);
        }
        for (int seed = first; seed < first + 20 * runs; seed++) {
            faultOnce(seed);
        }
        System.out.println("RandomTest: " + asked + " answers, " + wrong + " not as due");
        if (wrong > 0) {
            System.exit(1);
        }
    }

    private static void runOnce(int seed) {
        Random random = new Random(seed);
        PassHuts x = new PassHuts();
        Oracle o = new Oracle();
        int calls = 0;
        for (int land = 0; land < 3; land++) {
            int huts = random.nextInt(10) == 0 ? random.nextInt(2) : 2 + random.nextInt(land == 0 ? 4 : 3);
            RandomHills hills = new RandomHills(random, huts);
            String text = RandomHills.text(hills.tokens, random);
            if (text.length() > 700) {
                continue;
            }
            Tapes.feed(x, text);
            due("seed " + seed + " count(9)", x.count(9), text.length());
            due("seed " + seed + " hills() of " + text, x.hills(), 0);
            o.take(hills.kinds, hills.told, hills.paths, hills.law);
            tellTrip(random, x, o, seed);
            calls += 50;
            for (int i = 0; i < 100; i++) {
                callOnce(random, x, o, "seed " + seed + " land " + land + " call " + i + " ");
                calls++;
            }
        }
    }

    private static void tellTrip(Random random, PassHuts x, Oracle o, int seed) {
        List<String> tokens = new ArrayList<>();
        List<Oracle.Line> lines = new ArrayList<>();
        int many = o.n() == 0 ? 0 : random.nextInt(10);
        for (int i = 0; i < many; i++) {
            int a = random.nextInt(o.n());
            int b = random.nextInt(o.n());
            String word = a != b ? "carry" : random.nextBoolean() ? "lay" : "eat";
            lines.add(new Oracle.Line(word, a, b));
            tokens.add(word);
            tokens.add(RandomHills.NAMES[a]);
            if (a != b) {
                tokens.add(RandomHills.NAMES[b]);
            }
            tokens.add(";");
        }
        due("seed " + seed + " trip()", Tapes.trip(x, RandomHills.text(tokens, random)), 0);
        o.trip = lines;
        for (int what = -2; what <= 3; what++) {
            due("seed " + seed + " judged(" + what + ")", x.judged(what), o.judged(what));
        }
    }

    private static int some(Random random, int least, int most) {
        return least + random.nextInt(most - least + 1);
    }

    private static void callOnce(Random random, PassHuts x, Oracle o, String at) {
        int h = random.nextInt(12) == 0 ? some(random, -1, 6) : some(random, 0, Math.max(0, o.n() - 1));
        int j = random.nextInt(12) == 0 ? some(random, -1, 6) : some(random, 0, Math.max(0, o.n() - 1));
        int l = some(random, -1, 13);
        int what = some(random, -2, 4);
        boolean flag = random.nextBoolean();
        switch (random.nextInt(10)) {
            case 0, 1, 2 -> change(random, x, o, at, h, j);
            case 3 -> remember(random, x, o, at, h, l, flag);
            case 4 -> askHills(x, o, at, h, j, what);
            case 5, 6 -> askWalk(x, o, at, h, j, l);
            case 7 -> askWhatIf(x, o, at, h, j, what);
            case 8 -> askLayings(random, x, o, at, h, j, l, what);
            default -> askOthers(random, x, o, at, h, what);
        }
    }

    private static void change(Random random, PassHuts x, Oracle o, String at, int h, int j) {
        switch (random.nextInt(6)) {
            case 0, 1 -> due(at + "carry(" + h + ", " + j + ")", x.carry(h, j), o.carry(h, j));
            case 2, 3 -> due(at + "lay(" + h + ")", x.lay(h), o.lay(h));
            case 4 -> due(at + "eat(" + h + ")", x.eat(h), o.eat(h));
            default -> due(at + "undo()", bit(x.undo()), bit(o.undo()));
        }
        for (int k = 0; k < 9; k++) {
            due(at + "count(" + k + ")", x.count(k), o.count(k));
        }
    }

    private static void remember(Random random, PassHuts x, Oracle o, String at, int h, int l, boolean flag) {
        if (random.nextInt(3) == 0) {
            int mark = some(random, -1, 4);
            due(at + "mark(" + mark + ", " + flag + ")", bit(x.mark(mark, flag)), bit(o.mark(mark, flag)));
        } else {
            due(at + "see(" + h + ", " + l + ", " + flag + ")", bit(x.see(h, l, flag)), bit(o.see(h, l, flag)));
        }
        due(at + "fit()", x.fit(), o.fit());
        due(at + "look()", x.look(), o.look());
        for (int k = 0; k < 9; k++) {
            due(at + "count(" + k + ")", x.count(k), o.count(k));
        }
    }

    private static void askHills(PassHuts x, Oracle o, String at, int h, int j, int what) {
        due(at + "hut(" + h + ", " + what + ")", x.hut(h, what), o.hut(h, what));
        due(at + "price(" + h + ", " + j + ")", x.price(h, j), o.priceAsked(h, j));
        due(at + "can(" + h + ", " + j + ")", bit(x.can(h, j)), bit(o.can(h, j)));
        due(at + "reach(" + h + ")", x.reach(h), o.reach(h));
        due(at + "far(" + h + ", " + j + ")", x.far(h, j), o.far(h, j));
        due(at + "cheap(" + h + ", " + j + ")", x.cheap(h, j), o.cheap(h, j));
        due(at + "rich()", x.rich(), o.rich());
        due(at + "stuck()", bit(x.stuck()), bit(o.stuck()));
        due(at + "judged(" + what + ")", x.judged(what), o.judged(what));
    }

    private static void askWalk(PassHuts x, Oracle o, String at, int h, int j, int l) {
        due(at + "most(" + h + ")", x.most(h), o.most(h));
        due(at + "least(" + h + ")", x.least(h), o.least(h));
        if (o.isHut(h) && o.rows(h).size() < 300000) {
            due(at + "ways(" + h + ")", x.ways(h), o.ways(h));
            for (int i = -1; i <= o.least(h); i++) {
                due(at + "row(" + h + ", " + i + ")", x.row(h, i), o.row(h, i));
            }
        }
        due(at + "over(" + h + ")", x.over(h), o.over(h));
        due(at + "cover()", x.cover(), o.cover());
        due(at + "both(" + h + ", " + j + ")", x.both(h, j), o.both(h, j));
        due(at + "shrink(" + l + ")", x.shrink(l), o.shrink(l));
        due(at + "longest()", x.longest(), o.longest());
        due(at + "ends()", x.ends(), o.ends());
        for (int what = -1; what < 3; what++) {
            due(at + "wins(" + what + ")", x.wins(what), o.wins(what));
        }
        due(at + "his()", x.his(), o.his());
    }

    private static void askWhatIf(PassHuts x, Oracle o, String at, int h, int j, int what) {
        due(at + "alone(" + h + ", " + j + ")", x.alone(h, j), o.alone(h, j));
        due(at + "needed(" + h + ")", x.needed(h), o.needed(h));
        due(at + "brings(" + h + ")", x.brings(h), o.brings(h));
        due(at + "lack(" + h + ", " + what + ")", x.lack(h, what), o.lack(h, what));
        due(at + "lack(" + h + ", -1)", x.lack(h, -1), o.lack(h, -1));
        due(at + "guard(" + h + ", " + what + ")", x.guard(h, what), o.guard(h, what));
        due(at + "guard(" + h + ", -1)", x.guard(h, -1), o.guard(h, -1));
        due(at + "before()", x.before(), o.before());
    }

    private static void askLayings(Random random, PassHuts x, Oracle o, String at, int h, int j, int l, int what) {
        switch (random.nextInt(5)) {
            case 0 -> {
                due(at + "layings(" + l + ")", x.layings(l), o.layings(l));
                due(at + "comes(" + h + ", " + l + ")", x.comes(h, l), o.comes(h, l));
            }
            case 1 -> due(at + "eden(" + l + ")", x.eden(l), o.eden(l));
            case 2 -> {
                due(at + "sure(" + h + ")", x.sure(h), o.sure(h));
                due(at + "always()", x.always(), o.always());
            }
            case 3 -> due(at + "worst(" + h + ", " + l + ", " + j + ")", x.worst(h, l, j), o.worst(h, l, j));
            default -> {
                due(at + "best(" + what + ")", x.best(what), o.best(what));
                due(at + "best(-1)", x.best(-1), o.best(-1));
            }
        }
    }

    private static void askOthers(Random random, PassHuts x, Oracle o, String at, int h, int what) {
        int times = some(random, 0, o.paths.size() > 6 ? 3 : 5);
        due(at + "chance(" + h + ", " + times + ")", x.chance(h, times), o.chance(h, times));
        int seed = some(random, -10, 10010);
        int days = some(random, -1, 101);
        due(at + "seasons(" + seed + ", " + days + ", " + what + ")", x.seasons(seed, days, what),
            o.seasons(seed, days, what));
        int a = some(random, -1, 10);
        int b = some(random, -1, 10);
        int c = some(random, -1, 10);
        due(at + "rests(" + a + ", " + b + ", " + c + ", " + what + ")", rests(x, a, b, c, what),
            rests(o, a, b, c, what));
    }

    private static int rests(PassHuts x, int a, int b, int c, int what) {
        try {
            return x.rests(a, b, c, what);
        } catch (NoSuchElementException e) {
            return -1000;
        }
    }

    private static int rests(Oracle o, int a, int b, int c, int what) {
        try {
            return o.rests(a, b, c, what);
        } catch (NoSuchElementException e) {
            return -1000;
        }
    }

    private static final String[] ODD = {"hut", "loads", "path", "takes", "bars", "carry", "lay", "eat", "plain", "inn",
        "steep", "small", "not", "and", "or", "here", "there", "price", "all", "b", "camp", "nowhere", "ninechars", "(",
        ")", "<", "=", "+", "-", "*", ";", ".", "A", "0", "1", "2", "5", "13", "9999", "12345", "", "( ( ( ( (", "7b"};

    private static void mutate(List<String> tokens, Random random) {
        int many = random.nextInt(4);
        for (int i = 0; i < many && !tokens.isEmpty(); i++) {
            int at = random.nextInt(tokens.size());
            String other = random.nextBoolean() ? ODD[random.nextInt(ODD.length)] : tokens.get(random.nextInt(tokens.size()));
            switch (random.nextInt(4)) {
                case 0 -> tokens.set(at, other);
                case 1 -> tokens.add(at, other);
                case 2 -> tokens.remove(at);
                default -> tokens.subList(at, tokens.size()).clear();
            }
        }
    }

    private static String cut(String text) {
        return text.length() > 1000 ? text.substring(0, 1000) : text;
    }

    private static void faultOnce(int seed) {
        Random random = new Random(seed);
        PassHuts x = new PassHuts();
        List<String> tokens = new RandomHills(random, random.nextInt(6)).tokens;
        if (random.nextInt(4) == 0) {
            tokens.addAll(new RandomHills(random, random.nextInt(6)).tokens);
        }
        mutate(tokens, random);
        String text = cut(RandomHills.text(tokens, random));
        due("fault seed " + seed + " hills() of " + text, Tapes.hills(x, text), FaultJudge.ofHills(text));
        RandomHills hills = new RandomHills(random, random.nextInt(6));
        Tapes.hills(x, RandomHills.text(hills.tokens, random));
        List<String> names = List.of(RandomHills.NAMES).subList(0, x.count(0));
        List<String> trip = new ArrayList<>();
        int lines = random.nextInt(3) == 0 ? 38 + random.nextInt(5) : random.nextInt(5);
        for (int i = 0; i < lines && !names.isEmpty(); i++) {
            trip.add(new String[] {"lay", "eat", "carry"}[random.nextInt(names.size() > 1 ? 3 : 2)]);
            boolean carry = trip.get(trip.size() - 1).equals("carry");
            int a = random.nextInt(names.size());
            trip.add(names.get(a));
            if (carry) {
                trip.add(names.get((a + 1) % names.size()));
            }
            trip.add(";");
        }
        mutate(trip, random);
        String told = cut(RandomHills.text(trip, random));
        due("fault seed " + seed + " trip() of " + told, Tapes.trip(x, told), FaultJudge.ofTrip(told, names));
    }
}
