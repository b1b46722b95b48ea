import java.util.NoSuchElementException;

/** Terms, part 3, and promises 13 to 50: the least and the most of each number, others, none, never, the same, no HUTS. */
public final class AnswerEdgesTest {
    private static final int[] FAR_OFF = {Integer.MIN_VALUE, -65537, -64, -33, -32, -16, -8, -5, -3, -2, 16, 17, 31, 32, 33,
        64, 256, 65536, Integer.MAX_VALUE};
    private static final String TWO = "hut p plain loads 2;hut q plain loads 0;path p q takes 2;";
    private static final String APART = "hut p plain loads 2;hut q plain loads 0;hut r plain loads 1;path p r takes 4;";
    private static final String LINE = "hut a plain loads 8;hut b plain loads 0;hut c plain loads 0;hut d plain loads 0;"
        + "hut e plain loads 0;path a b takes 2;path b c takes 2;path c d takes 2;path d e takes 2;";
    private static final String ELEVEN = "hut a plain loads 8;hut b inn loads 3;hut c plain loads 1;path a b takes 2;"
        + "path a c takes 2;";

    /** A call with one number. */
    interface One {
        int of(int a);
    }

    /** A call with two numbers. */
    interface Both {
        int of(int a, int b);
    }

    private AnswerEdgesTest() { }

    public static void main(String[] args) {
        ofNoHut();
        ofNoPairOfHuts();
        ofNoNumberOfLoads();
        ofAnotherWhat();
        withoutHuts();
        most();
        leastAndRow();
        ways();
        waysOfTheFewestOnly();
        waysOfMany();
        chanceOfMany();
        fiveHundredAndTwelveCalls();
        over();
        cover();
        both();
        shrink();
        stuckAndEnds();
        longest();
        alone();
        needed();
        brings();
        lack();
        guard();
        before();
        reachAndFar();
        rich();
        cheap();
        layings();
        comes();
        eden();
        sure();
        always();
        worst();
        best();
        ofSmallOnesBehindPlainOnes();
        wins();
        byFewerAndByMore();
        pulls();
        his();
        fit();
        look();
        chance();
        rests();
        restsOfOthers();
        seasons();
        counts();
        Check.end("AnswerEdgesTest");
    }

    private static void refusesHuts(String name, One call, int huts, int none) {
        for (int other : FAR_OFF) {
            Check.due(name + "(" + other + ")", call.of(other), none);
        }
        Check.due(name + "(-1)", call.of(-1), none);
        for (int other = huts; other <= 15; other++) {
            Check.due(name + "(" + other + "), the first that is none is " + huts, call.of(other), none);
        }
    }

    /** Each call of one HUT: NONE of others, the last HUT is one, the next number is none. */
    private static void ofNoHut() {
        String[] hills = {"", "hut a plain loads 3;", TWO, LINE};
        int[] huts = {0, 1, 2, 5};
        for (int i = 0; i < hills.length; i++) {
            PassHuts x = Check.on(hills[i]);
            refusesHuts("most", x::most, huts[i], -1);
            refusesHuts("least", x::least, huts[i], -1);
            refusesHuts("ways", x::ways, huts[i], -1);
            refusesHuts("over", x::over, huts[i], -1);
            refusesHuts("needed", x::needed, huts[i], -1);
            PassHuts y = Check.on(hills[i]);
            refusesHuts("brings", y::brings, huts[i], -1);
            refusesHuts("reach", y::reach, huts[i], -1);
            refusesHuts("sure", y::sure, huts[i], -1);
            refusesHuts("row of 0", hut -> y.row(hut, 0), huts[i], -1);
            refusesHuts("lack of how many", hut -> y.lack(hut, -1), huts[i], -2);
            refusesHuts("guard of how many", hut -> y.guard(hut, -1), huts[i], -2);
            PassHuts z = Check.on(hills[i]);
            refusesHuts("comes of 3", hut -> z.comes(hut, 3), huts[i], -1);
            refusesHuts("chance of 1", hut -> z.chance(hut, 1), huts[i], -1);
            refusesHuts("worst of 2", hut -> z.worst(hut, 2, 0), huts[i], -1);
            refusesHuts("worst of 2 in", of -> z.worst(0, 2, of), huts[i], -1);
            for (int hut = 0; hut < huts[i]; hut++) {
                Check.yes("most(" + hut + ") of a hut", z.most(hut) >= 0);
                Check.yes("brings(" + hut + ") of a hut", z.brings(hut) >= 0);
                Check.yes("reach(" + hut + ") of a hut", z.reach(hut) >= 1);
                Check.yes("comes(" + hut + ", 1) of a hut", z.comes(hut, 1) >= 1);
                Check.yes("lack(" + hut + ", -1) of a hut", z.lack(hut, -1) >= 0);
                Check.yes("guard(" + hut + ", -1) of a hut", z.guard(hut, -1) >= 0);
            }
        }
    }

    private static void refusesPairs(String name, Both call, int huts, int none) {
        for (int other : FAR_OFF) {
            Check.due(name + "(0, " + other + ")", call.of(0, other), none);
            Check.due(name + "(" + other + ", 0)", call.of(other, 0), none);
        }
        for (int other = huts; other <= 8; other++) {
            Check.due(name + "(0, " + other + ")", call.of(0, other), none);
            Check.due(name + "(" + other + ", 0)", call.of(other, 0), none);
            Check.due(name + "(" + other + ", " + other + ")", call.of(other, other), none);
        }
    }

    private static void ofNoPairOfHuts() {
        String[] hills = {"", "hut a plain loads 3;", TWO, LINE};
        int[] huts = {0, 1, 2, 5};
        for (int i = 0; i < hills.length; i++) {
            PassHuts x = Check.on(hills[i]);
            refusesPairs("both", x::both, huts[i], -1);
            refusesPairs("alone", x::alone, huts[i], -1);
            refusesPairs("far", x::far, huts[i], -1);
            refusesPairs("cheap", x::cheap, huts[i], -1);
            PassHuts y = Check.on(hills[i]);
            refusesPairs("lack", y::lack, huts[i], -2);
            refusesPairs("guard", y::guard, huts[i], -2);
            Check.due("both(0, -1)", y.both(0, -1), -1);
            Check.due("both(-1, 0)", y.both(-1, 0), -1);
            Check.due("alone(0, -1)", y.alone(0, -1), -1);
            Check.due("alone(-1, 0)", y.alone(-1, 0), -1);
            Check.due("far(0, -1)", y.far(0, -1), -1);
            Check.due("far(-1, -1)", y.far(-1, -1), -1);
            Check.due("cheap(0, -1)", y.cheap(0, -1), -1);
            Check.due("cheap(-1, -1)", y.cheap(-1, -1), -1);
            Check.due("lack(-1, 0)", y.lack(-1, 0), -2);
            Check.due("lack(-1, -1)", y.lack(-1, -1), -2);
            Check.due("guard(-1, 0)", y.guard(-1, 0), -2);
            Check.due("guard(-1, -1)", y.guard(-1, -1), -2);
        }
        PassHuts x = Check.on(LINE);
        Check.due("alone(0, 4), the last hut", x.alone(0, 4), 0);
        Check.due("far(0, 4), the last hut", x.far(0, 4), 4);
        Check.due("cheap(4, 0), the last hut", x.cheap(4, 0), 16);
        Check.due("guard(0, 4), the last hut", x.guard(0, 4), 0);
        Check.due("both(0, 3), the last one to which one comes", x.both(0, 3), -1);
        Check.due("both(4, 0), the last hut", x.both(4, 0), -1);
    }

    /** So many loads: 0 to 12. */
    private static void ofNoNumberOfLoads() {
        PassHuts x = Check.on(TWO);
        for (int loads : new int[] {Integer.MIN_VALUE, -13, -1, 13, 14, 16, 256, Integer.MAX_VALUE}) {
            Check.due("shrink(" + loads + ")", x.shrink(loads), -1);
            Check.due("layings(" + loads + ")", x.layings(loads), -1);
            Check.due("comes(0, " + loads + ")", x.comes(0, loads), -1);
            Check.due("eden(" + loads + ")", x.eden(loads), -1);
            Check.due("worst(1, " + loads + ", 0)", x.worst(1, loads, 0), -1);
            Check.no("see(0, " + loads + ", true)", x.see(0, loads, true));
        }
        for (int loads = 0; loads <= 12; loads++) {
            Check.due("layings(" + loads + ")", x.layings(loads), loads + 1);
            Check.due("comes(0, " + loads + ")", x.comes(0, loads), loads > 1 ? loads + 1 : loads);
            Check.due("eden(" + loads + ")", x.eden(loads), loads == 12 ? 13 : loads == 0 ? 1 : 0);
        }
    }

    private static void ofAnotherWhat() {
        PassHuts x = Check.on(TWO);
        for (int what : FAR_OFF) {
            Check.due("hut(0, " + what + ")", x.hut(0, what), -1);
            Check.due("judged(" + what + ")", x.judged(what), -2);
            Check.due("best(" + what + ")", x.best(what), -2);
            Check.due("wins(" + what + ")", x.wins(what), -1);
            Check.due("seasons(0, 1, " + what + ")", x.seasons(0, 1, what), -1);
            Check.due("count(" + what + ")", x.count(what), -1);
            Check.due("lack(1, " + what + ")", x.lack(1, what), -2);
            Check.due("guard(1, " + what + ")", x.guard(1, what), -2);
        }
        Check.due("hut(0, 4)", x.hut(0, 4), -1);
        Check.due("hut(0, -1)", x.hut(0, -1), -1);
        Check.due("judged(3)", x.judged(3), -2);
        Check.due("judged(-1)", x.judged(-1), -2);
        Check.due("best(2)", x.best(2), -2);
        Check.due("wins(2)", x.wins(2), -1);
        Check.due("wins(-1)", x.wins(-1), -1);
        Check.due("seasons(0, 1, 3)", x.seasons(0, 1, 3), -1);
        Check.due("seasons(0, 1, -1)", x.seasons(0, 1, -1), -1);
        Check.due("count(10)", x.count(10), -1);
        Check.due("count(-1)", x.count(-1), -1);
        Check.due("lack(1, 2)", x.lack(1, 2), -2);
        Check.due("guard(1, 2)", x.guard(1, 2), -2);
    }

    /** No HUTS: what a new object, or one that has read an empty TAPE, answers. */
    private static void withoutHuts() {
        PassHuts read = Check.on(TWO);
        read.carry(0, 1);
        Check.taken(read, "");
        for (PassHuts x : new PassHuts[] {new PassHuts(), read, Check.on("bars 1;")}) {
            Check.due("cover()", x.cover(), 0);
            Check.due("shrink(0)", x.shrink(0), 0);
            Check.due("shrink(1)", x.shrink(1), -1);
            Check.due("shrink(12)", x.shrink(12), -1);
            Check.yes("stuck()", x.stuck());
            Check.due("longest()", x.longest(), 0);
            Check.due("ends()", x.ends(), 1);
            Check.due("before()", x.before(), 0);
            Check.due("rich()", x.rich(), -1);
            Check.due("layings(0)", x.layings(0), 1);
            Check.due("layings(1)", x.layings(1), 0);
            Check.due("layings(12)", x.layings(12), 0);
            Check.due("eden(0)", x.eden(0), 1);
            Check.due("eden(12)", x.eden(12), 0);
            Check.due("always()", x.always(), -1);
            Check.due("best(-1)", x.best(-1), 0);
            Check.due("best(0)", x.best(0), -2);
            Check.due("wins(0)", x.wins(0), 0);
            Check.due("wins(1)", x.wins(1), 0);
            Check.due("his()", x.his(), -1);
            Check.due("fit()", x.fit(), 1);
            Check.due("look()", x.look(), -1);
            Check.due("chance(0, 1)", x.chance(0, 1), -1);
            Check.no("undo()", x.undo());
            for (int what = 0; what <= 9; what++) {
                Check.due("count(" + what + ")", x.count(what), 0);
            }
            for (int what = 0; what <= 2; what++) {
                Check.due("seasons(9999, 99, " + what + ")", x.seasons(9999, 99, what), 0);
            }
        }
    }

    /** MOST: the most loads that can lie there at once, now, too. */
    private static void most() {
        PassHuts x = Check.on(LINE);
        int[] most = {8, 4, 2, 1, 0};
        for (int hut = 0; hut < 5; hut++) {
            Check.due("most(" + hut + ")", x.most(hut), most[hut]);
        }
        PassHuts small = Check.on("hut p plain loads 12;hut q small loads 0;path p q takes 2;");
        Check.due("most(1) of a small one", small.most(1), 3);
        Check.due("most(0) of twelve", small.most(0), 12);
        PassHuts plain = Check.on("hut p plain loads 12;hut q plain loads 0;path p q takes 2;");
        Check.due("most(1) of a plain one", plain.most(1), 6);
        PassHuts none = Check.on("hut p plain loads 0;hut q plain loads 1;path p q takes 2;");
        Check.due("most(0) of none", none.most(0), 0);
        PassHuts back = Check.on("hut p plain loads 1;hut q plain loads 4;path p q takes 2;");
        Check.due("most(0): more than now", back.most(0), 3);
        Check.due("most(1): now", back.most(1), 4);
    }

    /** LEAST (0: it does; NONE: never); ROW: the first one by from which, then to which. */
    private static void leastAndRow() {
        PassHuts x = Check.on(LINE);
        int[] least = {0, 1, 3, 7, -1};
        for (int hut = 0; hut < 5; hut++) {
            Check.due("least(" + hut + ")", x.least(hut), least[hut]);
            Check.due("row(" + hut + ", behind the last)", x.row(hut, Math.max(0, least[hut])), -1);
            Check.due("row(" + hut + ", -1)", x.row(hut, -1), -1);
            Check.due("row(" + hut + ", MAX)", x.row(hut, Integer.MAX_VALUE), -1);
            Check.due("row(" + hut + ", MIN)", x.row(hut, Integer.MIN_VALUE), -1);
        }
        int[] row = {1, 1, 1, 1, 10, 10, 19};
        for (int i = 0; i < 7; i++) {
            Check.due("row(3, " + i + ")", x.row(3, i), row[i]);
        }
        x.eat(0);
        Check.due("least(3) of seven", x.least(3), -1);
        Check.due("row(3, 0), never", x.row(3, 0), -1);
        PassHuts ten = Check.on("hut a plain loads 12;hut b steep loads 0;hut c inn loads 0;hut d inn loads 0;path a d takes 2;"
            + "path b c takes 2;path c d takes 2;");
        Check.due("least(1) of ten", ten.least(1), 10);
        Check.due("row(1, 9), the last of ten", ten.row(1, 9), 17);
        Check.due("row(1, 10)", ten.row(1, 10), -1);
        PassHuts eleven = Check.on("hut a plain loads 8;hut b plain loads 4;hut c plain loads 0;path a b takes 2;path b c takes 2;"
            + "bars there = 0 and 2 < all;");
        Check.due("least(2) of eleven, the last two loads", eleven.least(2), 11);
        Check.due("row(2, 9): 2 1 to 0 2", eleven.row(2, 9), 1);
        Check.due("row(2, 10), the last of eleven", eleven.row(2, 10), 10);
        Check.due("row(2, 11)", eleven.row(2, 11), -1);
        Check.due("over(2)", eleven.over(2), 1);
        Check.yes("ways(2)", eleven.ways(2) > 0);
        Check.due("count(5)", eleven.count(5), 7);
        Check.due("needed(2): by one less none come to two", eleven.needed(2), 3);
        Check.due("shrink(1)", eleven.shrink(1), 11);
        PassHuts equal = Check.on("hut z plain loads 0;hut p plain loads 2;hut q plain loads 2;hut r plain loads 2;"
            + "path q z takes 2;path r z takes 2;path p z takes 2;");
        Check.due("row(0, 0) of equal ones: the first from which", equal.row(0, 0), 8);
        PassHuts to = Check.on("hut a plain loads 4;hut b plain loads 0;hut c plain loads 0;hut d plain loads 0;"
            + "path a c takes 2;path a b takes 2;path c d takes 2;path b d takes 2;");
        Check.due("row(3, 0) of equal ones: the first to which", to.row(3, 0), 1);
        Check.due("row(3, 1)", to.row(3, 1), 1);
        Check.due("row(3, 2)", to.row(3, 2), 11);
        PassHuts few = Check.on("hut a plain loads 4;hut b plain loads 0;hut c plain loads 0;path a b takes 2;path b c takes 2;"
            + "path a c takes 4;");
        Check.due("least(2): by the dear one", few.least(2), 1);
        Check.due("row(2, 0): by the dear one", few.row(2, 0), 2);
    }

    /** WAYS: how many rows of the fewest there are (0: never). */
    private static void ways() {
        PassHuts x = Check.on(LINE);
        Check.due("ways(0), the row of none", x.ways(0), 1);
        Check.due("ways(1)", x.ways(1), 1);
        Check.due("ways(3): the first one to c behind two, three or four to b", x.ways(3), 3);
        Check.due("ways(4), never", x.ways(4), 0);
        PassHuts y = Check.on("hut z plain loads 0;hut p plain loads 3;hut q plain loads 2;hut r plain loads 1;"
            + "path q z takes 2;path r z takes 2;path p z takes 2;");
        Check.due("ways(0): from p, from q", y.ways(0), 2);
        y.eat(1);
        Check.due("ways(0): from p of two, from q", y.ways(0), 2);
        y.eat(1);
        Check.due("ways(0): from q", y.ways(0), 1);
        y.eat(2);
        Check.due("ways(0), never", y.ways(0), 0);
        y.lay(0);
        Check.due("ways(0), it does", y.ways(0), 1);
    }

    /** A way to lie on a row of the fewest that one comes to by more CARRYINGS, too: those rows don't count. */
    private static void waysOfTheFewestOnly() {
        PassHuts x = Check.on("hut a inn loads 1;hut b plain loads 4;hut c small loads 3;hut d plain loads 0;path a b takes 4;"
            + "path a c takes 2;path b c takes 2;path a d takes 4;");
        Check.due("least(3)", x.least(3), 3);
        Check.due("ways(3): b to a and c to a, either first", x.ways(3), 2);
        PassHuts y = Check.on("hut a plain loads 1;hut b inn loads 7;hut c plain loads 4;hut d plain loads 0;path a b takes 3;"
            + "path a c takes 4;path b c takes 2;path a d takes 4;");
        Check.due("least(3)", y.least(3), 4);
        Check.due("ways(3): three from b, or two and one from c as one likes", y.ways(3), 4);
    }

    // Each two have a path; to the last hut, a steep one, one comes by 3, and by the bars not before few are left.
    private static final String ALL_PATHS = "hut e steep loads 0;path a b takes 2;path a c takes 2;path a d takes 2;"
        + "path a e takes 2;path b c takes 2;path b d takes 2;path b e takes 2;path c d takes 2;path c e takes 2;"
        + "path d e takes 2;";

    private static long rowsTo(int[] loads, int all, int rest) {
        if (rest == 0) {
            return loads[4] > 0 ? 1 : 0;
        }
        long rows = 0;
        for (int from = 0; from < 5; from++) {
            for (int to = 0; to < 5; to++) {
                int price = to == 4 ? 3 : 2;
                if (from != to && loads[from] >= price && !(price == 3 && 3 < all)) {
                    loads[from] -= price;
                    loads[to]++;
                    rows += rowsTo(loads, all - price + 1, rest - 1);
                    loads[from] += price;
                    loads[to]--;
                }
            }
        }
        return rows;
    }

    /** As many rows as there can be, counted one by one. */
    private static void waysOfMany() {
        int[][] starts = {{3, 3, 3, 3, 0}, {6, 2, 2, 2, 0}, {12, 0, 0, 0, 0}};
        for (int[] start : starts) {
            PassHuts x = Check.on("hut a plain loads " + start[0] + ";hut b plain loads " + start[1] + ";hut c plain loads "
                + start[2] + ";hut d plain loads " + start[3] + ";" + ALL_PATHS + "bars price = 3 and 3 < all;");
            Check.due("least(4)", x.least(4), 10);
            Check.due("ways(4)", x.ways(4), rowsTo(start, 12, 10));
        }
    }

    private static long luckyOf(int[] loads, int hut, int times) {
        if (times == 0) {
            return loads[hut] > 0 ? 1 : 0;
        }
        long many = 0;
        for (int from = 0; from < 5; from++) {
            for (int to = 0; to < 5; to++) {
                int price = to == 4 ? 3 : 2;
                if (from != to) {
                    boolean can = loads[from] >= price;
                    loads[from] -= can ? price : 0;
                    loads[to] += can ? 1 : 0;
                    many += luckyOf(loads, hut, times - 1);
                    loads[from] += can ? price : 0;
                    loads[to] -= can ? 1 : 0;
                }
            }
        }
        return many;
    }

    /** As many ways over paths as there can be, drawn one to four times, counted one by one. */
    private static void chanceOfMany() {
        int[] start = {5, 1, 2, 4, 0};
        PassHuts x = Check.on("hut a plain loads 5;hut b plain loads 1;hut c plain loads 2;hut d plain loads 4;" + ALL_PATHS);
        long all = 1;
        for (int times = 1; times <= 4; times++) {
            all *= 20;
            for (int hut = 0; hut < 5; hut++) {
                Check.due("chance(" + hut + ", " + times + ")", x.chance(hut, times),
                    luckyOf(start, hut, times) * 1000000 / all);
            }
        }
    }

    /** An object is used for 512 calls. */
    private static void fiveHundredAndTwelveCalls() {
        PassHuts x = new PassHuts();
        // Four calls: count(), feed() twice, hills().
        Tapes.hills(x, "hut a plain loads 11;hut b inn loads 0;");
        for (int i = 0; i < 253; i++) {
            Check.due("lay(1)", x.lay(1), 1);
            Check.due("eat(1)", x.eat(1), 0);
        }
        Check.due("the 511th call", x.lay(0), 12);
        Check.due("the 512th call", x.count(8), 16);
    }

    /** OVER: the most loads that all HUTS can have together while one lies there. */
    private static void over() {
        PassHuts x = Check.on(LINE);
        int[] over = {8, 7, 5, 1, -1};
        for (int hut = 0; hut < 5; hut++) {
            Check.due("over(" + hut + ")", x.over(hut), over[hut]);
        }
        PassHuts y = Check.on("hut a plain loads 12;hut b plain loads 0;path a b takes 4;");
        Check.due("over(0) of twelve", y.over(0), 12);
        Check.due("over(1) by four", y.over(1), 9);
        Check.due("over(0) of nothing", Check.on("hut a plain loads 0;").over(0), -1);
    }

    /** COVER: each HUT has a load (0: it has). */
    private static void cover() {
        Check.due("cover() of one with one", Check.on("hut a plain loads 1;").cover(), 0);
        Check.due("cover() of one with none", Check.on("hut a plain loads 0;").cover(), -1);
        String hills = "hut b plain loads 0;hut c plain loads 0;path a b takes 2;path b c takes 2;";
        Check.due("cover() of six", Check.on("hut a plain loads 6;" + hills).cover(), -1);
        Check.due("cover() of seven", Check.on("hut a plain loads 7;" + hills).cover(), 4);
        Check.due("cover() of eight", Check.on("hut a plain loads 8;" + hills).cover(), 4);
        PassHuts x = Check.on("hut a plain loads 1;hut b plain loads 1;hut c plain loads 1;hut d plain loads 1;hut e plain loads 1;");
        Check.due("cover() of five", x.cover(), 0);
        x.eat(4);
        Check.due("cover() of four", x.cover(), -1);
    }

    /** BOTH: by which both have one (NONE: the same, never). */
    private static void both() {
        PassHuts x = Check.on("hut a plain loads 2;hut b plain loads 0;hut c plain loads 1;path a b takes 2;");
        Check.due("both(0, 2)", x.both(0, 2), 0);
        Check.due("both(0, 0), the same", x.both(0, 0), -1);
        Check.due("both(2, 2), the same", x.both(2, 2), -1);
        Check.due("both(0, 1) of two", x.both(0, 1), -1);
        Check.due("both(1, 2)", x.both(1, 2), 1);
        Check.due("both(2, 1)", x.both(2, 1), 1);
        x.lay(0);
        Check.due("both(0, 1) of three", x.both(0, 1), 1);
        Check.due("both(1, 0) of three", x.both(1, 0), 1);
    }

    /** SHRINK to so many loads (0: there are as many; never: more, too). */
    private static void shrink() {
        PassHuts x = Check.on("hut a plain loads 12;hut b plain loads 0;path a b takes 2;");
        Check.due("shrink(12)", x.shrink(12), 0);
        for (int loads = 2; loads < 12; loads++) {
            Check.due("shrink(" + loads + ")", x.shrink(loads), 12 - loads);
        }
        Check.due("shrink(1): 1 1 is the end", x.shrink(1), -1);
        Check.due("shrink(0), never", x.shrink(0), -1);
        x.eat(0);
        Check.due("shrink(12) of eleven", x.shrink(12), -1);
        Check.due("shrink(1) of eleven: 2 0 or 0 2 is the last but one", x.shrink(1), 10);
        PassHuts none = Check.on("hut a plain loads 0;");
        Check.due("shrink(0) of none", none.shrink(0), 0);
        Check.due("shrink(1) of none", none.shrink(1), -1);
        PassHuts two = Check.on("hut a plain loads 6;hut b plain loads 0;hut c plain loads 0;path a b takes 2;path a c takes 3;");
        Check.due("shrink(4): by three at once", two.shrink(4), 1);
        Check.due("shrink(5)", two.shrink(5), 1);
        Check.due("shrink(2)", two.shrink(2), 2);
    }

    /** STUCK: none can be. ENDS: ways to lie, come to, in which none can be. */
    private static void stuckAndEnds() {
        PassHuts x = Check.on("hut p plain loads 1;hut q plain loads 1;path p q takes 2;");
        Check.yes("stuck() of 1 1", x.stuck());
        Check.due("ends() of 1 1", x.ends(), 1);
        x.lay(1);
        Check.no("stuck() of 1 2", x.stuck());
        Check.due("ends() of 1 2: 2 0, 0 1", x.ends(), 1);
        PassHuts full = Check.on("hut p plain loads 4;hut q small loads 3;path p q takes 2;");
        Check.no("stuck(): from q to p", full.stuck());
        PassHuts dear = Check.on("hut p plain loads 4;hut q small loads 3;path p q takes 4;");
        Check.yes("stuck(): q is full and has too few", dear.stuck());
        dear.eat(1);
        Check.no("stuck(): q is not full", dear.stuck());
        Check.yes("stuck() by bars", Check.on(TWO + "bars 1;").stuck());
        Check.yes("stuck() without a path", Check.on("hut p plain loads 6;hut q plain loads 6;").stuck());
        PassHuts three = Check.on("hut p plain loads 3;hut q plain loads 0;hut r plain loads 0;path p q takes 2;path p r takes 2;");
        Check.due("ends(): 1 1 0, 1 0 1", three.ends(), 2);
        three.lay(0);
        Check.due("ends() of four: 0 1 1, then 0 2 0 to 1 0 0, 0 0 2 to 1 0 0", three.ends(), 2);
    }

    /** LONG: the most CARRYINGS, one behind another: 0 .. 11. */
    private static void longest() {
        Check.due("longest() of eleven", Check.on(ELEVEN).longest(), 11);
        PassHuts x = Check.on(TWO);
        Check.due("longest()", x.longest(), 1);
        x.carry(0, 1);
        Check.due("longest() of none", x.longest(), 0);
        PassHuts few = Check.on("hut a plain loads 4;hut b plain loads 0;hut c plain loads 0;path a b takes 2;path b c takes 2;"
            + "path a c takes 4;");
        Check.due("longest(): not by the dear one", few.longest(), 3);
    }

    /** ALONE: if the first one has what it has, all others nothing. */
    private static void alone() {
        PassHuts x = Check.on("hut a plain loads 4;hut b plain loads 3;hut c plain loads 0;path a b takes 2;path b c takes 2;");
        Check.due("alone(0, 0)", x.alone(0, 0), 4);
        Check.due("alone(1, 1)", x.alone(1, 1), 3);
        Check.due("alone(0, 1): without those in b", x.alone(0, 1), 2);
        Check.due("alone(0, 2)", x.alone(0, 2), 1);
        Check.due("alone(1, 2)", x.alone(1, 2), 1);
        Check.due("alone(2, 1) of nothing", x.alone(2, 1), 0);
        Check.due("alone(2, 2) of nothing", x.alone(2, 2), 0);
        Check.due("most(1) with all", x.most(1), 5);
        PassHuts law = Check.on("hut a plain loads 4;hut b plain loads 1;path a b takes 2;bars all = 5;");
        Check.due("most(1) by bars of five", law.most(1), 1);
        Check.due("alone(0, 1) of four", law.alone(0, 1), 2);
    }

    /** NEEDED: those with one load less in which no load could come; NONE: none can come there in any case. */
    private static void needed() {
        PassHuts x = Check.on("hut p plain loads 2;hut q plain loads 0;hut r plain loads 2;path p q takes 2;path r q takes 2;");
        Check.due("needed(1): from p or from r", x.needed(1), 0);
        x.eat(0);
        Check.due("needed(1): from r", x.needed(1), 4);
        Check.due("needed(0): its own", x.needed(0), 1);
        x.eat(2);
        Check.due("needed(1), none can come", x.needed(1), -1);
        x.lay(1);
        Check.due("needed(1): its own one", x.needed(1), 2);
        x.lay(1);
        Check.due("needed(1): its own two", x.needed(1), 0);
        PassHuts two = Check.on("hut p plain loads 2;hut q plain loads 1;hut r plain loads 0;path p q takes 2;path q r takes 2;");
        Check.due("needed(2): both", two.needed(2), 3);
        PassHuts law = Check.on("hut p plain loads 3;hut q plain loads 0;path p q takes 2;bars here = 3;");
        Check.due("needed(1): none can come with three", law.needed(1), -1);
        law.lay(0);
        Check.due("needed(1): one less is three", law.needed(1), 1);
    }

    /** BRINGS: to which HUTS, itself, too, if it has a load. */
    private static void brings() {
        PassHuts x = Check.on(LINE);
        Check.due("brings(0) of eight", x.brings(0), 15);
        Check.due("brings(1) of none", x.brings(1), 0);
        x.eat(0);
        Check.due("brings(0) of seven", x.brings(0), 7);
        x.lay(4);
        Check.due("brings(4) of one", x.brings(4), 16);
        x.lay(4);
        Check.due("brings(4) of two", x.brings(4), 24);
        Check.due("brings(0): without those in e", x.brings(0), 7);
    }

    /** LACK: the fewest loads to be LAID (0: none; -2: by none). */
    private static void lack() {
        PassHuts x = Check.on(APART);
        for (int what = -1; what < 3; what++) {
            Check.due("lack(0, " + what + "), none", x.lack(0, what), 0);
        }
        Check.due("lack(1, -1)", x.lack(1, -1), 1);
        Check.due("lack(1, 0)", x.lack(1, 0), 0);
        Check.due("lack(1, 1)", x.lack(1, 1), 1);
        Check.due("lack(1, 2)", x.lack(1, 2), 0);
        for (int i = 0; i < 8; i++) {
            x.lay(0);
        }
        Check.due("lack(1, -1) of eleven", x.lack(1, -1), 1);
        x.lay(0);
        for (int what = -1; what < 3; what++) {
            Check.due("lack(1, " + what + ") of twelve, by none", x.lack(1, what), -2);
            Check.due("lack(0, " + what + ") of twelve, none", x.lack(0, what), 0);
        }
        PassHuts last = Check.on("hut a plain loads 0;hut b plain loads 1;hut c plain loads 1;path a b takes 2;path a c takes 2;");
        Check.due("lack(0, 2): the last hut first", last.lack(0, 2), 1);
        Check.due("lack(0, 1)", last.lack(0, 1), 0);
        Check.due("lack(0, 0)", last.lack(0, 0), 0);
        PassHuts full = Check.on("hut a plain loads 0;hut b plain loads 1;hut c small loads 3;path a b takes 2;path a c takes 4;");
        Check.due("lack(0, 2): a full one takes none", full.lack(0, 2), 0);
        Check.due("lack(0, 1)", full.lack(0, 1), 1);
        PassHuts law = Check.on("hut a plain loads 0;hut b plain loads 1;hut c plain loads 1;path a b takes 2;path a c takes 2;"
            + "bars all = 3;");
        Check.due("lack(0, 0): by bars of three only what is laid there", law.lack(0, 0), 1);
        Check.due("count(2) as ahead", law.count(2), 2);
    }

    /** GUARD: the fewest loads to be EATEN so that none can; the first way in which the others lie then. */
    private static void guard() {
        PassHuts x = Check.on("hut a plain loads 0;hut b plain loads 2;hut c plain loads 3;path a b takes 2;path a c takes 2;");
        Check.due("guard(0, -1): one of b, two of c", x.guard(0, -1), 3);
        Check.due("guard(0, 0)", x.guard(0, 0), 0);
        Check.due("guard(0, 1)", x.guard(0, 1), 1);
        Check.due("guard(0, 2)", x.guard(0, 2), 2);
        Check.due("guard(1, -1): its own two, three in c bring one to a alone", x.guard(1, -1), 2);
        x.eat(1);
        Check.due("guard(1, 1): its own one", x.guard(1, 1), 1);
        Check.due("guard(0, -1): two of c", x.guard(0, -1), 2);
        Check.due("count(2) as ahead", x.count(2), 4);
        PassHuts none = Check.on("hut a plain loads 0;hut b plain loads 1;path a b takes 2;");
        Check.due("guard(0, -1), none", none.guard(0, -1), 0);
        Check.due("guard(0, 1), none", none.guard(0, 1), 0);
        Check.due("guard(1, -1)", none.guard(1, -1), 1);
        PassHuts equal = Check.on("hut a plain loads 1;hut b plain loads 1;hut c plain loads 0;path a c takes 2;path b c takes 2;"
            + "bars all = 1;");
        Check.due("guard(2, -1) of ones", equal.guard(2, -1), 0);
        PassHuts first = Check.on("hut a plain loads 2;hut b plain loads 1;hut c plain loads 0;path a b takes 2;path b c takes 2;");
        Check.due("guard(2, -1): one of a or one of b", first.guard(2, -1), 1);
        Check.due("guard(2, 0): the least in a first", first.guard(2, 0), 1);
        Check.due("guard(2, 1)", first.guard(2, 1), 0);
        PassHuts all = Check.on("hut a plain loads 12;");
        Check.due("guard(0, -1) of twelve", all.guard(0, -1), 12);
        Check.due("guard(0, 0) of twelve", all.guard(0, 0), 12);
    }

    /** BEFORE: of WAYS TO LAY 0 to 12 loads. */
    private static void before() {
        PassHuts x = Check.on("hut p plain loads 0;hut q plain loads 10;path p q takes 3;");
        Check.due("before() of ten: from p by 3", x.before(), 1);
        x.lay(1);
        Check.due("before() of eleven", x.before(), 0);
        PassHuts two = Check.on("hut p plain loads 0;hut q plain loads 11;path p q takes 2;");
        Check.due("before() of eleven by 2", two.before(), 1);
        two.lay(1);
        Check.due("before() of twelve", two.before(), 0);
        PassHuts small = Check.on("hut p small loads 1;hut q plain loads 1;path p q takes 2;");
        Check.due("before() of one in the small one: 3 0, 0 3", small.before(), 2);
        small.lay(0);
        Check.due("before() of two in the small one: 1 3, not 4 0", small.before(), 1);
        small.lay(0);
        Check.due("before() of three in the small one: 2 3", small.before(), 1);
        Check.due("before() of none", Check.on("hut p plain loads 0;hut q plain loads 0;path p q takes 2;").before(), 0);
        PassHuts law = Check.on("hut p plain loads 1;hut q plain loads 1;path p q takes 2;bars here = 3 and all = 3;");
        Check.due("before() by bars", law.before(), 0);
    }

    /** REACH: itself, too; FAR (0: the same; NONE: no way). */
    private static void reachAndFar() {
        PassHuts x = Check.on(LINE);
        for (int hut = 0; hut < 5; hut++) {
            Check.due("reach(" + hut + ")", x.reach(hut), 31);
            for (int other = 0; other < 5; other++) {
                Check.due("far(" + hut + ", " + other + ")", x.far(hut, other), Math.abs(hut - other));
            }
        }
        PassHuts apart = Check.on("hut a plain loads 0;hut b plain loads 0;hut c plain loads 0;hut d plain loads 0;"
            + "hut e plain loads 0;path a c takes 2;path e c takes 2;path b d takes 2;bars 1;");
        int[] reach = {21, 10, 21, 10, 21};
        for (int hut = 0; hut < 5; hut++) {
            Check.due("reach(" + hut + ")", apart.reach(hut), reach[hut]);
            Check.due("far(" + hut + ", " + hut + "), the same", apart.far(hut, hut), 0);
        }
        Check.due("far(0, 4)", apart.far(0, 4), 2);
        Check.due("far(0, 1), no way", apart.far(0, 1), -1);
        Check.due("cheap(0, 1), no way", apart.cheap(0, 1), -1);
        Check.due("reach(0) of one", Check.on("hut a plain loads 0;").reach(0), 1);
        PassHuts round = Check.on("hut a plain loads 0;hut b plain loads 0;hut c plain loads 0;hut d plain loads 0;"
            + "path a b takes 2;path b c takes 2;path c d takes 2;path d a takes 4;");
        Check.due("far(0, 3): straight, dear as it is", round.far(0, 3), 1);
        Check.due("far(0, 2)", round.far(0, 2), 2);
    }

    /** RICH: of equal ones the first; NONE: no HUTS. */
    private static void rich() {
        PassHuts x = Check.on("hut a plain loads 0;hut b plain loads 0;hut c plain loads 0;");
        Check.due("rich() of nothing", x.rich(), 0);
        x.lay(2);
        Check.due("rich() of one", x.rich(), 2);
        x.lay(1);
        Check.due("rich() of equal ones", x.rich(), 1);
        x.lay(0);
        Check.due("rich() of three equal ones", x.rich(), 0);
        x.lay(1);
        Check.due("rich() of two", x.rich(), 1);
    }

    /** CHEAP: one times the other (1: the same). */
    private static void cheap() {
        PassHuts x = Check.on("hut a inn loads 0;hut b plain loads 0;hut c steep loads 0;hut d plain loads 0;"
            + "path a b takes 3;path b c takes 2;path a c takes 4;");
        Check.due("cheap(0, 0)", x.cheap(0, 0), 1);
        Check.due("cheap(0, 1)", x.cheap(0, 1), 2);
        Check.due("cheap(1, 0)", x.cheap(1, 0), 3);
        Check.due("cheap(0, 2): straight", x.cheap(0, 2), 4);
        Check.due("cheap(2, 0): straight", x.cheap(2, 0), 4);
        Check.due("cheap(1, 2)", x.cheap(1, 2), 3);
        Check.due("cheap(2, 1)", x.cheap(2, 1), 2);
        Check.due("cheap(3, 0), no way", x.cheap(3, 0), -1);
        Check.due("cheap(3, 3)", x.cheap(3, 3), 1);
        PassHuts dear = Check.on("hut a steep loads 0;hut b steep loads 0;hut c steep loads 0;hut d steep loads 0;"
            + "hut e steep loads 0;path a b takes 4;path b c takes 4;path c d takes 4;path d e takes 4;");
        Check.due("cheap(0, 4), the dearest", dear.cheap(0, 4), 625);
        PassHuts turned = Check.on("hut a plain loads 0;hut b plain loads 0;hut c plain loads 0;hut d plain loads 0;"
            + "hut e plain loads 0;path a e takes 2;path e d takes 2;path d c takes 2;path c b takes 2;");
        Check.due("cheap(0, 1) by all", turned.cheap(0, 1), 16);
        Check.due("cheap(1, 0) by all", turned.cheap(1, 0), 16);
    }

    /** WAYS TO LAY: no small one with more than 3, all else as told. */
    private static void layings() {
        PassHuts five = Check.on(LINE);
        int[] many = {1, 5, 15, 35, 70, 126, 210, 330, 495, 715, 1001, 1365, 1820};
        for (int loads = 0; loads <= 12; loads++) {
            Check.due("layings(" + loads + ") of five", five.layings(loads), many[loads]);
        }
        PassHuts small = Check.on("hut a small loads 3;");
        Check.due("layings(3) of a small one", small.layings(3), 1);
        Check.due("layings(4) of a small one", small.layings(4), 0);
        PassHuts smalls = Check.on("hut a small loads 0;hut b small loads 0;hut c small loads 0;hut d small loads 0;");
        Check.due("layings(11) of four small ones", smalls.layings(11), 4);
        Check.due("layings(12) of four small ones", smalls.layings(12), 1);
        PassHuts mixed = Check.on("hut a small loads 0;hut b plain loads 5;");
        Check.due("layings(3)", mixed.layings(3), 4);
        Check.due("layings(4)", mixed.layings(4), 4);
        Check.due("layings(12)", mixed.layings(12), 4);
    }

    /** COMES: in how many of them LEAST is not none (0, too). */
    private static void comes() {
        PassHuts x = Check.on("hut p plain loads 0;hut q plain loads 0;");
        Check.due("comes(0, 0)", x.comes(0, 0), 0);
        Check.due("comes(0, 1)", x.comes(0, 1), 1);
        Check.due("comes(0, 12): it has one", x.comes(0, 12), 12);
        PassHuts small = Check.on("hut p small loads 0;hut q small loads 0;path p q takes 3;");
        Check.due("comes(0, 3)", small.comes(0, 3), 4);
        Check.due("comes(0, 6)", small.comes(0, 6), 1);
        Check.due("comes(0, 7), no way to lay", small.comes(0, 7), 0);
        Check.due("comes(1, 2)", small.comes(1, 2), 2);
    }

    /** EDEN: those to which no CARRYING leads from any way to lie. */
    private static void eden() {
        PassHuts three = Check.on("hut p plain loads 0;hut q plain loads 0;path p q takes 3;");
        Check.due("eden(0)", three.eden(0), 1);
        Check.due("eden(10)", three.eden(10), 0);
        Check.due("eden(11): from 13 only", three.eden(11), 12);
        Check.due("eden(12)", three.eden(12), 13);
        PassHuts small = Check.on("hut p small loads 0;hut q plain loads 0;path p q takes 2;");
        Check.due("eden(1)", small.eden(1), 0);
        Check.due("eden(3): 3 0 from 2 2, 2 1 from 1 3, 1 2 from 0 4 and 3 1, 0 3 from 2 2", small.eden(3), 0);
        Check.due("eden(12): three in p at most", small.eden(12), 4);
        PassHuts full = Check.on("hut p small loads 0;hut q small loads 0;path p q takes 2;");
        Check.due("eden(5): 3 2 from 2 4, 2 3", full.eden(5), 2);
        Check.due("eden(4): 3 1 from 2 3, 1 3, but not 2 2", full.eden(4), 1);
        Check.due("eden(7), no way to lay", full.eden(7), 0);
        PassHuts law = Check.on("hut p plain loads 0;hut q plain loads 0;path p q takes 2;bars all = 2;");
        Check.due("eden(1) by bars", law.eden(1), 2);
        Check.due("eden(2) by bars", law.eden(2), 0);
    }

    /** SURE: the least number (1 to 12) from which on to 12 a load comes to it however they lie. */
    private static void sure() {
        PassHuts one = Check.on("hut a plain loads 0;");
        Check.due("sure(0) of one", one.sure(0), 1);
        PassHuts x = Check.on("hut a plain loads 0;hut b plain loads 0;path a b takes 4;");
        Check.due("sure(0) by four", x.sure(0), 4);
        PassHuts line = Check.on(LINE);
        Check.due("sure(2): two ways", line.sure(2), 7);
        Check.due("sure(4), by none", line.sure(4), -1);
        PassHuts twelve = Check.on("hut a plain loads 0;hut b plain loads 0;path a b takes 2;bars all < 12;");
        Check.due("sure(0) of twelve alone", twelve.sure(0), 12);
        PassHuts none = Check.on("hut a plain loads 0;hut b plain loads 0;path a b takes 2;bars all = 12;");
        Check.due("sure(0): by eleven, not by twelve", none.sure(0), -1);
        PassHuts gap = Check.on("hut a plain loads 0;hut b plain loads 0;path a b takes 2;bars all = 9;");
        Check.due("sure(0): not by nine", gap.sure(0), 10);
    }

    private static void always() {
        Check.due("always() of one", Check.on("hut a plain loads 0;").always(), 1);
        Check.due("always() by four", Check.on("hut a plain loads 0;hut b plain loads 0;path a b takes 4;").always(), 4);
        PassHuts x = Check.on("hut a inn loads 0;hut b plain loads 0;path a b takes 4;");
        Check.due("sure(0): four from b", x.sure(0), 4);
        Check.due("sure(1): three from a", x.sure(1), 3);
        Check.due("always(): the greater one", x.always(), 4);
        Check.due("always() of twelve", Check.on("hut a plain loads 0;hut b plain loads 0;path a b takes 2;bars all < 12;")
            .always(), 12);
        Check.due("always(), by none for one", Check.on(LINE).always(), -1);
        Check.due("always(), by none", Check.on("hut a plain loads 0;hut b plain loads 0;").always(), -1);
    }

    /** WORST: the first in which none comes to it, the least in HUT 0 first; NONE: there is none. */
    private static void worst() {
        PassHuts x = Check.on("hut a plain loads 0;hut b plain loads 0;hut c plain loads 0;path a b takes 2;path b c takes 2;");
        Check.due("worst(0, 0, 0)", x.worst(0, 0, 0), 0);
        Check.due("worst(0, 3, 0): 0 0 3", x.worst(0, 3, 0), 0);
        Check.due("worst(0, 3, 1)", x.worst(0, 3, 1), 0);
        Check.due("worst(0, 3, 2)", x.worst(0, 3, 2), 3);
        Check.due("worst(2, 3, 0): 2 1 0 brings one", x.worst(2, 3, 0), 3);
        Check.due("worst(2, 3, 1)", x.worst(2, 3, 1), 0);
        Check.due("worst(0, 4, 2), none", x.worst(0, 4, 2), -1);
        Check.due("worst(1, 2, 0): 1 0 1", x.worst(1, 2, 0), 1);
        Check.due("worst(1, 2, 1)", x.worst(1, 2, 1), 0);
        Check.due("worst(1, 2, 2)", x.worst(1, 2, 2), 1);
        Check.due("worst(1, 12, 2), none", x.worst(1, 12, 2), -1);
        PassHuts apart = Check.on("hut a plain loads 0;hut b small loads 0;hut c plain loads 0;");
        Check.due("worst(0, 12, 1)", apart.worst(0, 12, 1), 0);
        Check.due("worst(0, 12, 2)", apart.worst(0, 12, 2), 12);
        Check.due("worst(2, 12, 0): nine and three in the small one", apart.worst(2, 12, 0), 9);
        Check.due("worst(2, 12, 1)", apart.worst(2, 12, 1), 3);
        PassHuts small = Check.on("hut a small loads 0;hut b small loads 0;");
        Check.due("worst(0, 3, 1)", small.worst(0, 3, 1), 3);
        Check.due("worst(0, 4, 1), none", small.worst(0, 4, 1), -1);
        Check.due("worst(0, 7, 1), no way to lay", small.worst(0, 7, 1), -1);
    }

    /** BEST: the fewest loads of which there is a way to lie by which a load comes to each HUT (each by itself). */
    private static void best() {
        PassHuts one = Check.on("hut a plain loads 0;");
        Check.due("best(-1) of one", one.best(-1), 1);
        Check.due("best(0) of one", one.best(0), 1);
        PassHuts x = Check.on(TWO);
        Check.due("best(-1): 0 2, 1 1, 2 0", x.best(-1), 2);
        Check.due("best(0): the least in p first", x.best(0), 0);
        Check.due("best(1)", x.best(1), 2);
        PassHuts small = Check.on("hut a plain loads 0;hut b small loads 0;path a b takes 4;");
        Check.due("best(-1): 1 1", small.best(-1), 2);
        Check.due("best(1)", small.best(1), 1);
        PassHuts five = Check.on("hut a plain loads 0;hut b plain loads 0;hut c plain loads 0;hut d plain loads 0;hut e plain loads 0;");
        Check.due("best(-1) of five apart", five.best(-1), 5);
        Check.due("best(4) of five apart", five.best(4), 1);
        Check.due("best(5)", five.best(5), -2);
        Check.due("best(-2)", five.best(-2), -2);
    }

    /** What the small ones can't hold doesn't count, not even behind other HILLS by which it did. */
    private static void ofSmallOnesBehindPlainOnes() {
        String rest = " loads 0;hut b plain loads 0;hut c plain loads 0;hut d plain loads 0;hut e plain loads 0;"
            + "path a b takes 4;path a c takes 4;path a d takes 4;path a e takes 4;";
        PassHuts x = Check.on("hut a plain" + rest);
        Check.due("best(-1): four in a", x.best(-1), 4);
        Check.due("best(0)", x.best(0), 4);
        Check.due("comes(1, 4)", x.comes(1, 4), 36);
        Check.taken(x, "hut a small" + rest);
        Check.due("best(-1): one in each", x.best(-1), 5);
        Check.due("best(0)", x.best(0), 1);
        Check.due("comes(1, 4): one of b at least", x.comes(1, 4), 35);
        Check.due("layings(4)", x.layings(4), 69);
    }

    /** WINS: who can't has lost; the winner's as few, the loser's as many. */
    private static void wins() {
        PassHuts x = Check.on(ELEVEN);
        Check.yes("wins(1) of eleven at most", x.wins(1) >= 0 && x.wins(1) <= 11);
        Check.due("wins(0) goes by wins(1)", x.wins(0), x.wins(1) % 2);
        PassHuts none = Check.on("hut p plain loads 1;hut q plain loads 1;path p q takes 2;");
        Check.due("wins(0) of none", none.wins(0), 0);
        Check.due("wins(1) of none", none.wins(1), 0);
        PassHuts lost = Check.on("hut a plain loads 2;hut b plain loads 2;hut c plain loads 0;path a c takes 2;path b c takes 2;"
            + "bars there = 2;");
        Check.due("wins(0): two to c, then c back or none", lost.wins(0), 1);
        PassHuts even = Check.on("hut a plain loads 2;hut b plain loads 0;hut c plain loads 2;hut d plain loads 0;"
            + "path a b takes 2;path c d takes 2;");
        Check.due("wins(0) of one and one", even.wins(0), 0);
        Check.due("wins(1) of one and one", even.wins(1), 2);
        PassHuts many = Check.on("hut a plain loads 4;hut b plain loads 0;hut c plain loads 0;path a b takes 4;path a c takes 2;");
        Check.due("wins(1): at once, not by three", many.wins(1), 1);
        Check.due("his(): at once", many.his(), 1);
    }

    /** Come to by fewer and by more CARRYINGS: each number goes by the one that it asks for. */
    private static void byFewerAndByMore() {
        PassHuts x = Check.on("hut a inn loads 3;hut b inn loads 0;hut c plain loads 5;path a b takes 2;path a c takes 2;"
            + "path b c takes 3;");
        int[] shrink = {-1, 5, 4, 3, 3, 2, 1, 1, 0, -1, -1, -1, -1};
        for (int loads = 0; loads <= 12; loads++) {
            Check.due("shrink(" + loads + ")", x.shrink(loads), shrink[loads]);
        }
        Check.due("longest()", x.longest(), 7);
        PassHuts y = Check.on("hut a plain loads 5;hut b inn loads 0;hut c inn loads 1;path a b takes 2;path a c takes 4;"
            + "path b c takes 3;");
        Check.due("shrink(3): by 4 at once", y.shrink(3), 1);
        Check.due("shrink(2): by 4, then by 2", y.shrink(2), 2);
        Check.due("longest()", y.longest(), 4);
        Check.due("longest()", Check.on("hut a inn loads 7;hut b steep loads 1;hut c plain loads 0;path a b takes 2;"
            + "path a c takes 3;path b c takes 4;").longest(), 5);
        Check.due("longest()", Check.on("hut a plain loads 5;hut b plain loads 1;hut c inn loads 2;path a b takes 2;"
            + "path a c takes 3;path b c takes 3;").longest(), 7);
        PassHuts dear = Check.on("hut a plain loads 9;hut b plain loads 1;hut c plain loads 0;path a b takes 2;path b c takes 2;"
            + "path a c takes 4;");
        Check.due("both(0, 2): by 4 at once, with fewer loads then", dear.both(0, 2), 1);
        Check.due("over(2): by 2 and 2", dear.over(2), 8);
        Check.due("cover(): by 4 at once", dear.cover(), 1);
        PassHuts z = Check.on("hut a plain loads 5;hut b plain loads 0;hut c plain loads 0;hut d plain loads 0;path a b takes 2;"
            + "path b c takes 2;path a c takes 4;path c d takes 2;");
        Check.due("least(2)", z.least(2), 1);
        Check.due("both(2, 0)", z.both(2, 0), 1);
        Check.due("both(1, 2), never", z.both(1, 2), -1);
        Check.due("ends(): 1 0 1 0, 0 1 0 0", z.ends(), 2);
    }

    private static void pull(String hills, int wins, int carryings, int his) {
        PassHuts x = Check.on(hills);
        Check.due("wins(0) of " + hills, x.wins(0), wins);
        Check.due("wins(1) of " + hills, x.wins(1), carryings);
        Check.due("his() of " + hills, x.his(), his);
    }

    /** The loser takes the longer one, the winner the shorter one, of equal ones the first. */
    private static void pulls() {
        pull("hut a inn loads 3;hut b inn loads 2;path a b takes 2;", 0, 4, 1);
        pull("hut a inn loads 4;hut b inn loads 2;path a b takes 2;", 1, 5, 1);
        pull("hut a inn loads 4;hut b inn loads 2;path a b takes 3;", 1, 5, 1);
        pull("hut a inn loads 3;hut b plain loads 1;hut c inn loads 2;path a c takes 2;path b c takes 4;", 0, 4, 16);
        pull("hut a inn loads 4;hut b inn loads 0;hut c plain loads 3;path a b takes 2;path b c takes 2;", 0, 6, 1);
        // Of two, one wins: it is taken, be it the first one or not, the shorter one or not.
        pull("hut a inn loads 2;hut b plain loads 0;hut c plain loads 2;path a b takes 3;path a c takes 3;", 1, 1, 1);
        pull("hut a inn loads 2;hut c plain loads 2;hut b plain loads 0;path a b takes 3;path a c takes 3;", 1, 1, 2);
        pull("hut a plain loads 4;hut b inn loads 3;hut c inn loads 2;path a c takes 2;path b c takes 3;", 1, 7, 2);
        pull("hut a inn loads 5;hut b inn loads 2;hut c plain loads 1;path a b takes 4;path b c takes 2;", 0, 4, 1);
    }

    /** HIS: of equal ones the first; NONE: none can be. */
    private static void his() {
        PassHuts x = Check.on("hut a plain loads 2;hut b plain loads 0;hut c plain loads 2;hut d plain loads 0;"
            + "path a b takes 2;path c d takes 2;");
        Check.due("his() of who loses, too", x.his(), 1);
        x.carry(0, 1);
        Check.due("his() of the other one", x.his(), 19);
        x.carry(2, 3);
        Check.due("his(), none can be", x.his(), -1);
        PassHuts to = Check.on("hut a plain loads 2;hut b plain loads 0;hut c plain loads 0;path a c takes 2;path a b takes 2;");
        Check.due("his() of equal ones: to which", to.his(), 1);
        Check.due("his() by bars", Check.on(TWO + "bars 1;").his(), -1);
    }

    /** FIT: of the WAYS TO LAY as many loads as there are now, by which all SEEN is so. */
    private static void fit() {
        PassHuts x = Check.on("hut p plain loads 6;hut q plain loads 6;");
        Check.due("fit() of twelve", x.fit(), 13);
        x.see(0, 12, true);
        Check.due("fit() of 12 or more in p", x.fit(), 1);
        x.see(0, 12, false);
        Check.due("fit() of none", x.fit(), 0);
        PassHuts y = Check.on("hut p plain loads 6;hut q plain loads 6;");
        y.see(0, 12, false);
        Check.due("fit() of fewer than 12 in p", y.fit(), 12);
        y.see(1, 1, false);
        Check.due("fit(): 12 0 is none of them", y.fit(), 0);
        PassHuts z = Check.on("hut p small loads 3;hut q plain loads 2;");
        Check.due("fit(): three in p at most", z.fit(), 4);
        z.see(0, 1, true);
        Check.due("fit() of one or more in p", z.fit(), 3);
        z.see(0, 3, false);
        Check.due("fit() of fewer than three in p", z.fit(), 2);
        z.eat(0);
        Check.due("fit() of four in all", z.fit(), 2);
        z.eat(0);
        z.eat(0);
        z.eat(1);
        z.eat(1);
        Check.due("fit() of nothing", z.fit(), 0);
        Check.due("fit() of nothing, nothing SEEN", Check.on("hut p plain loads 0;").fit(), 1);
    }

    /** LOOK: NONE: none parts them; of equal ones the first by HUTS, then the number. */
    private static void look() {
        PassHuts x = Check.on("hut p plain loads 12;hut q plain loads 0;");
        Check.due("look() of thirteen: 6 and 7, first by 6 or more", x.look(), 6);
        x.see(0, 11, true);
        Check.due("look() of 11 1, 12 0", x.look(), 12);
        x.see(0, 12, true);
        Check.due("look() of one", x.look(), -1);
        PassHuts y = Check.on("hut p plain loads 1;hut q plain loads 0;hut r plain loads 0;");
        Check.due("look() of three: 1 and 2 by each hut", y.look(), 1);
        y.see(0, 1, false);
        Check.due("look() of two", y.look(), 17);
        Check.due("look() of nothing", Check.on("hut p plain loads 0;hut q plain loads 0;").look(), -1);
        Check.due("look() of one hut", Check.on("hut p plain loads 12;").look(), -1);
        PassHuts small = Check.on("hut p small loads 3;hut q plain loads 9;");
        Check.due("look() of four", small.look(), 2);
        small.see(0, 1, false);
        small.see(0, 1, true);
        Check.due("look() of none", small.look(), -1);
        PassHuts second = Check.on("hut p plain loads 9;hut q small loads 3;");
        Check.due("look() of four: 9 to 12 in p", second.look(), 11);
        second.see(0, 11, true);
        Check.due("look() of two", second.look(), 12);
    }

    /** CHANCE: 1 to 4 times; in millionths, cut; NONE: there is no path. */
    private static void chance() {
        PassHuts x = Check.on("hut p plain loads 12;hut q plain loads 0;path p q takes 2;");
        int[] none = {500000, 250000, 125000, 62500};
        for (int times = 1; times <= 4; times++) {
            Check.due("chance(0, " + times + ")", x.chance(0, times), 1000000);
            Check.due("chance(1, " + times + ") is not " + none[times - 1], x.chance(1, times) > 0 ? 1 : 0, 1);
        }
        Check.due("chance(1, 1)", x.chance(1, 1), 500000);
        for (int times : new int[] {Integer.MIN_VALUE, -1, 0, 5, 6, Integer.MAX_VALUE}) {
            Check.due("chance(0, " + times + ")", x.chance(0, times), -1);
        }
        PassHuts two = Check.on(TWO);
        for (int times = 1; times <= 4; times++) {
            Check.due("chance(0, " + times + ") of two", two.chance(0, times), none[times - 1]);
            Check.due("chance(1, " + times + ") of two", two.chance(1, times), 1000000 - none[times - 1]);
        }
        PassHuts three = Check.on("hut p plain loads 2;hut q plain loads 0;hut r plain loads 0;path p q takes 2;path p r takes 2;"
            + "path q r takes 2;");
        Check.due("chance(1, 1): a sixth", three.chance(1, 1), 166666);
        Check.due("chance(1, 2): ten of 36", three.chance(1, 2), 277777);
        Check.due("chance(0, 1): four sixths", three.chance(0, 1), 666666);
        Check.due("chance(0, 4)", three.chance(0, 4), 197530);
        Check.due("chance(0, 1) without a path", Check.on("hut p plain loads 2;hut q plain loads 0;").chance(0, 1), -1);
        Check.due("chance(0, 1) by bars", Check.on(TWO + "bars 1;").chance(0, 1), 1000000);
        Check.due("chance(1, 4) by bars", Check.on(TWO + "bars 1;").chance(1, 4), 0);
    }

    private static int restsOr(PassHuts x, int lose, int carries, int waits, int what) {
        try {
            return x.rests(lose, carries, waits, what);
        } catch (NoSuchElementException e) {
            return -99;
        }
    }

    /** RESTS: by which neither would get more by the other; stakes 0 to 9. */
    private static void rests() {
        PassHuts x = new PassHuts();
        for (int lose = 0; lose <= 9; lose++) {
            for (int carries = 0; carries <= 9; carries++) {
                int waits = (lose * 7 + carries * 3) % 10;
                boolean[] rest = {carries == 0, true, true, lose == 0 && waits == 0};
                int found = 0;
                for (int pair = 0; pair < 4; pair++) {
                    if (rest[pair]) {
                        Check.due("rests of " + lose + ", " + carries + ", " + waits, restsOr(x, lose, carries, waits, found), pair);
                        found++;
                    }
                }
                Check.due("rests, how many", restsOr(x, lose, carries, waits, -1), found);
                Check.due("rests, none such", restsOr(x, lose, carries, waits, found), -99);
            }
        }
    }

    private static void restsOfOthers() {
        PassHuts x = Check.on(TWO);
        for (int other : new int[] {Integer.MIN_VALUE, -10, -1, 10, 11, Integer.MAX_VALUE}) {
            for (int what = -1; what <= 0; what++) {
                Check.due("rests of lose " + other, restsOr(x, other, 1, 1, what), -99);
                Check.due("rests of carries " + other, restsOr(x, 1, other, 1, what), -99);
                Check.due("rests of waits " + other, restsOr(x, 1, 1, other, what), -99);
            }
        }
        for (int what : new int[] {Integer.MIN_VALUE, -3, -2, 4, 5, Integer.MAX_VALUE}) {
            Check.due("rests of what " + what, restsOr(x, 0, 0, 0, what), -99);
        }
        Check.due("rests of nines", restsOr(x, 9, 9, 9, -1), 2);
        Check.due("rests of noughts", restsOr(x, 0, 0, 0, -1), 4);
        Check.due("rests of noughts, the last", restsOr(x, 0, 0, 0, 3), 3);
    }

    /** SEASONS by a SEED (0 to 9999) of 1 to 99 days; all is as ahead then. */
    private static void seasons() {
        String[] hills = {"hut p plain loads 9;", TWO, "hut p small loads 3;hut q small loads 2;path p q takes 2;",
            "hut p inn loads 4;hut q steep loads 4;hut r small loads 2;path p q takes 2;path q r takes 2;bars there = 2;"};
        for (String told : hills) {
            PassHuts x = Check.on(told);
            x.lay(0);
            int[] seeds = {0, 1, 9998, 9999};
            int[] days = {1, 2, 50, 98, 99};
            Check.unchanged(x, "seasons", () -> {
                for (int seed : seeds) {
                    for (int many : days) {
                        seasonsOnce(x, told, seed, many);
                    }
                }
            });
        }
        PassHuts x = Check.on(TWO);
        for (int what = 0; what <= 2; what++) {
            Check.due("seasons(-1, 1, " + what + ")", x.seasons(-1, 1, what), -1);
            Check.due("seasons(10000, 1, " + what + ")", x.seasons(10000, 1, what), -1);
            Check.due("seasons(0, 0, " + what + ")", x.seasons(0, 0, what), -1);
            Check.due("seasons(0, 100, " + what + ")", x.seasons(0, 100, what), -1);
            Check.due("seasons(0, -1, " + what + ")", x.seasons(0, -1, what), -1);
        }
        Check.due("seasons(MIN, 1, 0)", x.seasons(Integer.MIN_VALUE, 1, 0), -1);
        Check.due("seasons(0, MAX, 0)", x.seasons(0, Integer.MAX_VALUE, 0), -1);
    }

    /** The days by hand, on an object of the same hills. */
    private static void seasonsOnce(PassHuts x, String told, int seed, int days) {
        PassHuts hand = new PassHuts();
        Tapes.hills(hand, told);
        hand.lay(0);
        int huts = hand.count(0);
        long g = seed;
        for (int day = 0; day < days; day++) {
            int[] drawn = new int[3];
            for (int i = 0; i < 3; i++) {
                g = (g * 1103515245 + 12345) % 2147483648L;
                drawn[i] = (int) (g / 65536 % (i == 2 ? 4 : huts));
            }
            if (drawn[2] == 3) {
                hand.lay(drawn[0]);
            } else {
                hand.carry(drawn[0], drawn[1]);
            }
        }
        String of = "seasons of " + told + " by " + seed + ", " + days;
        Check.due(of, x.seasons(seed, days, 0), hand.count(3));
        Check.due(of, x.seasons(seed, days, 1), hand.count(2));
        Check.due(of, x.seasons(seed, days, 2), hand.count(4));
    }

    private static void counts() {
        PassHuts x = Check.on(LINE);
        int[] first = {5, 4, 8, 0, 1, 15, 0, 0, 0, 0};
        for (int what = 0; what <= 9; what++) {
            Check.due("count(" + what + ")", x.count(what), first[what]);
        }
        x.lay(4);
        for (int i = 0; i < 4; i++) {
            x.carry(0, 1);
        }
        x.see(4, 1, true);
        Check.tripTaken(x, "lay a;");
        x.feed(0x20, 0, 0);
        int[] then = {5, 4, 5, 4, 18, 31, 1, 1, 5, 1};
        for (int what = 0; what <= 9; what++) {
            Check.due("count(" + what + ")", x.count(what), then[what]);
        }
        x.undo();
        x.undo();
        Check.due("count(3) behind undo()", x.count(3), 2);
        Check.due("count(8) behind undo()", x.count(8), 3);
        for (int i = 0; i < 20; i++) {
            x.carry(i % 2 == 0 ? 0 : 1, i % 2 == 0 ? 1 : 0);
        }
        Check.due("count(8), 16 at most", x.count(8) <= 16 ? 1 : 0, 1);
    }
}
