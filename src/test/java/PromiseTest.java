import java.util.NoSuchElementException;

/** For each promise some answers that the document tells: ordinary ones, edges, wrong inputs. */
public final class PromiseTest {
    private static final String FOUR = "hut a plain loads 5; hut b inn loads 0; hut c steep loads 0; hut d small loads 2;"
        + "path a b takes 2; path b c takes 3; path d b takes 2;";
    private static final String TWO = "hut p plain loads 2; hut q plain loads 0; path p q takes 2;";
    private static final String ROW = "hut p plain loads 4; hut q plain loads 0; hut r plain loads 0;"
        + "path p q takes 2; path q r takes 2;";

    private static int wrong;
    private static int asked;
    private static int promise;

    private PromiseTest() { }

    private static void due(String call, long got, long want) {
        asked++;
        if (got != want) {
            wrong++;
            System.out.println("promise " + promise + ": " + call + " answered " + got + ", due is " + want);
        }
    }

    private static void yes(String call, boolean got) {
        due(call, got ? 1 : 0, 1);
    }

    private static void no(String call, boolean got) {
        due(call, got ? 1 : 0, 0);
    }

    private static PassHuts on(String hills) {
        PassHuts x = new PassHuts();
        due("hills() of " + hills, Tapes.hills(x, hills), 0);
        return x;
    }

    private static void faultOfHills(String text, int kind, int place) {
        due("hills() of " + text, Tapes.hills(new PassHuts(), text), kind + 16 * place);
    }

    private static void faultOfTrip(PassHuts x, String text, int kind, int place) {
        due("trip() of " + text, Tapes.trip(x, text), kind + 16 * place);
    }

    public static void main(String[] args) {
        newObject();
        feed();
        hillsFaults();
        hillsTaken();
        bars();
        trip();
        hut();
        price();
        can();
        carry();
        lay();
        eat();
        undo();
        judged();
        most();
        least();
        row();
        ways();
        over();
        cover();
        both();
        shrink();
        stuck();
        longest();
        ends();
        alone();
        needed();
        brings();
        lack();
        guard();
        before();
        reach();
        far();
        rich();
        cheap();
        layings();
        comes();
        eden();
        sure();
        always();
        worst();
        best();
        wins();
        his();
        see();
        fit();
        look();
        chance();
        rests();
        seasons();
        mark();
        count();
        System.out.println("PromiseTest: " + asked + " answers, " + wrong + " not as due");
        if (wrong > 0) {
            System.exit(1);
        }
    }

    private static void newObject() {
        promise = 1;
        PassHuts x = new PassHuts();
        for (int what = 0; what < 10; what++) {
            due("count(" + what + ")", x.count(what), 0);
        }
        due("layings(0)", x.layings(0), 1);
        due("layings(1)", x.layings(1), 0);
        due("cover()", x.cover(), 0);
        due("ends()", x.ends(), 1);
        yes("stuck()", x.stuck());
        due("rich()", x.rich(), -1);
        due("best(-1)", x.best(-1), 0);
        due("best(0)", x.best(0), -2);
        due("fit()", x.fit(), 1);
        due("eden(0)", x.eden(0), 1);
        due("judged(2)", x.judged(2), 0);
        due("NONE", PassHuts.NONE, -1);
    }

    private static void feed() {
        promise = 2;
        PassHuts x = new PassHuts();
        due("feed of nothing", x.feed(0, 0, 0), 0);
        due("feed of one sign in the lowest byte", x.feed(104, 0, 0), 1);
        due("feed of ut", x.feed(0, 0, 117L << 8 | 116), 3);
        due("hills() of hut", x.hills(), 1 + 16 * 3);
        due("feed keeps 10, 32, 126", x.feed(0x0a20_7eL, 0, 0), 3);
        due("feed leaves out 9, 31, 127, 128, 255, 13", x.feed(0x091f7f80ff0dL, 0, 0), 3);
        due("feed leaves out in between", x.feed(0x41ff42ffff43ff44L, 0xffffffffffffffffL, 0x8000000000000045L), 8);
        due("count(9)", x.count(9), 8);
        due("what reads takes it", x.hills(), 1 + 16 * 2);
        due("count(9)", x.count(9), 0);
        long blanks = 0x2020202020202020L;
        for (int i = 1; i <= 41; i++) {
            due("feed of blanks", x.feed(blanks, blanks, blanks), 24 * i);
        }
        due("feed to 1000 and no more", x.feed(blanks, blanks, blanks), 1000);
        due("feed of a full one", x.feed(blanks, 0, 0), 1000);
        due("hills() of blanks", x.hills(), 0);
        Tapes.feed(x, " ".repeat(996) + "hut abc");
        due("beyond 1000 is left out", x.hills(), 1 + 16 * 1000);
        Tapes.feed(x, " ".repeat(997) + "hut abc");
        due("a fault at the end of 1000", x.hills(), 1 + 16 * 1000);
        Tapes.feed(x, "hu");
        due("feed goes on behind", Tapes.feed(x, "t q"), 5);
        due("the highest byte first", x.hills(), 1 + 16 * 5);
    }

    private static void hillsFaults() {
        promise = 3;
        faultOfHills("hut", 1, 3);
        faultOfHills("hut ", 1, 4);
        faultOfHills("hills", 1, 0);
        faultOfHills(" lay a;", 1, 1);
        faultOfHills("hut A plain", 1, 4);
        faultOfHills("hut 7 plain", 1, 4);
        faultOfHills("hut abcdefghi plain", 1, 4);
        for (String word : "hut loads path takes bars carry lay eat plain inn steep small not and or".split(" ")) {
            faultOfHills("hut " + word, 1, 4);
        }
        for (String word : "here there price all abcdefgh".split(" ")) {
            due("a hut " + word, Tapes.hills(new PassHuts(), "hut " + word + " inn loads 0;"), 0);
        }
        faultOfHills("hut a here loads 1;", 1, 6);
        faultOfHills("hut a plain load 1;", 1, 12);
        faultOfHills("hut a plain loads x;", 1, 18);
        faultOfHills("hut a plain loads 12345;", 1, 18);
        faultOfHills("hut a plain loads 13;", 4, 18);
        faultOfHills("hut a plain loads 0013;", 4, 18);
        faultOfHills("hut a small loads 4;", 4, 18);
        faultOfHills("hut a small loads 3 path", 1, 20);
        faultOfHills("hut a plain loads 7;hut b plain loads 6;", 4, 38);
        faultOfHills("hut a plain loads 7;hut a", 3, 24);
        String five = "hut a inn loads 1;hut b inn loads 1;hut c inn loads 1;hut d inn loads 1;hut e inn loads 1;";
        faultOfHills(five + "hut f", 5, 90);
        faultOfHills(five + "hut", 5, 90);
        faultOfHills("path a", 2, 5);
        faultOfHills("path hut", 1, 5);
        faultOfHills(five + "path a f", 2, 97);
        faultOfHills(five + "path f f", 2, 95);
        faultOfHills(five + "path a a", 3, 97);
        faultOfHills(five + "path a b takes 5;", 4, 105);
        faultOfHills(five + "path a b takes 1;", 4, 105);
        faultOfHills(five + "path a b takes b;", 1, 105);
        faultOfHills(five + "path a b loads 2;", 1, 99);
        faultOfHills(five + "path a b takes 2;path a b", 3, 114);
        faultOfHills(five + "path a b takes 2;path b a", 3, 114);
        faultOfHills(five + "path a b takes 2;path a c takes 9", 4, 122);
        faultOfHills("bars 1;bars", 3, 7);
        faultOfHills("bars 1;bars 1;", 3, 7);
        faultOfHills("hut a inn loads 1 ; @", 1, 20);
        faultOfHills("hut a inn loads 1;;", 1, 18);
    }

    private static void hillsTaken() {
        promise = 3;
        PassHuts x = on(FOUR);
        yes("see(0, 1, true)", x.see(0, 1, true));
        yes("mark(0, false)", x.mark(0, false));
        due("carry(0, 1)", x.carry(0, 1), 2);
        due("trip()", Tapes.trip(x, "lay a;"), 0);
        due("hills() with a fault", Tapes.hills(x, "hut a"), 1 + 16 * 5);
        due("all stays: huts", x.count(0), 4);
        due("all stays: loads", x.count(2), 6);
        due("all stays: carried", x.count(3), 1);
        due("all stays: lines", x.count(6), 1);
        due("all stays: seen", x.count(7), 1);
        due("all stays: to undo", x.count(8), 1);
        due("the tape is taken", x.count(9), 0);
        due("hills()", Tapes.hills(x, TWO), 0);
        due("loads as told", x.hut(0, 1), 2);
        for (int what : new int[] {3, 6, 7, 8, 9}) {
            due("count(" + what + ") from the begin", x.count(what), 0);
        }
        no("no mark is there", x.mark(0, true));
        no("nothing can be undone", x.undo());
        due("hills() without a sign", x.hills(), 0);
        due("no huts", x.count(0), 0);
        due("hills()", Tapes.hills(x, TWO), 0);
        due("least(1) over a path", x.least(1), 1);
        due("most(1) over a path", x.most(1), 1);
        due("other hills with the same loads", Tapes.hills(x, "hut p plain loads 2; hut q plain loads 0;"), 0);
        due("least(1) without a path", x.least(1), -1);
        due("most(1) without a path", x.most(1), 0);
        due("hills() barred now", Tapes.hills(x, TWO + "bars here = 2;"), 0);
        no("can(0, 1) barred", x.can(0, 1));
        due("hills() barred otherwise", Tapes.hills(x, TWO + "bars here = 3;"), 0);
        due("hills() barred otherwise", Tapes.hills(x, TWO + "bars here = 3;"), 0);
        yes("can(0, 1) then", x.can(0, 1));
        due("no blanks needed", Tapes.hills(x, "hut a inn loads 3;hut b small loads 1;path b a takes 4;bars 2here;"), 1
            + 16 * 61);
        due("blanks", Tapes.hills(x, "\n hut\na inn\n\nloads 3;hut b small loads 1 ;path b a takes 4;bars(here)<2 ;\n"), 0);
        due("count(1)", x.count(1), 1);
    }

    /** Whether from p with here loads one can carry to q with there loads by these bars. */
    private static void law(String bars, int here, int there, boolean can) {
        PassHuts x = on("hut p plain loads " + here + "; hut q plain loads " + there + "; path p q takes 2; bars " + bars
            + ";");
        due("can(0, 1) by " + bars + ", " + here + ", " + there, x.can(0, 1) ? 1 : 0, can ? 1 : 0);
    }

    private static void bars() {
        promise = 3;
        faultOfHills("bars", 1, 4);
        faultOfHills("bars ;", 1, 5);
        faultOfHills("bars ) ;", 1, 5);
        faultOfHills("bars here", 1, 9);
        faultOfHills("bars here ) ;", 1, 10);
        faultOfHills("bars where ;", 1, 5);
        faultOfHills("bars here < 1 < 2;", 1, 14);
        faultOfHills("bars here = 1 = 2;", 1, 14);
        faultOfHills("bars here and;", 1, 13);
        faultOfHills("bars here + + 1;", 1, 12);
        faultOfHills("bars - 1;", 1, 5);
        faultOfHills("bars 1 2;", 1, 7);
        faultOfHills("bars (1;", 1, 7);
        faultOfHills("bars ();", 1, 6);
        faultOfHills("bars 12345;", 1, 5);
        faultOfHills("bars not not not not not 1;", 5, 25);
        faultOfHills("bars (((((1)))));", 5, 10);
        faultOfHills("bars ((((((", 5, 10);
        faultOfHills("bars not(not(not 1));", 5, 17);
        faultOfHills("bars not(not(not ;", 1, 17);
        law("((((0))))", 2, 0, true);
        law("not(not(0))", 2, 0, true);
        law("not not not not 0", 2, 0, true);
        law("not not not not 7", 2, 0, false);
        law("here - 2", 2, 0, true);
        law("here - 2", 3, 0, false);
        law("there = 1", 2, 1, false);
        law("there = 1", 2, 2, true);
        law("price = 2", 2, 2, false);
        law("price - 2", 2, 2, true);
        law("all < 5", 2, 2, false);
        law("all < 5", 3, 2, true);
        law("1 or 0 and 0", 2, 0, true);
        law("0 and 0 or 1", 2, 0, false);
        law("1 + 2 * 3 = 7", 2, 0, false);
        law("10 - 3 - 2 = 5", 2, 0, false);
        law("not 1 + 1 = 1", 2, 0, false);
        law("not here * 0", 2, 0, true);
        law("not (here * 0)", 2, 0, false);
        law("(2 and 3) = 1", 2, 0, false);
        law("(0 or 7) = 1", 2, 0, false);
        law("(1 < 2) + (2 = 2) = 2", 2, 0, false);
        law("2 < 2", 2, 0, true);
        law("0 - 1 < 0", 2, 0, false);
        law("9999 * 9999 * 9999 < 0", 2, 0, (9999 * 9999 * 9999) >= 0);
        law("8192 * 8192 * 64", 2, 0, true);
        law("3 < 4 or here", 2, 0, false);
        law("here < there", 3, 2, true);
        PassHuts x = on("hut p plain loads 4; hut q plain loads 0; path p q takes 2; bars here = 4;");
        no("can(0, 1)", x.can(0, 1));
        due("eat(0)", x.eat(0), 3);
        yes("can(0, 1) then", x.can(0, 1));
    }

    private static void trip() {
        promise = 4;
        PassHuts x = on(FOUR);
        faultOfTrip(x, "hut", 1, 0);
        faultOfTrip(x, "carry", 1, 5);
        faultOfTrip(x, "carry bars", 1, 6);
        faultOfTrip(x, "carry z", 2, 6);
        faultOfTrip(x, "carry a z", 2, 8);
        faultOfTrip(x, "carry a a", 3, 8);
        faultOfTrip(x, "carry a b", 1, 9);
        faultOfTrip(x, "carry a ;", 1, 8);
        faultOfTrip(x, "lay 1", 1, 4);
        faultOfTrip(x, "lay z", 2, 4);
        faultOfTrip(x, "lay a b", 1, 6);
        faultOfTrip(x, "eat z", 2, 4);
        faultOfTrip(x, "eat a; bars", 1, 7);
        due("trip() without a path", Tapes.trip(x, "carry a c; eat a;lay\nb;"), 0);
        due("count(6)", x.count(6), 3);
        faultOfTrip(x, "lay", 1, 3);
        due("all stays", x.count(6), 3);
        due("the tape is taken", x.count(9), 0);
        due("trip() of 40", Tapes.trip(x, "lay a;".repeat(40)), 0);
        due("count(6)", x.count(6), 40);
        faultOfTrip(x, "lay a;".repeat(40) + "eat", 5, 240);
        faultOfTrip(x, "lay a;".repeat(40) + "carry z", 5, 240);
        faultOfTrip(x, "lay a;".repeat(40) + "hut", 1, 240);
        due("trip() without a sign", x.trip(), 0);
        due("count(6)", x.count(6), 0);
        PassHuts fresh = new PassHuts();
        faultOfTrip(fresh, "lay a", 2, 4);
        due("trip() at first", fresh.trip(), 0);
    }

    private static void hut() {
        promise = 5;
        PassHuts x = on(FOUR);
        for (int i = 0; i < 4; i++) {
            due("hut(" + i + ", 0)", x.hut(i, 0), i);
        }
        due("hut(0, 1)", x.hut(0, 1), 5);
        due("hut(3, 1)", x.hut(3, 1), 2);
        due("hut(1, 2)", x.hut(1, 2), 13);
        due("hut(2, 2)", x.hut(2, 2), 2);
        due("hut(3, 3)", x.hut(3, 3), 0);
        x.lay(3);
        due("hut(3, 3) of three", x.hut(3, 3), 1);
        due("hut(0, 3)", x.hut(0, 3), 0);
        due("hut(4, 0)", x.hut(4, 0), -1);
        due("hut(-1, 1)", x.hut(-1, 1), -1);
        due("hut(0, 4)", x.hut(0, 4), -1);
        due("hut(0, -1)", x.hut(0, -1), -1);
    }

    private static void price() {
        promise = 6;
        PassHuts x = on("hut a inn loads 0;hut b steep loads 0;hut c plain loads 0;hut d small loads 0;hut e inn loads 0;"
            + "path a b takes 2;path a c takes 3;path b c takes 4;path c d takes 2;path d b takes 3;path e a takes 2;"
            + "path e b takes 4;");
        due("price(0, 1): 2 at least, one more", x.price(0, 1), 3);
        due("price(1, 0)", x.price(1, 0), 2);
        due("price(0, 2)", x.price(0, 2), 2);
        due("price(2, 0)", x.price(2, 0), 3);
        due("price(2, 1)", x.price(2, 1), 5);
        due("price(1, 2)", x.price(1, 2), 4);
        due("price(2, 3)", x.price(2, 3), 2);
        due("price(3, 1)", x.price(3, 1), 4);
        due("price(1, 3)", x.price(1, 3), 3);
        due("price(4, 0)", x.price(4, 0), 2);
        due("price(4, 1)", x.price(4, 1), 4);
        due("price(0, 3)", x.price(0, 3), -1);
        due("price(0, 0)", x.price(0, 0), -1);
        due("price(5, 0)", x.price(5, 0), -1);
        due("price(0, 5)", x.price(0, 5), -1);
        due("price(-1, 0)", x.price(-1, 0), -1);
        due("price(0, -1)", x.price(0, -1), -1);
    }

    private static void can() {
        promise = 7;
        PassHuts x = on(FOUR);
        yes("can(0, 1)", x.can(0, 1));
        yes("can(3, 1)", x.can(3, 1));
        no("can(1, 0), too few", x.can(1, 0));
        no("can(0, 2), no path", x.can(0, 2));
        no("can(0, 0)", x.can(0, 0));
        no("can(4, 0)", x.can(4, 0));
        no("can(0, -1)", x.can(0, -1));
        PassHuts full = on("hut a plain loads 4;hut b small loads 3;path a b takes 2;");
        no("can(0, 1) into a full one", full.can(0, 1));
        full.eat(1);
        yes("can(0, 1) then", full.can(0, 1));
        due("stays as it is", full.count(2), 6);
    }

    private static void carry() {
        promise = 8;
        PassHuts x = on(FOUR);
        due("carry(0, 1)", x.carry(0, 1), 2);
        due("hut(0, 1)", x.hut(0, 1), 3);
        due("hut(1, 1)", x.hut(1, 1), 1);
        due("count(3)", x.count(3), 1);
        due("carry(1, 2), too few", x.carry(1, 2), -1);
        due("carry(0, 2)", x.carry(0, 2), -1);
        due("carry(4, 1)", x.carry(4, 1), -1);
        due("carry(0, 7)", x.carry(0, 7), -1);
        due("what can't be changes nothing", x.count(8), 1);
        x.lay(1);
        x.lay(1);
        due("carry(1, 2): three minus one plus one", x.carry(1, 2), 3);
        due("hut(1, 1)", x.hut(1, 1), 0);
        due("hut(2, 1)", x.hut(2, 1), 1);
    }

    private static void lay() {
        promise = 9;
        PassHuts x = on(FOUR);
        due("lay(1)", x.lay(1), 1);
        due("lay(3)", x.lay(3), 3);
        due("lay(3) into a full one", x.lay(3), -1);
        due("lay(0)", x.lay(0), 6);
        due("lay(0)", x.lay(0), 7);
        due("lay(0)", x.lay(0), 8);
        due("12 in all", x.count(2), 12);
        due("lay(1) of a 13th", x.lay(1), -1);
        due("lay(4)", x.lay(4), -1);
        due("lay(-1)", x.lay(-1), -1);
        due("count(8)", x.count(8), 5);
    }

    private static void eat() {
        promise = 10;
        PassHuts x = on(FOUR);
        due("eat(3)", x.eat(3), 1);
        due("eat(3)", x.eat(3), 0);
        due("eat(3) of nothing", x.eat(3), -1);
        due("eat(4)", x.eat(4), -1);
        due("eat(-1)", x.eat(-1), -1);
        due("count(8)", x.count(8), 2);
        due("count(3)", x.count(3), 0);
    }

    private static void undo() {
        promise = 11;
        PassHuts x = on(FOUR);
        no("undo()", x.undo());
        x.carry(0, 1);
        x.lay(2);
        x.eat(0);
        yes("undo() of eating", x.undo());
        due("hut(0, 1)", x.hut(0, 1), 3);
        yes("undo() of laying", x.undo());
        due("hut(2, 1)", x.hut(2, 1), 0);
        due("count(3)", x.count(3), 1);
        yes("undo() of carrying", x.undo());
        due("hut(0, 1)", x.hut(0, 1), 5);
        due("count(3)", x.count(3), 0);
        no("undo() of nothing more", x.undo());
        for (int i = 0; i < 10; i++) {
            x.eat(0);
            x.lay(0);
        }
        x.lay(1);
        due("count(8)", x.count(8), 16);
        for (int i = 0; i < 16; i++) {
            yes("undo() " + i, x.undo());
        }
        no("undo() of a 17th", x.undo());
        due("what lies 16 back", x.hut(0, 1), 4);
        due("what lies 16 back", x.hut(1, 1), 0);
    }

    private static void judged() {
        promise = 12;
        PassHuts x = on(FOUR);
        Tapes.trip(x, "carry a b; lay c; carry b c; eat b; lay d; lay d;");
        due("judged(1) asked first", x.judged(1), 1);
        PassHuts y = on(FOUR);
        Tapes.trip(y, "carry a b; lay c; carry b c; eat b; lay d; eat a;");
        due("judged(2) asked first", y.judged(2), 6);
        x.trip();
        due("judged(0) without lines", x.judged(0), -1);
        due("judged(1) without lines", x.judged(1), -1);
        due("judged(2) without lines", x.judged(2), 7);
        Tapes.trip(x, "carry a b; lay c; carry b c; eat b; lay d; lay d;");
        due("judged(0)", x.judged(0), 2);
        due("judged(1)", x.judged(1), 1);
        due("judged(2)", x.judged(2), 7);
        x.eat(0);
        x.eat(0);
        x.eat(0);
        x.eat(0);
        due("judged(0) from the begin", x.judged(0), 2);
        due("judged(2) from the begin", x.judged(2), 7);
        due("judged(3)", x.judged(3), -2);
        due("judged(-1)", x.judged(-1), -2);
        Tapes.trip(x, "eat b;");
        due("judged(0)", x.judged(0), 0);
        due("judged(2)", x.judged(2), 7);
    }

    private static void most() {
        promise = 13;
        PassHuts x = on(FOUR);
        due("most(0)", x.most(0), 5);
        due("most(1)", x.most(1), 3);
        due("most(2)", x.most(2), 1);
        due("most(3)", x.most(3), 3);
        due("most(4)", x.most(4), -1);
        due("most(-1)", x.most(-1), -1);
        PassHuts bare = on("hut p plain loads 0;hut q small loads 3;hut r plain loads 8;path r q takes 2;");
        due("most of none", bare.most(0), 0);
        due("most of a full one", bare.most(1), 3);
    }

    private static void least() {
        promise = 14;
        PassHuts x = on(FOUR);
        due("least(0)", x.least(0), 0);
        due("least(1)", x.least(1), 1);
        due("least(2)", x.least(2), 4);
        due("least(4)", x.least(4), -1);
        due("least(-1)", x.least(-1), -1);
        x.eat(3);
        due("least(2), never", x.least(2), -1);
        x.lay(0);
        due("least(2) from six", x.least(2), 4);
        PassHuts long12 = on("hut a plain loads 12;hut b plain loads 0;hut c plain loads 0;hut d plain loads 0;"
            + "path a b takes 2;path b c takes 2;path c d takes 2;");
        due("least(3)", long12.least(3), 7);
    }

    private static void row() {
        promise = 15;
        PassHuts x = on(FOUR);
        int[] first = {1, 1, 25, 10};
        for (int i = 0; i < 4; i++) {
            due("row(2, " + i + ")", x.row(2, i), first[i]);
        }
        due("row(2, 4)", x.row(2, 4), -1);
        due("row(2, -1)", x.row(2, -1), -1);
        due("row(0, 0) of none", x.row(0, 0), -1);
        due("row(4, 0)", x.row(4, 0), -1);
        PassHuts never = on(TWO);
        never.eat(0);
        due("row(1, 0), never", never.row(1, 0), -1);
    }

    private static void ways() {
        promise = 16;
        PassHuts x = on(FOUR);
        due("ways(0) of none", x.ways(0), 1);
        due("ways(1)", x.ways(1), 2);
        due("ways(2)", x.ways(2), 3);
        due("ways(4)", x.ways(4), -1);
        x.eat(3);
        due("ways(2), never", x.ways(2), 0);
    }

    private static void over() {
        promise = 17;
        PassHuts x = on(FOUR);
        due("over(0)", x.over(0), 7);
        due("over(1)", x.over(1), 6);
        due("over(2)", x.over(2), 2);
        due("over(4)", x.over(4), -1);
        x.eat(3);
        due("over(2), never", x.over(2), -1);
    }

    private static void cover() {
        promise = 18;
        due("cover() without huts", new PassHuts().cover(), 0);
        due("cover(), never", on(FOUR).cover(), -1);
        PassHuts x = on(ROW);
        due("cover()", x.cover(), -1);
        for (int i = 0; i < 4; i++) {
            x.lay(0);
        }
        due("cover() of eight", x.cover(), 4);
        x.lay(1);
        x.lay(2);
        due("cover() of all", x.cover(), 0);
    }

    private static void both() {
        promise = 19;
        PassHuts x = on(FOUR);
        due("both(0, 3)", x.both(0, 3), 0);
        due("both(3, 0)", x.both(3, 0), 0);
        due("both(0, 1)", x.both(0, 1), 1);
        due("both(0, 2)", x.both(0, 2), 4);
        due("both(2, 3), never", x.both(2, 3), -1);
        due("both(1, 1)", x.both(1, 1), -1);
        due("both(0, 4)", x.both(0, 4), -1);
        due("both(4, 0)", x.both(4, 0), -1);
        due("both(-1, 0)", x.both(-1, 0), -1);
    }

    private static void shrink() {
        promise = 20;
        PassHuts x = on(FOUR);
        due("shrink(7)", x.shrink(7), 0);
        due("shrink(6)", x.shrink(6), 1);
        due("shrink(8)", x.shrink(8), -1);
        due("shrink(0)", x.shrink(0), -1);
        due("shrink(1)", x.shrink(1), 6);
        due("shrink(13)", x.shrink(13), -1);
        due("shrink(-1)", x.shrink(-1), -1);
        PassHuts y = on("hut p plain loads 6;hut q plain loads 0;path p q takes 3;");
        due("shrink(4)", y.shrink(4), 1);
        due("shrink(5)", y.shrink(5), -1);
        due("shrink(2)", y.shrink(2), 2);
    }

    private static void stuck() {
        promise = 21;
        yes("stuck() without huts", new PassHuts().stuck());
        PassHuts x = on(TWO);
        no("stuck()", x.stuck());
        x.carry(0, 1);
        yes("stuck() then", x.stuck());
        yes("stuck() by bars", on("hut p plain loads 9;hut q plain loads 0;path p q takes 2;bars 1;").stuck());
    }

    private static void longest() {
        promise = 22;
        due("longest()", on(FOUR).longest(), 6);
        due("longest() of one", on(TWO).longest(), 1);
        due("longest() of none", new PassHuts().longest(), 0);
        due("longest() of 12: p less q stays the same by threes, so 1 1 is the last", on("hut p plain loads 12;"
            + "hut q plain loads 0;path p q takes 2;").longest(), 10);
        due("longest() of 11", on("hut p plain loads 11;hut q plain loads 0;path p q takes 2;").longest(), 10);
        due("longest() by threes", on("hut p plain loads 12;hut q plain loads 0;path p q takes 3;").longest(), 5);
    }

    private static void ends() {
        promise = 23;
        due("ends()", on(TWO).ends(), 1);
        due("ends() at an end", on("hut p plain loads 1;hut q plain loads 1;path p q takes 2;").ends(), 1);
        due("ends() of three: q alone", on("hut p plain loads 3;hut q plain loads 0;path p q takes 2;").ends(), 1);
        due("ends() of two ways", on("hut p plain loads 2;hut q plain loads 0;hut r plain loads 0;path p q takes 2;"
            + "path p r takes 2;").ends(), 2);
        due("ends() by barred ways", on("hut p plain loads 2;hut q plain loads 0;path p q takes 2;bars 1;").ends(), 1);
    }

    private static void alone() {
        promise = 24;
        PassHuts x = on(FOUR);
        due("alone(0, 1)", x.alone(0, 1), 2);
        due("alone(3, 1)", x.alone(3, 1), 1);
        due("alone(0, 3)", x.alone(0, 3), 1);
        due("alone(0, 2)", x.alone(0, 2), 0);
        due("alone(0, 0)", x.alone(0, 0), 5);
        due("alone(1, 0)", x.alone(1, 0), 0);
        due("alone(4, 0)", x.alone(4, 0), -1);
        due("alone(0, 4)", x.alone(0, 4), -1);
        due("most(1) as ahead", x.most(1), 3);
    }

    private static void needed() {
        promise = 25;
        PassHuts x = on(FOUR);
        due("needed(2)", x.needed(2), 8);
        due("needed(1)", x.needed(1), 0);
        due("needed(0)", x.needed(0), 0);
        due("needed(4)", x.needed(4), -1);
        PassHuts y = on(TWO);
        due("needed(1)", y.needed(1), 1);
        y.eat(0);
        due("needed(1), none can come", y.needed(1), -1);
        due("needed(0) of one", y.needed(0), 1);
    }

    private static void brings() {
        promise = 26;
        PassHuts x = on(FOUR);
        due("brings(0)", x.brings(0), 11);
        due("brings(3)", x.brings(3), 10);
        due("brings(1) of nothing", x.brings(1), 0);
        due("brings(4)", x.brings(4), -1);
        due("brings(-1)", x.brings(-1), -1);
    }

    private static void lack() {
        promise = 27;
        PassHuts x = on(ROW);
        due("lack(2, -1) of four", x.lack(2, -1), 0);
        due("lack(2, 2) of four", x.lack(2, 2), 0);
        x.eat(0);
        due("lack(2, -1)", x.lack(2, -1), 1);
        due("lack(2, 0)", x.lack(2, 0), 0);
        due("lack(2, 1)", x.lack(2, 1), 0);
        due("lack(2, 2): the last hut first", x.lack(2, 2), 1);
        due("lack(3, -1)", x.lack(3, -1), -2);
        due("lack(2, 3)", x.lack(2, 3), -2);
        due("lack(2, -2)", x.lack(2, -2), -2);
        due("lack(-1, 0)", x.lack(-1, 0), -2);
        PassHuts y = on("hut r plain loads 0;hut q plain loads 1;path q r takes 2;");
        due("lack(0, -1)", y.lack(0, -1), 1);
        due("lack(0, 1): by one more in q", y.lack(0, 1), 1);
        due("lack(0, 0)", y.lack(0, 0), 0);
        PassHuts full = on("hut p plain loads 12;hut q plain loads 0;");
        due("lack(1, -1), by none", full.lack(1, -1), -2);
        due("lack(1, 0), by none", full.lack(1, 0), -2);
        due("lack(0, -1)", full.lack(0, -1), 0);
    }

    private static void guard() {
        promise = 28;
        PassHuts x = on(FOUR);
        due("guard(2, -1)", x.guard(2, -1), 1);
        due("guard(2, 3)", x.guard(2, 3), 1);
        due("guard(2, 0)", x.guard(2, 0), 0);
        due("guard(1, -1)", x.guard(1, -1), 5);
        due("guard(1, 0)", x.guard(1, 0), 4);
        due("guard(1, 3)", x.guard(1, 3), 1);
        due("guard(0, -1)", x.guard(0, -1), 5);
        due("guard(4, -1)", x.guard(4, -1), -2);
        due("guard(0, 4)", x.guard(0, 4), -2);
        due("guard(0, -2)", x.guard(0, -2), -2);
        PassHuts y = on("hut p plain loads 2;hut q plain loads 2;hut r plain loads 0;path p r takes 4;path q r takes 2;"
            + "path p q takes 2;");
        due("guard(2, -1)", y.guard(2, -1), 2);
        due("guard(2, 0): 0 1 0 is no way of two", y.guard(2, 0), 1);
        due("guard(2, 1)", y.guard(2, 1), 1);
        PassHuts z = on("hut p plain loads 1;hut q plain loads 1;hut r plain loads 0;");
        due("guard(2, -1) of none", z.guard(2, -1), 0);
        PassHuts law = on("hut p plain loads 4;hut q plain loads 0;path p q takes 2;bars here = 4;");
        due("guard(1, -1) by bars: none can come with four", law.guard(1, -1), 0);
        law.lay(0);
        due("guard(1, -1) of five", law.guard(1, -1), 1);
    }

    private static void before() {
        promise = 29;
        PassHuts x = on(TWO);
        due("before()", x.before(), 1);
        x.carry(0, 1);
        due("before()", x.before(), 1);
        due("before() of none", new PassHuts().before(), 0);
        PassHuts y = on("hut p plain loads 1;hut q small loads 2;hut r plain loads 0;path p q takes 2;path r q takes 3;");
        due("before(): p from r has no path, from q there would be 4", y.before(), 2);
        PassHuts eleven = on("hut p plain loads 1;hut q plain loads 10;path p q takes 2;");
        due("before() of eleven", eleven.before(), 2);
        eleven.lay(0);
        due("before() of twelve", eleven.before(), 0);
        PassHuts law = on("hut p plain loads 0;hut q plain loads 1;path p q takes 2;bars there = 0;");
        due("before() by bars", law.before(), 0);
    }

    private static void reach() {
        promise = 30;
        PassHuts x = on("hut a plain loads 0;hut b plain loads 0;hut c plain loads 0;hut d plain loads 0;"
            + "path a b takes 2;path c b takes 2;");
        due("reach(0)", x.reach(0), 7);
        due("reach(2)", x.reach(2), 7);
        due("reach(3)", x.reach(3), 8);
        due("reach(4)", x.reach(4), -1);
        due("reach(-1)", x.reach(-1), -1);
    }

    private static void far() {
        promise = 31;
        PassHuts x = on("hut a plain loads 0;hut b plain loads 0;hut c plain loads 0;hut d plain loads 0;"
            + "hut e plain loads 0;path a b takes 2;path b c takes 2;path c d takes 2;");
        due("far(0, 3)", x.far(0, 3), 3);
        due("far(3, 0)", x.far(3, 0), 3);
        due("far(0, 0)", x.far(0, 0), 0);
        due("far(0, 4)", x.far(0, 4), -1);
        due("far(4, 4)", x.far(4, 4), 0);
        due("far(5, 5)", x.far(5, 5), -1);
        due("far(0, -1)", x.far(0, -1), -1);
        PassHuts line = on("hut a plain loads 0;hut b plain loads 0;hut c plain loads 0;hut d plain loads 0;"
            + "hut e plain loads 0;path a b takes 2;path b c takes 2;path c d takes 2;path d e takes 2;");
        due("far(0, 4) of a line", line.far(0, 4), 4);
    }

    private static void rich() {
        promise = 32;
        PassHuts x = on(FOUR);
        due("rich()", x.rich(), 0);
        due("rich() without huts", new PassHuts().rich(), -1);
        PassHuts y = on("hut a plain loads 1;hut b plain loads 4;hut c plain loads 4;");
        due("rich() of equal ones", y.rich(), 1);
        y.lay(2);
        due("rich() then", y.rich(), 2);
        due("rich() of nothing", on("hut a plain loads 0;hut b plain loads 0;").rich(), 0);
    }

    private static void cheap() {
        promise = 33;
        PassHuts x = on(FOUR);
        due("cheap(0, 2)", x.cheap(0, 2), 6);
        due("cheap(2, 0)", x.cheap(2, 0), 6);
        due("cheap(0, 0)", x.cheap(0, 0), 1);
        due("cheap(0, 4)", x.cheap(0, 4), -1);
        due("cheap(-1, 0)", x.cheap(-1, 0), -1);
        PassHuts round = on("hut a plain loads 0;hut b steep loads 0;hut c plain loads 0;hut d plain loads 0;"
            + "path a b takes 4;path a c takes 2;path c b takes 2;path a d takes 4;path c d takes 2;");
        due("cheap(0, 1): not the straight one", round.cheap(0, 1), 5);
        due("cheap(0, 3): equal ones", round.cheap(0, 3), 4);
        due("cheap(1, 3)", round.cheap(1, 3), 4);
        PassHuts apart = on("hut a plain loads 0;hut b plain loads 0;");
        due("cheap(0, 1) without a way", apart.cheap(0, 1), -1);
    }

    private static void layings() {
        promise = 34;
        PassHuts x = on(FOUR);
        due("layings(0)", x.layings(0), 1);
        due("layings(1)", x.layings(1), 4);
        due("layings(4): 35 less the small one with 4", x.layings(4), 34);
        due("layings(12)", x.layings(12), 91 + 78 + 66 + 55);
        due("layings(13)", x.layings(13), -1);
        due("layings(-1)", x.layings(-1), -1);
        PassHuts small = on("hut a small loads 0;hut b small loads 0;");
        due("layings(6)", small.layings(6), 1);
        due("layings(7)", small.layings(7), 0);
    }

    private static void comes() {
        promise = 35;
        PassHuts x = on(FOUR);
        due("comes(1, 1)", x.comes(1, 1), 1);
        due("comes(1, 2)", x.comes(1, 2), 6);
        due("comes(1, 0)", x.comes(1, 0), 0);
        due("comes(4, 1)", x.comes(4, 1), -1);
        due("comes(1, 13)", x.comes(1, 13), -1);
        due("comes(1, -1)", x.comes(1, -1), -1);
        due("comes(1, 12), all", x.comes(1, 12), x.layings(12));
    }

    private static void eden() {
        promise = 36;
        PassHuts x = on(TWO);
        due("eden(0)", x.eden(0), 1);
        due("eden(1)", x.eden(1), 0);
        due("eden(11)", x.eden(11), 0);
        due("eden(12)", x.eden(12), 13);
        due("eden(13)", x.eden(13), -1);
        due("eden(-1)", x.eden(-1), -1);
        PassHuts small = on("hut p small loads 0;hut q small loads 0;path p q takes 3;");
        due("eden(1): three carried over from none", small.eden(1), 0);
        due("eden(2): 1 1 only from more than three", small.eden(2), 1);
        due("eden(3)", small.eden(3), 2);
        PassHuts apart = on("hut p plain loads 0;hut q plain loads 0;");
        due("eden(3) without paths", apart.eden(3), 4);
    }

    private static void sure() {
        promise = 37;
        PassHuts x = on(TWO);
        due("sure(0)", x.sure(0), 2);
        due("sure(1)", x.sure(1), 2);
        due("sure(2)", x.sure(2), -1);
        due("sure(-1)", x.sure(-1), -1);
        PassHuts apart = on("hut p plain loads 0;hut q plain loads 0;");
        due("sure(0), by none", apart.sure(0), -1);
        PassHuts one = on("hut p plain loads 0;");
        due("sure(0) of one", one.sure(0), 1);
        PassHuts small = on("hut p small loads 0;hut q small loads 0;");
        due("sure(0): q has three at most", small.sure(0), 4);
        PassHuts law = on("hut p plain loads 0;hut q plain loads 0;path p q takes 2;bars all = 6;");
        due("sure(0): not with six", law.sure(0), 7);
    }

    private static void always() {
        promise = 38;
        due("always()", on(TWO).always(), 2);
        due("always() without huts", new PassHuts().always(), -1);
        due("always(), by none", on("hut p plain loads 0;hut q plain loads 0;").always(), -1);
        PassHuts x = on("hut p plain loads 0;hut q small loads 0;");
        due("sure(0)", x.sure(0), 4);
        due("sure(1)", x.sure(1), -1);
        due("always(), by none for one", x.always(), -1);
        PassHuts y = on("hut p plain loads 0;hut q plain loads 0;hut r steep loads 0;path p q takes 2;path q r takes 2;");
        due("always()", y.always(), Math.max(y.sure(0), Math.max(y.sure(1), y.sure(2))));
        due("always()", y.always(), 6);
    }

    private static void worst() {
        promise = 39;
        PassHuts x = on(FOUR);
        int[] first = {0, 0, 1, 1};
        for (int i = 0; i < 4; i++) {
            due("worst(1, 2, " + i + ")", x.worst(1, 2, i), first[i]);
        }
        due("worst(1, 0, 0)", x.worst(1, 0, 0), 0);
        due("worst(4, 2, 0)", x.worst(4, 2, 0), -1);
        due("worst(1, 2, 4)", x.worst(1, 2, 4), -1);
        due("worst(1, 13, 0)", x.worst(1, 13, 0), -1);
        due("worst(1, -1, 0)", x.worst(1, -1, 0), -1);
        PassHuts y = on(TWO);
        due("worst(1, 2, 0), none", y.worst(1, 2, 0), -1);
        PassHuts small = on("hut p small loads 0;hut q small loads 0;");
        due("worst(0, 3, 1)", small.worst(0, 3, 1), 3);
        due("worst(0, 7, 1), no way to lay", small.worst(0, 7, 1), -1);
    }

    private static void best() {
        promise = 40;
        PassHuts x = on(FOUR);
        int[] first = {0, 2, 1, 0};
        due("best(-1)", x.best(-1), 3);
        for (int i = 0; i < 4; i++) {
            due("best(" + i + ")", x.best(i), first[i]);
        }
        due("best(4)", x.best(4), -2);
        due("best(-2)", x.best(-2), -2);
        PassHuts apart = on("hut p plain loads 0;hut q plain loads 0;hut r plain loads 0;");
        due("best(-1)", apart.best(-1), 3);
        due("best(1)", apart.best(1), 1);
        due("best(-1) without huts", new PassHuts().best(-1), 0);
    }

    private static void wins() {
        promise = 41;
        PassHuts x = on(TWO);
        due("wins(0)", x.wins(0), 1);
        due("wins(1)", x.wins(1), 1);
        due("wins(2)", x.wins(2), -1);
        due("wins(-1)", x.wins(-1), -1);
        x.carry(0, 1);
        due("wins(0)", x.wins(0), 0);
        due("wins(1)", x.wins(1), 0);
        PassHuts y = on("hut p plain loads 3;hut q plain loads 0;path p q takes 2;");
        due("wins(0): 3 0, 1 1", y.wins(0), 1);
        due("wins(1)", y.wins(1), 1);
        y.lay(0);
        due("wins(0): 4 0, 2 1, 0 2, 1 0", y.wins(0), 1);
        due("wins(1)", y.wins(1), 3);
        PassHuts z = on("hut a plain loads 4;hut b steep loads 0;hut c plain loads 0;path a b takes 2;path a c takes 4;");
        due("wins(0): at once by the dear one", z.wins(0), 1);
        due("wins(1): as few", z.wins(1), 1);
    }

    private static void his() {
        promise = 42;
        PassHuts x = on(TWO);
        due("his()", x.his(), 1);
        x.carry(0, 1);
        due("his(), none can be", x.his(), -1);
        PassHuts z = on("hut a plain loads 4;hut b steep loads 0;hut c plain loads 0;path a b takes 2;path a c takes 4;");
        due("his(): 4 0 0 to 0 0 1 or 1 1 0", z.his(), 1);
        PassHuts y = on("hut q plain loads 0;hut p plain loads 2;hut r plain loads 0;path p q takes 2;path p r takes 2;");
        due("his() of equal ones", y.his(), 8);
        PassHuts w = on("hut p plain loads 4;hut q plain loads 1;hut r plain loads 0;path p q takes 2;path p r takes 4;");
        due("his(): by the dear one at once, asked first", w.his(), 2);
        due("wins(1)", w.wins(1), 1);
    }

    private static void see() {
        promise = 43;
        PassHuts x = on(TWO);
        no("see(2, 1, true)", x.see(2, 1, true));
        no("see(-1, 1, true)", x.see(-1, 1, true));
        no("see(0, 0, true)", x.see(0, 0, true));
        no("see(0, 13, false)", x.see(0, 13, false));
        for (int i = 0; i < 8; i++) {
            yes("see(1, 12, false) " + i, x.see(1, 12, false));
            due("count(7)", x.count(7), i + 1);
        }
        no("see(1, 1, true), a ninth", x.see(1, 1, true));
        due("count(7)", x.count(7), 8);
        due("fit()", x.fit(), 3);
        due("nothing to undo", x.count(8), 0);
    }

    private static void fit() {
        promise = 44;
        PassHuts x = on(FOUR);
        due("fit(): as many as layings(7)", x.fit(), x.layings(7));
        x.see(0, 6, true);
        due("fit() of 6 or 7 in a", x.fit(), 3 + 1);
        x.see(0, 7, false);
        due("fit() of 6 in a", x.fit(), 3);
        x.see(3, 1, true);
        due("fit() of 6 in a, 1 in d", x.fit(), 1);
        x.lay(0);
        due("fit() of eight in all", x.fit(), 3);
        x.see(2, 9, true);
        due("fit() of none", x.fit(), 0);
    }

    private static void look() {
        promise = 45;
        PassHuts x = on(TWO);
        due("look(): 0 2, 1 1, 2 0", x.look(), 1);
        x.see(0, 1, true);
        due("look() then", x.look(), 2);
        x.see(1, 1, false);
        due("look(), none parts them", x.look(), -1);
        PassHuts y = on("hut p plain loads 2;hut q plain loads 0;hut r plain loads 0;");
        y.see(0, 1, false);
        due("look() at the second hut", y.look(), 16 + 1);
        y.see(1, 3, true);
        due("look() of none", y.look(), -1);
        due("look() without huts", new PassHuts().look(), -1);
    }

    private static void chance() {
        promise = 46;
        PassHuts x = on(TWO);
        due("chance(1, 1)", x.chance(1, 1), 500000);
        due("chance(1, 2)", x.chance(1, 2), 750000);
        due("chance(1, 4)", x.chance(1, 4), 937500);
        due("chance(0, 1)", x.chance(0, 1), 500000);
        due("chance(0, 0)", x.chance(0, 0), -1);
        due("chance(0, 5)", x.chance(0, 5), -1);
        due("chance(2, 1)", x.chance(2, 1), -1);
        due("chance(-1, 1)", x.chance(-1, 1), -1);
        due("chance() without paths", on("hut p plain loads 2;").chance(0, 1), -1);
        PassHuts y = on("hut p plain loads 2;hut q plain loads 0;hut r plain loads 0;path p q takes 2;path q r takes 2;"
            + "path p r takes 2;");
        due("chance(1, 1): a sixth, cut", y.chance(1, 1), 166666);
        due("chance(0, 1): four of six", y.chance(0, 1), 666666);
    }

    private static long restsOr(PassHuts x, int lose, int carries, int waits, int what) {
        try {
            return x.rests(lose, carries, waits, what);
        } catch (NoSuchElementException e) {
            return -99;
        }
    }

    private static void rests() {
        promise = 47;
        PassHuts x = new PassHuts();
        due("rests(2, 5, 1, -1)", restsOr(x, 2, 5, 1, -1), 2);
        due("rests(2, 5, 1, 0)", restsOr(x, 2, 5, 1, 0), 1);
        due("rests(2, 5, 1, 1)", restsOr(x, 2, 5, 1, 1), 2);
        due("rests(2, 5, 1, 2)", restsOr(x, 2, 5, 1, 2), -99);
        due("rests(0, 0, 0, -1): all four", restsOr(x, 0, 0, 0, -1), 4);
        due("rests(0, 0, 0, 3)", restsOr(x, 0, 0, 0, 3), 3);
        due("rests(0, 5, 0, -1)", restsOr(x, 0, 5, 0, -1), 3);
        due("rests(0, 5, 0, 2)", restsOr(x, 0, 5, 0, 2), 3);
        due("rests(9, 0, 9, -1)", restsOr(x, 9, 0, 9, -1), 3);
        due("rests(9, 0, 9, 0)", restsOr(x, 9, 0, 9, 0), 0);
        due("rests(2, 5, 1, -2)", restsOr(x, 2, 5, 1, -2), -99);
        due("rests(10, 5, 1, -1)", restsOr(x, 10, 5, 1, -1), -99);
        due("rests(2, 10, 1, -1)", restsOr(x, 2, 10, 1, -1), -99);
        due("rests(2, 5, 10, -1)", restsOr(x, 2, 5, 10, -1), -99);
        due("rests(-1, 5, 1, -1)", restsOr(x, -1, 5, 1, -1), -99);
        due("rests(2, -1, 1, -1)", restsOr(x, 2, -1, 1, -1), -99);
        due("rests(2, 5, -1, -1)", restsOr(x, 2, 5, -1, -1), -99);
    }

    private static void seasons() {
        promise = 48;
        PassHuts x = on(TWO);
        // By seed 0 the first draws are 0, 21468, 9988: from p to p.
        due("seasons(0, 1, 0)", x.seasons(0, 1, 0), 0);
        due("seasons(0, 1, 1)", x.seasons(0, 1, 1), 2);
        due("seasons(0, 1, 2)", x.seasons(0, 1, 2), 1);
        int carried = 0;
        int[] lying = {2, 0};
        long g = 77;
        for (int day = 0; day < 99; day++) {
            int[] drawn = new int[3];
            for (int i = 0; i < 3; i++) {
                g = (g * 1103515245 + 12345) % 2147483648L;
                drawn[i] = (int) (g / 65536 % (i < 2 ? 2 : 4));
            }
            if (drawn[2] == 3 && lying[0] + lying[1] < 12) {
                lying[drawn[0]]++;
            } else if (drawn[2] < 3 && drawn[0] != drawn[1] && lying[drawn[0]] >= 2) {
                lying[drawn[0]] -= 2;
                lying[drawn[1]]++;
                carried++;
            }
        }
        due("seasons(77, 99, 0)", x.seasons(77, 99, 0), carried);
        due("seasons(77, 99, 1)", x.seasons(77, 99, 1), lying[0] + lying[1]);
        due("seasons(77, 99, 2)", x.seasons(77, 99, 2), (lying[0] > 0 ? 1 : 0) + (lying[1] > 0 ? 2 : 0));
        due("all is as ahead", x.hut(0, 1), 2);
        due("all is as ahead", x.count(8), 0);
        due("seasons(-1, 1, 0)", x.seasons(-1, 1, 0), -1);
        due("seasons(10000, 1, 0)", x.seasons(10000, 1, 0), -1);
        due("seasons(0, 0, 0)", x.seasons(0, 0, 0), -1);
        due("seasons(0, 100, 0)", x.seasons(0, 100, 0), -1);
        due("seasons(0, 1, 3)", x.seasons(0, 1, 3), -1);
        due("seasons(0, 1, -1)", x.seasons(0, 1, -1), -1);
        PassHuts none = new PassHuts();
        for (int what = 0; what < 3; what++) {
            due("seasons(9999, 99, " + what + ") without huts", none.seasons(9999, 99, what), 0);
        }
    }

    private static void mark() {
        promise = 49;
        PassHuts x = on(TWO);
        no("mark(-1, false)", x.mark(-1, false));
        no("mark(4, false)", x.mark(4, false));
        no("mark(4, true)", x.mark(4, true));
        no("mark(3, true), nothing is on it", x.mark(3, true));
        yes("mark(3, false)", x.mark(3, false));
        x.carry(0, 1);
        x.see(1, 1, true);
        yes("mark(0, false)", x.mark(0, false));
        x.lay(0);
        x.see(0, 2, false);
        yes("mark(3, true)", x.mark(3, true));
        due("hut(0, 1)", x.hut(0, 1), 2);
        due("count(3)", x.count(3), 0);
        due("count(7)", x.count(7), 0);
        no("nothing can be undone", x.undo());
        yes("mark(0, true)", x.mark(0, true));
        due("hut(0, 1)", x.hut(0, 1), 0);
        due("count(3)", x.count(3), 1);
        due("count(7)", x.count(7), 1);
        due("fit() by what was seen", x.fit(), 1);
        yes("mark(3, true) once more", x.mark(3, true));
        due("hut(0, 1)", x.hut(0, 1), 2);
        x.lay(0);
        yes("mark(3, false) anew", x.mark(3, false));
        due("laying a mark leaves what can be undone", x.count(8), 1);
        x.eat(0);
        x.mark(3, true);
        due("hut(0, 1)", x.hut(0, 1), 3);
        x.see(0, 1, true);
        x.mark(1, false);
        x.mark(3, true);
        x.see(1, 1, true);
        due("fit() by what is seen now", x.fit(), 3);
        x.mark(1, true);
        due("fit() by what was seen then", x.fit(), 3);
        x.see(0, 2, true);
        due("fit() by both", x.fit(), 2);
        PassHuts fresh = new PassHuts();
        yes("mark(1, false) at first", fresh.mark(1, false));
        yes("mark(1, true) at first", fresh.mark(1, true));
    }

    private static void count() {
        promise = 50;
        PassHuts x = on(FOUR);
        Tapes.trip(x, "lay a; eat a;");
        x.carry(0, 1);
        x.carry(0, 1);
        x.see(0, 1, true);
        Tapes.feed(x, "hut");
        int[] all = {4, 3, 5, 2, 11, 15, 2, 1, 2, 3};
        for (int what = 0; what < 10; what++) {
            due("count(" + what + ")", x.count(what), all[what]);
        }
        due("count(10)", x.count(10), -1);
        due("count(-1)", x.count(-1), -1);
    }
}
