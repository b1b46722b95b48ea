/** Terms, part 1, sentence by sentence: each bound on both its sides. A ^ in a text shows where its fault is. */
public final class TapeEdgesTest {
    private static final String TWO = "hut p plain loads 2;hut q plain loads 0;path p q takes 2;";
    private static final String FIVE =
        "hut a inn loads 1;hut b inn loads 1;hut c inn loads 1;hut d inn loads 1;hut e inn loads 1;";
    private static final String[] RESERVED = {"hut", "loads", "path", "takes", "bars", "carry", "lay", "eat", "plain", "inn",
        "steep", "small", "not", "and", "or"};

    private TapeEdgesTest() { }

    public static void main(String[] args) {
        tapeHoldsAThousand();
        tapeTakesItsSigns();
        whatReadsTakesIt();
        wordsAndNumbers();
        blanks();
        huts();
        names();
        kindsAndLoads();
        paths();
        barsOnce();
        expressions();
        within();
        laws();
        lawsByHand();
        nothingIsLeft();
        trips();
        faultsOfTrips();
        firstFault();
        whatStays();
        whatBeginsAnew();
        Check.end("TapeEdgesTest");
    }

    /** The TAPE has at most 1,000 signs; what is beyond is left out. */
    private static void tapeHoldsAThousand() {
        PassHuts x = new PassHuts();
        Check.due("999 signs", Tapes.feed(x, ";" + " ".repeat(998)), 999);
        Check.due("the 1,000th sign", x.feed('h', 0, 0), 1000);
        Check.due("the 1,001st sign", x.feed('u', 0, 0), 1000);
        Check.due("count(9)", x.count(9), 1000);
        Check.due("the first one is the first one still", x.hills(), 1);
        Tapes.feed(x, " ".repeat(999));
        Check.due("two signs for one place", x.feed(0, 0, (long) 'h' << 8 | 'u'), 1000);
        Check.due("the first of them is there", x.hills(), 1 + 16 * 999);
        Tapes.feed(x, " ".repeat(982) + "hut a inn loads 12");
        Check.due("one sign too many for ;", x.feed(';', 0, 0), 1000);
        Check.due("hills() without its ;", x.hills(), 1 + 16 * 1000);
        Tapes.feed(x, " ".repeat(981) + "hut a inn loads 12;");
        Check.due("hills() of 1,000 signs", x.hills(), 0);
        Check.due("count(0)", x.count(0), 1);
        Tapes.feed(x, "~".repeat(1000));
        Check.due("an emptied one has room again", x.hills(), 1);
        Check.due("1,000 once more", Tapes.feed(x, " ".repeat(1003)), 1000);
    }

    /** Signs 10 and 32 .. 126; others are left out. The bytes of a, b, c, of each the highest first. */
    private static void tapeTakesItsSigns() {
        PassHuts x = new PassHuts();
        int size = 0;
        for (int sign = 0; sign < 256; sign++) {
            size += sign == 10 || sign >= 32 && sign <= 126 ? 1 : 0;
            Check.due("feed of sign " + sign, x.feed((long) sign << 56, 0, 0), size);
        }
        for (int place = 0; place < 24; place++) {
            PassHuts y = new PassHuts();
            long[] abc = new long[3];
            abc[place / 8] = 126L << 56 - 8 * (place % 8);
            Check.due("feed of a sign as byte " + place, y.feed(abc[0], abc[1], abc[2]), 1);
            abc[place / 8] = 127L << 56 - 8 * (place % 8);
            Check.due("feed of none as byte " + place, y.feed(abc[0], abc[1], abc[2]), 1);
        }
        Check.due("feed of 24 signs", x.feed(-1, -1, -1), size);
        PassHuts z = new PassHuts();
        Check.due("feed of 24", z.feed(Tapes.eight("hut a in", 0), Tapes.eight("n loads ", 0), Tapes.eight("12;hut ;", 0)), 24);
        Check.due("in this order", z.hills(), 1 + 16 * 23);
        long apart = Tapes.eight("h\tu\rt\0 a", 0);
        Check.due("feed of signs with others between", z.feed(apart, Tapes.eight(" inn loa", 0), Tapes.eight("ds 1;\0\0\0", 0)), 18);
        Check.due("those are out", z.hills(), 0);
    }

    /** What reads takes it: it is empty then. */
    private static void whatReadsTakesIt() {
        PassHuts x = Check.on(TWO);
        Check.due("behind hills()", x.count(9), 0);
        Tapes.hills(x, "hut");
        Check.due("behind a fault of hills()", x.count(9), 0);
        Tapes.trip(x, "lay p;");
        Check.due("behind trip()", x.count(9), 0);
        Tapes.trip(x, "lay p");
        Check.due("behind a fault of trip()", x.count(9), 0);
        Check.due("an empty one is a trip", x.trip(), 0);
        Check.due("without lines", x.count(6), 0);
        Check.due("an empty one is hills", x.hills(), 0);
        Check.due("without huts", x.count(0), 0);
        Check.due("a short one behind a long one", Tapes.hills(x, "hut"), 1 + 16 * 3);
    }

    /** WORDS (8 letters at most), NUMBERS (1 to 4 digits); a longer one is none, at its first sign. */
    private static void wordsAndNumbers() {
        Check.taken(new PassHuts(), "hut abcdefgh inn loads 0;");
        Check.fault("hut ^abcdefghi inn loads 0;", 1);
        Check.fault("^huthuthut a", 1);
        Check.fault("hut a inn ^loadsloads 1;", 1);
        Check.fault("hut a inn ^xxxloads 1;", 1);
        Check.fault("hut a inn ^xxxxloads 1;", 1);
        Check.fault("hut p inn loads 0;hut ^xxxxxxxxp inn loads 0;", 1);
        Check.fault("hut p inn loads 0;path ^xxxxxxxxp", 1);
        Check.taken(new PassHuts(), "hut az inn loads 0;hut za inn loads 0;path az za takes 2;");
        Check.fault("hut a^`", 1);
        Check.fault("hut a^{", 1);
        Check.fault("hut a^B inn", 1);
        Check.fault("hut ^A inn", 1);
        Check.fault("hut ^Z inn", 1);
        Check.taken(new PassHuts(), "hut a inn loads 0012;");
        Check.taken(new PassHuts(), "hut a inn loads 0;hut b inn loads 0009;");
        Check.fault("hut a inn loads ^00012;", 1);
        Check.fault("hut a inn loads ^00000;", 1);
        Check.fault("hut a inn loads ^9999;", 4);
        Check.fault("hut a inn loads ^4294967297;", 1);
        Check.fault("hut a inn loads ^/1;", 1);
        Check.fault("hut a inn loads 1^:", 1);
        Check.fault("bars ^12345;", 1);
        Check.taken(new PassHuts(), "bars 1234;");
        Check.fault("bars 1 ^2;", 1);
        // A letter may stand right behind a NUMBER, a digit begins a NUMBER behind a WORD.
        Check.taken(new PassHuts(), "hut a inn loads1;bars 7and 8or here<3;");
        Check.fault("hut a^1 inn loads 1;", 1);
        Check.fault("hut ^1a inn loads 1;", 1);
        Check.fault("hut a inn loads 12^a;", 1);
        Check.fault("bars 1^hut", 1);
        Check.fault("^hutpath", 1);
        Check.fault("^-", 1);
        for (String sign : "! \" # $ % & ' , . / : > ? @ [ \\ ] _ ` { | } ~ A Z".split(" ")) {
            Check.fault("bars 1 ^" + sign + " 1;", 1);
        }
    }

    /** Blanks (10, 32) between where one likes. */
    private static void blanks() {
        PassHuts x = new PassHuts();
        Check.taken(x, "\n\n  hut\n p\nplain   loads\n\n2\n;hut q plain loads 0;path\np\nq\ntakes\n2;bars\n(\n0\n)\n;\n \n");
        Check.yes("can(0, 1)", x.can(0, 1));
        Check.tripTaken(x, "\ncarry\np  q\n;lay p;eat q ;  ");
        Check.due("lines", x.count(6), 3);
        Check.fault("^hu t a inn loads 1;", 1);
        Check.fault("hut a ^b inn loads 1;", 1);
        Check.fault("hut a inn loads 1 ^2;", 1);
        Check.fault("hut a ^i nn loads 1;", 1);
        Check.fault("hut a inn ^lo\nads 1;", 1);
        Check.taken(x, "  \n");
    }

    /** hut: 5 at most, numbered as told; the word hut of a sixth is one too many. */
    private static void huts() {
        PassHuts x = new PassHuts();
        Check.taken(x, "hut z plain loads 1;hut y inn loads 2;hut b steep loads 0;hut a small loads 3;hut m plain loads 4;");
        int[] kinds = {0, 1, 2, 3, 0};
        int[] loads = {1, 2, 0, 3, 4};
        for (int i = 0; i < 5; i++) {
            Check.due("kind of hut " + i, x.hut(i, 0), kinds[i]);
            Check.due("loads in hut " + i, x.hut(i, 1), loads[i]);
        }
        Check.due("hut(5, 0)", x.hut(5, 0), -1);
        Check.taken(x, FIVE);
        Check.due("five", x.count(0), 5);
        Check.fault(FIVE + "^hut f inn loads 1;", 5);
        Check.fault(FIVE + "^hut a inn loads 1;", 5);
        Check.fault(FIVE + "^hut", 5);
        Check.fault(FIVE + "^huts", 1);
        Check.fault(FIVE + "path ^hut", 1);
        Check.fault("^hills", 1);
        Check.fault("^;", 1);
        Check.fault("^loads 3", 1);
        Check.fault("hut^", 1);
        Check.fault("hut a^", 1);
        Check.fault("hut a inn^", 1);
        Check.fault("hut a inn loads^", 1);
        Check.fault("hut a inn loads 1^", 1);
        Check.fault("hut a inn loads 1  ^", 1);
        Check.fault("hut a inn loads 1 ^hut b", 1);
        Check.fault("hut a inn ^1", 1);
    }

    /** A NAME is another WORD than these; no two HUTS are alike. */
    private static void names() {
        for (String word : RESERVED) {
            Check.fault("hut ^" + word + " inn loads 1;", 1);
            Check.fault(TWO + "path ^" + word, 1);
            Check.fault(TWO + "path p ^" + word, 1);
            Check.fault("^" + ("hut path bars".contains(word) ? "x" : word), 1);
            Check.taken(new PassHuts(), "hut " + word + "s inn loads 1;");
        }
        for (String word : "here there price all hills trip hu huts a z".split(" ")) {
            Check.taken(new PassHuts(), "hut " + word + " inn loads 1;hut other inn loads 1;path other " + word + " takes 2;");
        }
        Check.fault("hut a inn loads 1;hut ^a inn loads 1;", 3);
        Check.fault("hut a inn loads 1;hut b inn loads 1;hut ^a", 3);
        Check.fault("hut a inn loads 1;hut ^", 1);
        Check.taken(new PassHuts(), "hut a inn loads 1;hut aa inn loads 1;hut aaaaaaaa inn loads 1;hut aaaaaaab inn loads 1;");
        PassHuts x = Check.on("hut a inn loads 1;");
        Check.taken(x, "hut a inn loads 1;");
    }

    /** KIND; loads 0 to 12, in a small one 0 to 3, 12 in all huts together. */
    private static void kindsAndLoads() {
        for (String kind : new String[] {"plain", "inn", "steep"}) {
            Check.taken(new PassHuts(), "hut a " + kind + " loads 0;");
            Check.taken(new PassHuts(), "hut a " + kind + " loads 12;");
            Check.fault("hut a " + kind + " loads ^13;", 4);
        }
        Check.taken(new PassHuts(), "hut a small loads 0;");
        Check.taken(new PassHuts(), "hut a small loads 3;");
        Check.fault("hut a small loads ^4;", 4);
        Check.fault("hut a ^Small loads 1;", 1);
        Check.fault("hut a ^here loads 1;", 1);
        Check.fault("hut a ^loads 1;", 1);
        Check.fault("hut a ^smalls loads 1;", 1);
        for (String word : RESERVED) {
            boolean isKind = "plain inn steep small".contains(word);
            Check.due("KIND " + word, Tapes.hills(new PassHuts(), "hut a " + word + " loads 1;"), isKind ? 0 : 1 + 16 * 6);
        }
        Check.taken(new PassHuts(), "hut a plain loads 7;hut b plain loads 5;");
        Check.fault("hut a plain loads 7;hut b plain loads ^6;", 4);
        Check.taken(new PassHuts(), "hut a plain loads 12;hut b plain loads 0;");
        Check.fault("hut a plain loads 12;hut b plain loads ^1;", 4);
        Check.taken(new PassHuts(), "hut a plain loads 9;hut b small loads 3;");
        Check.fault("hut a plain loads 10;hut b small loads ^3;", 4);
        Check.taken(new PassHuts(), "hut a plain loads 10;hut b small loads 2;");
        Check.taken(new PassHuts(), "hut a small loads 3;hut b small loads 3;hut c small loads 3;hut d small loads 3;hut e inn loads 0;");
        Check.fault("hut a small loads 3;hut b small loads 3;hut c small loads 3;hut d small loads 3;hut e inn loads ^1;", 4);
        Check.fault("hut a plain loads ^-1;", 1);
        Check.fault("hut a plain loads ^;", 1);
        Check.fault("hut a plain loads ^x;", 1);
        PassHuts x = new PassHuts();
        Check.taken(x, "hut a plain loads 12;");
        Check.taken(x, "hut a plain loads 12;");
        Check.due("loads of the other hills don't count", x.count(2), 12);
    }

    /** path: between two HUTS told, not the same, each two have one at most; takes 2 to 4. */
    private static void paths() {
        String three = "hut p plain loads 2;hut q plain loads 0;hut r inn loads 0;";
        for (int takes = 0; takes <= 6; takes++) {
            if (takes >= 2 && takes <= 4) {
                PassHuts x = new PassHuts();
                Check.taken(x, three + "path q p takes " + takes + ";");
                Check.due("price(0, 1)", x.price(0, 1), takes);
                Check.due("price(1, 0)", x.price(1, 0), takes);
                Check.due("price(0, 2)", x.price(0, 2), -1);
                Check.due("count(1)", x.count(1), 1);
            } else {
                Check.fault(three + "path q p takes ^" + takes + ";", 4);
            }
        }
        Check.fault(three + "path p ^p takes 2;", 3);
        Check.fault(three + "path ^x p takes 2;", 2);
        Check.fault(three + "path p ^x takes 2;", 2);
        Check.fault(three + "path ^x x takes 2;", 2);
        Check.fault("hut p plain loads 2;path p ^q takes 2;hut q plain loads 1;", 2);
        Check.fault("path ^p q takes 2;" + three, 2);
        Check.fault(three + "path p q takes 2;path p ^q takes 2;", 3);
        Check.fault(three + "path p q takes 2;path q ^p takes 2;", 3);
        Check.fault(three + "path p q takes 2;path p r takes 2;path q r takes 3;path r ^p takes 2;", 3);
        Check.taken(new PassHuts(), three + "path p q takes 2;path p r takes 2;path q r takes 3;");
        Check.fault(three + "path^", 1);
        Check.fault(three + "path ^1", 1);
        Check.fault(three + "path p^", 1);
        Check.fault(three + "path p ^;", 1);
        Check.fault(three + "path p q^", 1);
        Check.fault(three + "path p q ^take 2;", 1);
        Check.fault(three + "path p q takes^", 1);
        Check.fault(three + "path p q takes ^two;", 1);
        Check.fault(three + "path p q takes 2^", 1);
        Check.fault(three + "path p q takes 2 ^path", 1);
        String names = "abcde";
        StringBuilder all = new StringBuilder(FIVE);
        for (int i = 0; i < 5; i++) {
            for (int j = i + 1; j < 5; j++) {
                all.append("path ").append(names.charAt(i)).append(' ').append(names.charAt(j)).append(" takes 2;");
            }
        }
        PassHuts x = new PassHuts();
        Check.taken(x, all.toString());
        Check.due("count(1) of all", x.count(1), 10);
        Check.due("hut(4, 2)", x.hut(4, 2), 15);
        Check.due("hut(0, 2)", x.hut(0, 2), 30);
        Check.taken(x, FIVE);
        Check.due("no path of the other hills", x.count(1), 0);
        Check.due("hut(0, 2)", x.hut(0, 2), 0);
        Check.due("price(0, 1)", x.price(0, 1), -1);
        Check.taken(x, FIVE + "path a b takes 2;");
        Check.due("a path is told anew", x.count(1), 1);
    }

    /** bars: once; a second time is a fault at its word. */
    private static void barsOnce() {
        Check.taken(new PassHuts(), "bars 0;" + TWO);
        Check.fault("bars 0;^bars 0;", 3);
        Check.fault("bars 0;" + TWO + "^bars 1;", 3);
        Check.fault("bars 0;^bars", 3);
        Check.fault("bars ^bars", 1);
        Check.fault("bars 0 ^bars", 1);
        PassHuts x = new PassHuts();
        Check.taken(x, TWO + "bars 1;");
        Check.no("barred", x.can(0, 1));
        Check.taken(x, TWO);
        Check.yes("without bars: 0", x.can(0, 1));
        Check.due("bars that are a fault", Tapes.hills(x, TWO + "bars 1"), 1 + 16 * (TWO.length() + 6));
        Check.yes("still without bars", x.can(0, 1));
        Check.taken(x, TWO + "bars 0;");
        Check.yes("bars 0", x.can(0, 1));
        Check.due("paths ahead of bars hold", x.count(1), 1);
    }

    /** E, TEST, SUM, PRODUCT, PART: what can stand where. */
    private static void expressions() {
        for (String part : "0 9999 here there price all (1) not1".split(" ")) {
            Check.taken(new PassHuts(), "bars " + part.replace("not", "not ") + ";");
            Check.taken(new PassHuts(), "bars " + part.replace("not", "not ") + "<0;");
        }
        for (String sign : "< = + - * and or".split(" ")) {
            Check.taken(new PassHuts(), "bars 1 " + sign + " 1;");
            Check.fault("bars 1 " + sign + "^", 1);
            Check.fault("bars 1 " + sign + " ^;", 1);
            Check.fault("bars 1 " + sign + " ^)", 1);
            Check.fault("bars ^" + sign + " 1;", 1);
            Check.fault("bars 1 " + sign + " ^" + sign + " 1;", 1);
            Check.fault("bars (1 " + sign + " 1^;", 1);
        }
        Check.taken(new PassHuts(), "bars 1 < 2 and 2 = 2 or 3 < 1 and 4;");
        Check.fault("bars 1 < 2 ^< 3;", 1);
        Check.fault("bars 1 < 2 ^= 3;", 1);
        Check.fault("bars 1 = 2 ^< 3;", 1);
        Check.fault("bars (1 < 2 ^< 3);", 1);
        Check.taken(new PassHuts(), "bars (1 < 2) < 3;");
        Check.taken(new PassHuts(), "bars 1 + 2 < 3 * 4 - 5;");
        Check.taken(new PassHuts(), "bars not here = 0 and not (there + 1);");
        Check.fault("bars^", 1);
        Check.fault("bars ^;", 1);
        Check.fault("bars (^", 1);
        Check.fault("bars (^);", 1);
        Check.fault("bars (1^", 1);
        Check.fault("bars (1^;", 1);
        Check.fault("bars (1)^", 1);
        Check.fault("bars (1)^);", 1);
        Check.fault("bars 1^)", 1);
        Check.fault("bars not^", 1);
        Check.fault("bars not ^;", 1);
        Check.fault("bars not ^and 1;", 1);
        Check.fault("bars 1 ^not 1;", 1);
        Check.fault("bars 1 ^(1);", 1);
        Check.fault("bars here ^there;", 1);
        Check.fault("bars ^loads;", 1);
        Check.fault("bars ^hut", 1);
        Check.fault(TWO + "bars ^p;", 1);
        Check.fault("bars ^heres;", 1);
        Check.fault("bars ^al;", 1);
    }

    /** No PART lies within 5 of not and ( ): not, or a PART, within 5 others is a fault. */
    private static void within() {
        Check.taken(new PassHuts(), "bars not not not not 1;");
        Check.fault("bars not not not not not ^1;", 5);
        Check.fault("bars not not not not not ^not 1;", 5);
        Check.fault("bars not not not not not ^(1);", 5);
        Check.fault("bars not not not not not ^here;", 5);
        Check.fault("bars not not not not not ^there;", 5);
        Check.fault("bars not not not not not ^price;", 5);
        Check.fault("bars not not not not not ^all;", 5);
        Check.fault("bars not not not not not ^;", 1);
        Check.fault("bars not not not not not^", 1);
        Check.fault("bars not not not not not ^)", 1);
        Check.fault("bars not not not not not ^elsewher;", 1);
        Check.fault("bars not not not not not ^12345;", 1);
        Check.taken(new PassHuts(), "bars ((((1))));");
        Check.fault("bars (((((^1)))));", 5);
        Check.fault("bars (((((^(", 5);
        Check.fault("bars (((((^not", 5);
        Check.fault("bars (((((^)", 1);
        Check.taken(new PassHuts(), "bars not (not (1 + here) * 2) < 3;");
        Check.fault("bars not (not (not ^1));", 5);
        Check.fault("bars ((((1 + (^1)))));", 5);
        Check.fault("bars ((((1 + not ^1))));", 5);
        Check.fault("bars ((((1 * 2 - 3 < 4 and 5 or not ^6))));", 5);
        // Behind what was closed one begins outside again.
        Check.taken(new PassHuts(), "bars ((((1)))) + ((((1)))) * not not not not 1 < ((((1)))) and not not not not 1;");
        Check.taken(new PassHuts(), "bars ((((1) + (2)) * ((3))) - (((4))));");
    }

    private static void law(String bars, int here, int there, boolean barred) {
        PassHuts x = new PassHuts();
        Check.taken(x, "hut p plain loads " + here + ";hut q plain loads " + there + ";path p q takes 2;bars " + bars + ";");
        Check.due("can(0, 1) by bars " + bars, x.can(0, 1) ? 1 : 0, barred ? 0 : 1);
    }

    private static void laws() {
        // What is not 0 is so; of not, and, or, < and = comes 1 or 0.
        law("0", 2, 0, false);
        law("1", 2, 0, true);
        law("0 - 1", 2, 0, true);
        law("2 - 2", 2, 0, false);
        law("not 0 - 1", 2, 0, false);
        law("not 5 = 0", 2, 0, true);
        law("(5 and 6) = 1", 2, 0, true);
        law("(0 and 6) = 0 and (6 and 0) = 0", 2, 0, true);
        law("(5 or 6) = 1 and (0 or 6) = 1 and (6 or 0) = 1 and (0 or 0) = 0", 2, 0, true);
        law("(0 - 3 and 1) + (0 - 3 or 0) = 2", 2, 0, true);
        law("(1 < 2) = 1 and (2 < 2) = 0 and (3 < 2) = 0", 2, 0, true);
        law("(2 = 2) = 1 and (1 = 2) = 0 and (3 = 2) = 0", 2, 0, true);
        // From the left; and and or alike.
        law("1 or 1 and 0", 2, 0, false);
        law("0 and 1 or 1", 2, 0, true);
        law("1 or (1 and 0)", 2, 0, true);
        law("7 - 4 - 3", 2, 0, false);
        law("7 - 4 + 3 = 6", 2, 0, true);
        law("2 + 3 * 4 = 14 and 3 * 4 + 2 = 14 and 20 - 3 * 4 = 8", 2, 0, true);
        law("not 0 * 5 = 5", 2, 0, true);
        law("not 1 + 1 = 1", 2, 0, true);
        // Ints wrap.
        law("8192 * 8192 * 31 + 9999 * 6000 < 0", 2, 0, false);
        law("8192 * 8192 * 32 < 0", 2, 0, true);
        law("8192 * 8192 * 32 - 1 < 0", 2, 0, false);
        law("8192 * 8192 * 32 - 1 + 1 < 0", 2, 0, true);
        law("8192 * 8192 * 64", 2, 0, false);
        law("8192 * 8192 * 64 + 1", 2, 0, true);
        law("8192 * 8192 * 32 = 0 - 8192 * 8192 * 32", 2, 0, true);
        // here, there, price, all.
        law("here = 3", 3, 1, true);
        law("here = 1", 3, 1, false);
        law("there = 1", 3, 1, true);
        law("there = 3", 3, 1, false);
        law("all = 4", 3, 1, true);
        law("all = 3", 3, 1, false);
        law("price = 2", 3, 1, true);
        law("price = 1", 3, 1, false);
        law("here = 12 and there = 0 and all = 12", 12, 0, true);
        law("here = 2 and there = 10 and all = 12", 2, 10, true);
        PassHuts x = new PassHuts();
        Check.taken(x, "hut a inn loads 4;hut b steep loads 5;hut c plain loads 1;path a b takes 4;path b c takes 4;"
            + "bars price = 5 or here = 4 and all = 10 and there = 1;");
        Check.yes("can(0, 1): 4, 5 by 4", x.can(0, 1));
        Check.yes("can(1, 2): 5, 1 by 4", x.can(1, 2));
        x.eat(1);
        x.lay(0);
        Check.no("can(1, 2): 4, 1 of 10 by 4", x.can(1, 2));
        x.eat(0);
        Check.yes("can(1, 2): 4, 1 of 9 by 4", x.can(1, 2));
        for (int i = 0; i < 3; i++) {
            x.lay(2);
        }
        Check.yes("can(1, 2): 4, 4 of 12", x.can(1, 2));
        x.lay(2);
        Check.no("can(2, 1): 4 and more by 5", x.can(2, 1));
    }

    /** Each way in many ways to lie, by laws of all four facts, beside the same by hand. */
    private static void lawsByHand() {
        String[] laws = {"here * 3 + there * 5 + all * 7 + price * 11 < 110 and here + all - there * price",
            "price = 3 or here - there = 2 or all = 7 and not there", "here * there = all or price * here = all + there",
            "all - here - there < 2 and here < 3 + there", "(price < 3) = (here < 5)"};
        for (int i = 0; i < laws.length; i++) {
            java.util.Random random = new java.util.Random(i);
            for (int round = 0; round < 12; round++) {
                PassHuts x = new PassHuts();
                Check.taken(x, "hut a plain loads 4;hut b steep loads 3;hut c small loads 2;hut d inn loads 1;path a b takes 2;"
                    + "path a c takes 2;path b c takes 3;path d a takes 4;path d b takes 4;bars " + laws[i] + ";");
                for (int step = 0; step < 16; step++) {
                    allWaysByHand(x, i);
                    if (random.nextInt(5) < 2) {
                        x.eat(random.nextInt(4));
                    } else {
                        x.lay(random.nextInt(4));
                    }
                }
            }
        }
    }

    private static void allWaysByHand(PassHuts x, int law) {
        int[][] price = {{0, 3, 2, 4}, {2, 0, 3, 4}, {2, 4, 0, 0}, {3, 4, 0, 0}};
        int[] loads = {x.hut(0, 1), x.hut(1, 1), x.hut(2, 1), x.hut(3, 1)};
        int all = loads[0] + loads[1] + loads[2] + loads[3];
        for (int from = 0; from < 4; from++) {
            for (int to = 0; to < 4; to++) {
                boolean can = price[from][to] > 0 && loads[from] >= price[from][to] && (to != 2 || loads[2] < 3);
                boolean barred = barredByHand(law, loads[from], loads[to], price[from][to], all);
                Check.due("can(" + from + ", " + to + ") by law " + law + " of " + loads[0] + loads[1] + loads[2] + loads[3],
                    x.can(from, to) ? 1 : 0, can && !barred ? 1 : 0);
            }
        }
    }

    private static boolean barredByHand(int law, int here, int there, int price, int all) {
        switch (law) {
            case 0:
                return here * 3 + there * 5 + all * 7 + price * 11 < 110 && here + all - there * price != 0;
            case 1:
                return (price == 3 || here - there == 2 || all == 7) && there == 0;
            case 2:
                return here * there == all || price * here == all + there;
            case 3:
                return all - here - there < 2 && here < 3 + there;
            default:
                return price < 3 == here < 5;
        }
    }

    /** HILLS are the HILLS from then on, TRIPS the TRIP: nothing of the ones before, nor of FAULTS, is left. */
    private static void nothingIsLeft() {
        String[] hills = {FIVE + "path a b takes 2;path b c takes 3;path c d takes 4;path d e takes 2;path e a takes 3;",
            "hut a small loads 3;hut b small loads 3;hut c small loads 2;path a b takes 2;path b c takes 2;bars here = 3;", TWO,
            "hut a plain loads 5;hut b plain loads 0;hut c plain loads 1;path b c takes 2;", FIVE, TWO + "bars all = 2;",
            "hut p steep loads 12;hut q plain loads 0;path q p takes 4;", "", "hut a small loads 1;", "hut p plain loads 2;"
            + "hut q plain loads 0;"};
        String[] faults = {FIVE + "path a c takes 2;path b e takes 2;path c e", "hut a small loads 3;hut b small loads 3;bars 1;;",
            "hut q small loads 1;hut p steep loads 3;path p q takes 4;bars 0 or", "bars 1;x"};
        PassHuts x = new PassHuts();
        int calls = 0;
        for (int i = 0; i < 60; i++) {
            String text = hills[(i * 7 + i / 10) % hills.length];
            if (calls > 350) {
                x = new PassHuts();
                calls = 0;
            }
            if (i % 3 == 0) {
                Check.yes("a fault", Tapes.hills(x, faults[i % faults.length]) > 0);
            }
            Check.taken(x, text);
            Check.yes("all as of " + text + " alone", Sight.ofHills(x).equals(Sight.ofHills(Check.on(text))));
            calls += 110;
        }
        PassHuts y = Check.on(TWO);
        String[] trips = {"lay p;lay q;eat p;", "", "carry p q;", "eat q;eat q;lay p;lay p;lay p;", "lay q;"};
        for (int i = 0; i < 15; i++) {
            Check.yes("a fault", Tapes.trip(y, "eat p;eat p;eat p;lay q") > 0);
            Check.tripTaken(y, trips[i % 5]);
            PassHuts alone = Check.on(TWO);
            Check.tripTaken(alone, trips[i % 5]);
            for (int what = 0; what <= 2; what++) {
                Check.due("judged(" + what + ") of " + trips[i % 5], y.judged(what), alone.judged(what));
            }
        }
    }

    /** TRIP: any number of lines of three forms, 40 at most; from a HUT to another one. */
    private static void trips() {
        PassHuts x = new PassHuts();
        Check.taken(x, TWO + "hut r plain loads 0;");
        Check.tripTaken(x, "");
        Check.due("no lines", x.count(6), 0);
        Check.tripTaken(x, "carry r p;carry q p;carry p q;lay p;lay r;eat q;eat r;");
        Check.due("a way without a path can be told", x.count(6), 7);
        Check.tripTaken(x, "lay p;".repeat(40));
        Check.due("forty", x.count(6), 40);
        Check.tripFault(x, "lay p;".repeat(40) + "^lay p;", 5);
        Check.tripFault(x, "lay p;".repeat(40) + "^eat z;", 5);
        Check.tripFault(x, "lay p;".repeat(40) + "^carry;", 5);
        Check.tripFault(x, "lay p;".repeat(40) + "^hut;", 1);
        Check.tripFault(x, "lay p;".repeat(40) + "^;", 1);
        Check.tripFault(x, "lay p;".repeat(40) + "^laylaylay;", 1);
        Check.tripFault(x, "lay p;".repeat(39) + "lay p^", 1);
        Check.tripFault(x, "lay p;".repeat(39) + "lay ^z", 2);
        Check.due("forty as ahead", x.count(6), 40);
        Check.tripTaken(x, "lay p;".repeat(39) + "\n");
        Check.due("thirty-nine", x.count(6), 39);
        Check.tripTaken(x, "carry p q;".repeat(40) + " ");
        Check.due("judged(0) of forty", x.judged(0), 1);
    }

    private static void faultsOfTrips() {
        PassHuts x = new PassHuts();
        Check.tripFault(x, "lay ^p;", 2);
        Check.tripFault(x, "carry ^p;", 2);
        Check.taken(x, TWO);
        Check.tripFault(x, "^hut p plain loads 2;", 1);
        Check.tripFault(x, "^path p q takes 2;", 1);
        Check.tripFault(x, "^bars 1;", 1);
        Check.tripFault(x, "^p;", 1);
        Check.tripFault(x, "^7", 1);
        for (String word : RESERVED) {
            Check.tripFault(x, "lay ^" + word + ";", 1);
            Check.tripFault(x, "eat ^" + word + ";", 1);
            Check.tripFault(x, "carry ^" + word + ";", 1);
            Check.tripFault(x, "carry p ^" + word + ";", 1);
        }
        for (String begun : new String[] {"carry", "carry p", "carry p q", "lay", "lay p", "eat", "eat p", "eat p "}) {
            Check.tripFault(x, begun + "^", 1);
        }
        Check.tripFault(x, "carry p ^p;", 3);
        Check.tripFault(x, "carry ^z z;", 2);
        Check.tripFault(x, "carry p ^z;", 2);
        Check.tripFault(x, "carry p ^;", 1);
        Check.tripFault(x, "carry p q ^p;", 1);
        Check.tripFault(x, "lay ^z;", 2);
        Check.tripFault(x, "lay p ^q;", 1);
        Check.tripFault(x, "eat ^z;", 2);
        Check.tripFault(x, "eat ^pp;", 2);
        Check.tripFault(x, "eat p ^eat q;", 1);
        Check.tripFault(x, "eat p;^;", 1);
        Check.tripFault(x, "lay ^here;", 2);
    }

    /** Of the first token from the left that is wrong the least; the end is one at the text's length. */
    private static void firstFault() {
        Check.fault("hut a inn loads ^13;hut a", 4);
        Check.fault("hut a inn loads 1;hut ^a inn loads 13;", 3);
        Check.fault("hut a inn loads 1;path ^b a takes 9", 2);
        Check.fault("hut a inn loads 1;path a ^a takes 9", 3);
        Check.fault(FIVE + "path a b takes ^9;hut f", 4);
        Check.fault(FIVE + "^hut a inn loads 99;", 5);
        Check.fault("bars (((((^((12345;", 5);
        Check.fault("bars 1 + ^12345;bars 1;", 1);
        Check.fault("hut a inn loads 1\n \n^", 1);
        Check.fault("hut a inn loads 1;\n^!\n", 1);
        Check.taken(new PassHuts(), "hut a inn loads 1;\n \n");
    }

    /** All stays when there is a FAULT. */
    private static void whatStays() {
        PassHuts x = new PassHuts();
        Check.taken(x, "hut p plain loads 5;hut q inn loads 0;hut r steep loads 1;path p q takes 2;bars there = 2;");
        Check.tripTaken(x, "carry p q;lay r;eat p;");
        x.carry(0, 1);
        x.mark(2, false);
        x.lay(2);
        x.see(0, 2, true);
        String[] faults = {"hut", "hut a inn loads 3;hut b inn loads 3;path a b takes 2;bars not", "bars 1;bars 2;", "lay p;",
            FIVE + "hut f", "path p q takes 2;"};
        Check.unchanged(x, "faults of hills()", () -> {
            for (String fault : faults) {
                Check.no("hills() without a fault", Tapes.hills(x, fault) == 0);
            }
        });
        Check.unchanged(x, "faults of trip()", () -> {
            for (String fault : new String[] {"lay", "lay q;eat z;", "hut p plain loads 1;", "lay r;".repeat(41)}) {
                Check.no("trip() without a fault", Tapes.trip(x, fault) == 0);
            }
        });
        Check.due("price(0, 1)", x.price(0, 1), 2);
        Check.due("price(1, 0)", x.price(1, 0), 2);
        x.lay(1);
        Check.no("can(0, 1) by the law of before", x.can(0, 1));
        Check.tripTaken(x, "lay p;");
        Check.yes("undo()", x.undo());
        Check.yes("undo()", x.undo());
        Check.due("count(2)", x.count(2), 5);
        Check.yes("mark(2, true)", x.mark(2, true));
        Check.due("count(7)", x.count(7), 0);
        Check.due("count(3)", x.count(3), 1);
    }

    /** Without a FAULT: loads as told, nothing carried, no TRIP, nothing SEEN, nothing can be undone, no MARK is there. */
    private static void whatBeginsAnew() {
        PassHuts x = new PassHuts();
        for (int round = 0; round < 2; round++) {
            Check.taken(x, TWO);
            Check.due("loads as told", x.hut(0, 1), 2);
            Check.due("loads as told", x.hut(1, 1), 0);
            Check.due("nothing carried", x.count(3), 0);
            Check.due("no TRIP", x.count(6), 0);
            Check.due("nothing SEEN", x.count(7), 0);
            Check.due("nothing SEEN", x.fit(), 3);
            Check.due("nothing can be undone", x.count(8), 0);
            Check.no("nothing can be undone", x.undo());
            for (int mark = 0; mark < 4; mark++) {
                Check.no("no MARK is there", x.mark(mark, true));
            }
            for (int mark = 0; mark < 4; mark++) {
                Check.yes("mark", x.mark(mark, false));
            }
            Check.tripTaken(x, "lay p;eat p;");
            Check.due("carry(0, 1)", x.carry(0, 1), 2);
            Check.due("lay(0)", x.lay(0), 1);
            Check.yes("see", x.see(0, 1, true));
        }
        Check.tripTaken(x, "eat q;");
        Check.due("a TRIP changes not how all lies", x.hut(0, 1), 1);
        Check.due("nor what was carried", x.count(3), 1);
        Check.due("nor what is SEEN", x.count(7), 1);
        Check.due("nor what can be undone", x.count(8), 2);
        Check.due("a TRIP is the TRIP", x.count(6), 1);
        Check.yes("nor a MARK", x.mark(3, true));
        Check.due("a MARK leaves the TRIP", x.count(6), 1);
    }
}
