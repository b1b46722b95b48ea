/** Terms, part 2, and promises 5 to 12, 43, 49: each bound on both its sides, and what a refused call leaves as it is. */
public final class CarryEdgesTest {
    private static final int[] NO_HUTS = {Integer.MIN_VALUE, -65536, -33, -32, -8, -2, -1, 3, 4, 5, 8, 31, 32, 33, 64, 65536,
        Integer.MAX_VALUE};
    private static final String THREE = "hut p plain loads 5;hut q small loads 2;hut r steep loads 0;path p q takes 3;"
        + "path q r takes 2;";

    private CarryEdgesTest() { }

    public static void main(String[] args) {
        pricesOfAllKinds();
        full();
        carriesIfThereAreAsMany();
        carriesIfNotFull();
        carriesIfNotBarred();
        lays();
        eats();
        refusals();
        undoesSixteen();
        undoesOneByOne();
        undoesWhatWasDone();
        judgedFromTheBegin();
        judgedLines();
        seesEight();
        marksHold();
        marksAndUndo();
        huts();
        Check.end("CarryEdgesTest");
    }

    /** PRICE: what it takes, from an inn one less (2 at least), to a steep one one more. */
    private static void pricesOfAllKinds() {
        String[] kinds = {"plain", "inn", "steep", "small"};
        for (int from = 0; from < 4; from++) {
            for (int to = 0; to < 4; to++) {
                for (int takes = 2; takes <= 4; takes++) {
                    PassHuts x = Check.on("hut a " + kinds[from] + " loads 0;hut b " + kinds[to] + " loads 0;path b a takes "
                        + takes + ";");
                    int due = from == 1 && takes > 2 ? takes - 1 : takes;
                    String way = kinds[from] + " to " + kinds[to] + ", takes " + takes;
                    Check.due("price(0, 1), " + way, x.price(0, 1), to == 2 ? due + 1 : due);
                    int back = to == 1 && takes > 2 ? takes - 1 : takes;
                    Check.due("price(1, 0), back of " + way, x.price(1, 0), from == 2 ? back + 1 : back);
                }
            }
        }
        PassHuts x = Check.on("hut a inn loads 0;hut b steep loads 0;hut c steep loads 0;path a b takes 2;path b c takes 4;");
        Check.due("price(0, 1): 2 at least, then one more", x.price(0, 1), 3);
        Check.due("price(1, 2): the dearest", x.price(1, 2), 5);
        Check.due("price(0, 2), no path", x.price(0, 2), -1);
        Check.due("price(0, 0)", x.price(0, 0), -1);
        for (int other : NO_HUTS) {
            Check.due("price(0, " + other + ")", x.price(0, other), -1);
            Check.due("price(" + other + ", 0)", x.price(other, 0), -1);
            Check.due("price(" + other + ", " + other + ")", x.price(other, other), -1);
        }
        Check.due("price(0, 0) without huts", new PassHuts().price(0, 0), -1);
    }

    /** A HUT is FULL if it is small and has 3 loads. */
    private static void full() {
        PassHuts x = Check.on("hut p plain loads 3;hut q inn loads 3;hut r steep loads 3;hut s small loads 2;");
        for (int hut = 0; hut < 4; hut++) {
            Check.due("hut(" + hut + ", 3)", x.hut(hut, 3), 0);
        }
        x.lay(3);
        Check.due("hut(3, 3) with three", x.hut(3, 3), 1);
        x.eat(3);
        Check.due("hut(3, 3) with two", x.hut(3, 3), 0);
        Check.due("hut(0, 3) with twelve", Check.on("hut p plain loads 12;").hut(0, 3), 0);
    }

    /** As many loads as the PRICE are taken up in the first HUT, if they are there. */
    private static void carriesIfThereAreAsMany() {
        for (int takes = 2; takes <= 4; takes++) {
            String hills = "hut q plain loads 1;path p q takes " + takes + ";";
            PassHuts less = Check.on("hut p plain loads " + (takes - 1) + ";" + hills);
            Check.no("can(0, 1) of one less than " + takes, less.can(0, 1));
            Check.unchanged(less, "carry of one less", () -> Check.due("carry(0, 1)", less.carry(0, 1), -1));
            PassHuts just = Check.on("hut p plain loads " + takes + ";" + hills);
            Check.yes("can(0, 1) of just " + takes, just.can(0, 1));
            Check.due("carry(0, 1) of just as many", just.carry(0, 1), takes);
            Check.due("hut(0, 1)", just.hut(0, 1), 0);
            Check.due("hut(1, 1)", just.hut(1, 1), 2);
            Check.due("count(2)", just.count(2), 2);
            Check.due("count(3)", just.count(3), 1);
            PassHuts more = Check.on("hut p plain loads " + (takes + 1) + ";" + hills);
            Check.due("carry(0, 1) of one more", more.carry(0, 1), takes);
            Check.due("hut(0, 1)", more.hut(0, 1), 1);
        }
        PassHuts dear = Check.on("hut p steep loads 4;hut q steep loads 0;path p q takes 4;");
        Check.due("carry(0, 1) by 5 of four", dear.carry(0, 1), -1);
        dear.lay(0);
        Check.due("carry(0, 1) by 5 of five", dear.carry(0, 1), 5);
        PassHuts twelve = Check.on("hut p plain loads 12;hut q plain loads 0;path p q takes 2;");
        Check.due("carry(0, 1) of twelve", twelve.carry(0, 1), 2);
        Check.due("hut(0, 1)", twelve.hut(0, 1), 10);
        PassHuts many = Check.on("hut p plain loads 2;hut q plain loads 10;path p q takes 2;");
        Check.due("carry(0, 1) to ten", many.carry(0, 1), 2);
        Check.due("hut(1, 1)", many.hut(1, 1), 11);
    }

    /** .. and one is laid down in the other one, if that is not FULL. */
    private static void carriesIfNotFull() {
        PassHuts x = Check.on("hut p plain loads 5;hut q small loads 2;path p q takes 2;");
        Check.yes("can(0, 1) to two", x.can(0, 1));
        Check.due("carry(0, 1) to two", x.carry(0, 1), 2);
        Check.due("hut(1, 1)", x.hut(1, 1), 3);
        Check.no("can(0, 1) to three", x.can(0, 1));
        Check.unchanged(x, "carry to a full one", () -> Check.due("carry(0, 1)", x.carry(0, 1), -1));
        Check.due("carry(1, 0) from a full one", x.carry(1, 0), 2);
        Check.yes("can(0, 1) then", x.can(0, 1));
        PassHuts y = Check.on("hut p plain loads 5;hut q plain loads 3;path p q takes 2;");
        Check.due("carry(0, 1) to three in a plain one", y.carry(0, 1), 2);
    }

    /** .. and the E of bars is 0, as all is ahead of it. */
    private static void carriesIfNotBarred() {
        PassHuts x = Check.on("hut p plain loads 5;hut q plain loads 1;path p q takes 2;bars here = 4 or there = 2 or all = 5;");
        Check.yes("can(0, 1)", x.can(0, 1));
        Check.due("carry(0, 1): 3, 2 of 5 lie behind it", x.carry(0, 1), 2);
        Check.no("can(0, 1) then", x.can(0, 1));
        Check.unchanged(x, "a barred carry", () -> Check.due("carry(0, 1)", x.carry(0, 1), -1));
        x.lay(1);
        Check.yes("can(0, 1): 3, 3 of 6", x.can(0, 1));
        Check.yes("can(1, 0): 3, 3 of 6", x.can(1, 0));
        x.lay(0);
        Check.no("can(0, 1): 4, 3 of 7", x.can(0, 1));
        Check.yes("can(1, 0): 3, 4 of 7", x.can(1, 0));
    }

    /** LAY: one load more in a HUT that is not FULL, if there are fewer than 12 in all. */
    private static void lays() {
        PassHuts x = Check.on("hut p plain loads 11;hut q small loads 0;");
        Check.due("lay(1) of the twelfth", x.lay(1), 1);
        Check.unchanged(x, "a thirteenth", () -> {
            Check.due("lay(0)", x.lay(0), -1);
            Check.due("lay(1)", x.lay(1), -1);
        });
        x.eat(0);
        Check.due("lay(1) of the twelfth", x.lay(1), 2);
        x.eat(0);
        Check.due("lay(1) of the third", x.lay(1), 3);
        x.eat(0);
        Check.unchanged(x, "a fourth in a small one", () -> Check.due("lay(1)", x.lay(1), -1));
        Check.due("lay(0)", x.lay(0), 9);
        PassHuts y = Check.on("hut p inn loads 0;hut q plain loads 0;");
        for (int i = 1; i <= 12; i++) {
            Check.due("lay(1)", y.lay(1), i);
        }
        Check.due("lay(1) of a thirteenth", y.lay(1), -1);
        Check.due("lay(0) of a thirteenth", y.lay(0), -1);
        Check.due("lay(0) without huts", new PassHuts().lay(0), -1);
    }

    /** EAT: one less in a HUT that has one. */
    private static void eats() {
        PassHuts x = Check.on("hut p plain loads 2;hut q plain loads 1;");
        Check.due("eat(0)", x.eat(0), 1);
        Check.due("eat(0) of the last", x.eat(0), 0);
        Check.unchanged(x, "eat of none", () -> Check.due("eat(0)", x.eat(0), -1));
        Check.due("eat(1)", x.eat(1), 0);
        Check.due("eat(1) of none", x.eat(1), -1);
        Check.due("lay(0) then", x.lay(0), 1);
        Check.due("eat(0) then", x.eat(0), 0);
        Check.due("eat(0) without huts", new PassHuts().eat(0), -1);
    }

    /** Of others NONE, false; nothing has changed then, and nothing more can be undone. */
    private static void refusals() {
        PassHuts x = Check.on(THREE);
        Check.tripTaken(x, "carry p q;");
        x.carry(0, 1);
        x.see(1, 2, true);
        x.mark(1, false);
        Check.unchanged(x, "calls of no huts", () -> {
            for (int other : NO_HUTS) {
                Check.due("carry(0, " + other + ")", x.carry(0, other), -1);
                Check.due("carry(" + other + ", 1)", x.carry(other, 1), -1);
                Check.no("can(0, " + other + ")", x.can(0, other));
                Check.no("can(" + other + ", 1)", x.can(other, 1));
                Check.due("lay(" + other + ")", x.lay(other), -1);
                Check.due("eat(" + other + ")", x.eat(other), -1);
                Check.no("see(" + other + ", 1, true)", x.see(other, 1, true));
                Check.no("mark of none such", (other < 0 || other > 3) && x.mark(other, false));
            }
        });
        Check.unchanged(x, "calls of what can't be", () -> {
            Check.due("carry(0, 2), no path", x.carry(0, 2), -1);
            Check.due("carry(1, 1)", x.carry(1, 1), -1);
            Check.due("carry(2, 1), none there", x.carry(2, 1), -1);
            Check.due("carry(0, 1), too few", x.carry(0, 1), -1);
            Check.due("lay(1), full", x.lay(1), -1);
            Check.due("eat(2), none there", x.eat(2), -1);
            Check.no("see(0, 0, true)", x.see(0, 0, true));
            Check.no("see(0, 13, false)", x.see(0, 13, false));
            Check.no("mark(0, true), nothing is on it", x.mark(0, true));
        });
        Check.yes("undo() of the one carrying", x.undo());
        Check.due("hut(0, 1)", x.hut(0, 1), 5);
        Check.unchanged(x, "undo() of nothing", () -> Check.no("undo()", x.undo()));
        Check.yes("mark(1, true)", x.mark(1, true));
        Check.due("count(3)", x.count(3), 1);
    }

    /** UNDO: all of these, the last 16. */
    private static void undoesSixteen() {
        for (int done = 0; done <= 20; done++) {
            PassHuts x = Check.on("hut p plain loads 0;hut q plain loads 0;hut r plain loads 0;");
            String[] lay = new String[done + 1];
            for (int i = 0; i < done; i++) {
                lay[i] = "" + x.hut(0, 1) + x.hut(1, 1) + x.hut(2, 1);
                if (i % 4 == 3) {
                    x.eat(i % 3);
                } else {
                    x.lay((i + 1) % 3);
                }
                Check.due("count(8)", x.count(8), Math.min(i + 1, 16));
            }
            int can = Math.min(done, 16);
            for (int i = 1; i <= can; i++) {
                Check.yes("undo() " + i + " of " + done, x.undo());
                Check.due("count(8)", x.count(8), can - i);
                Check.yes("as ahead of it", lay[done - i].equals("" + x.hut(0, 1) + x.hut(1, 1) + x.hut(2, 1)));
            }
            Check.unchanged(x, "undo() of a 17th", () -> Check.no("undo()", x.undo()));
        }
    }

    private static void undoesOneByOne() {
        PassHuts x = Check.on("hut p plain loads 12;hut q plain loads 0;path p q takes 2;");
        String[] seen = new String[8];
        seen[0] = Sight.of(x);
        x.carry(0, 1);
        seen[1] = Sight.of(x);
        x.lay(1);
        seen[2] = Sight.of(x);
        x.carry(1, 0);
        seen[3] = Sight.of(x);
        x.eat(0);
        seen[4] = Sight.of(x);
        for (int i = 3; i >= 0; i--) {
            Check.yes("undo()", x.undo());
            Check.yes("all is as behind call " + i, Sight.of(x).equals(seen[i]));
        }
        Check.no("undo() of nothing", x.undo());
        Check.due("carry(0, 1) anew", x.carry(0, 1), 2);
        Check.yes("undo() of what was done anew", x.undo());
        Check.yes("all is as at first", Sight.of(x).equals(seen[0]));
    }

    /** Only CARRY, LAY and EAT can be undone: not what is SEEN, not a TRIP, not a MARK. */
    private static void undoesWhatWasDone() {
        PassHuts x = Check.on(THREE);
        x.see(0, 1, true);
        x.mark(0, false);
        Check.tripTaken(x, "lay p;");
        x.seasons(7, 99, 0);
        Check.due("count(8)", x.count(8), 0);
        Check.no("undo()", x.undo());
        x.lay(2);
        x.see(1, 1, true);
        Check.yes("undo()", x.undo());
        Check.due("what is SEEN stays", x.count(7), 2);
        Check.due("the TRIP stays", x.count(6), 1);
        Check.yes("the MARK stays", x.mark(0, true));
    }

    /** JUDGED: the TRIP from the begin. */
    private static void judgedFromTheBegin() {
        PassHuts x = Check.on("hut p plain loads 4;hut q plain loads 0;path p q takes 2;");
        Check.due("judged(0) without a TRIP", x.judged(0), -1);
        Check.due("judged(1) without a TRIP", x.judged(1), -1);
        Check.due("judged(2) without a TRIP", x.judged(2), 4);
        Check.tripTaken(x, "carry p q;carry p q;carry p q;");
        for (int i = 0; i < 4; i++) {
            Check.unchanged(x, "judged", () -> {
                Check.due("judged(0)", x.judged(0), 2);
                Check.due("judged(1)", x.judged(1), 0);
                Check.due("judged(2)", x.judged(2), 2);
            });
            x.eat(0);
        }
        for (int what : new int[] {Integer.MIN_VALUE, -2, -1, 3, 4, Integer.MAX_VALUE}) {
            Check.due("judged(" + what + ")", x.judged(what), -2);
        }
        PassHuts none = new PassHuts();
        Check.due("judged(0) without huts", none.judged(0), -1);
        Check.due("judged(1) without huts", none.judged(1), -1);
        Check.due("judged(2) without huts", none.judged(2), 0);
        Check.due("judged(3) without huts", none.judged(3), -2);
    }

    private static void judgedTrip(String hills, String trip, int wrong, int covered, int loads) {
        PassHuts x = Check.on(hills);
        Check.tripTaken(x, trip);
        Check.due("judged(0) of " + trip, x.judged(0), wrong);
        Check.due("judged(1) of " + trip, x.judged(1), covered);
        Check.due("judged(2) of " + trip, x.judged(2), loads);
    }

    /** The first line (from 0) that can't be (those are left out); the first line behind which each HUT has a load. */
    private static void judgedLines() {
        String hills = "hut p plain loads 4;hut q small loads 2;hut r plain loads 0;path p q takes 2;";
        judgedTrip(hills, "carry p r;", 0, -1, 6);
        judgedTrip(hills, "carry q p;carry q p;", 1, -1, 5);
        judgedTrip(hills, "carry p q;carry p q;", 1, -1, 5);
        judgedTrip(hills, "lay q;lay q;lay r;", 1, 2, 8);
        judgedTrip(hills, "eat q;eat q;eat q;lay q;lay r;", 2, 4, 6);
        judgedTrip(hills, "lay r;eat r;lay r;", -1, 0, 7);
        judgedTrip(hills, "eat p;eat p;eat p;eat p;lay r;", -1, -1, 3);
        judgedTrip(hills, "lay r;" + "lay p;".repeat(5) + "lay p;", 6, 0, 12);
        judgedTrip(hills, "lay r;" + "lay p;".repeat(5), -1, 0, 12);
        judgedTrip(hills, "lay p;".repeat(39) + "eat p;", 6, -1, 11);
        judgedTrip(hills, "eat p;lay p;".repeat(19) + "eat p;lay r;", -1, 39, 6);
        judgedTrip(hills + "bars all = 6;", "carry p q;eat q;carry p q;", 0, -1, 4);
        judgedTrip("hut p plain loads 1;", "eat p;eat p;", 1, -1, 0);
        judgedTrip("hut p plain loads 1;", "lay p;", -1, 0, 2);
    }

    /** SEEN: a HUT has so many (1 to 12) or more, or fewer; 8 at most. */
    private static void seesEight() {
        PassHuts x = Check.on(THREE);
        int[] loads = {1, 12, 2, 11, 3, 1, 12};
        for (int i = 0; i < 7; i++) {
            Check.yes("see(" + i % 3 + ", " + loads[i] + ")", x.see(i % 3, loads[i], loads[i] < 4));
            Check.due("count(7)", x.count(7), i + 1);
        }
        Check.unchanged(x, "see of others", () -> {
            Check.no("see(0, 0, true)", x.see(0, 0, true));
            Check.no("see(0, 0, false)", x.see(0, 0, false));
            Check.no("see(0, 13, true)", x.see(0, 13, true));
            Check.no("see(0, 13, false)", x.see(0, 13, false));
            Check.no("see(0, -1, true)", x.see(0, -1, true));
            Check.no("see(3, 1, true)", x.see(3, 1, true));
            Check.no("see(-1, 1, true)", x.see(-1, 1, true));
        });
        Check.yes("see of an eighth", x.see(2, 12, false));
        Check.unchanged(x, "see of a ninth", () -> {
            Check.no("see(0, 1, true)", x.see(0, 1, true));
            Check.no("see(0, 12, false)", x.see(0, 12, false));
        });
        Check.taken(x, THREE);
        Check.yes("see behind hills()", x.see(0, 1, true));
        Check.no("see(0, 1, true) without huts", new PassHuts().see(0, 1, true));
        PassHuts y = Check.on(THREE);
        y.see(0, 5, true);
        y.mark(0, false);
        for (int i = 0; i < 7; i++) {
            y.see(1, 3, false);
        }
        Check.no("a ninth", y.see(1, 3, false));
        y.mark(0, true);
        Check.due("count(7)", y.count(7), 1);
        Check.yes("see goes on behind a mark", y.see(1, 1, false));
        Check.due("fit(): 5 or more of 7 in p, none in q", y.fit(), 3);
    }

    /** MARKS 0 to 3 hold all that UNDO brings back, what is SEEN. */
    private static void marksHold() {
        PassHuts x = Check.on("hut p plain loads 9;hut q plain loads 0;hut r plain loads 0;path p q takes 2;path q r takes 2;");
        String[] seen = new String[4];
        for (int mark = 0; mark < 4; mark++) {
            x.carry(0, 1);
            x.see(0, 9 - mark, mark != 2);
            Check.yes("mark(" + mark + ", false)", x.mark(mark, false));
            seen[mark] = "" + x.hut(0, 1) + x.hut(1, 1) + x.count(3) + x.count(7) + x.fit();
        }
        for (int mark : new int[] {2, 0, 3, 1, 1}) {
            x.lay(2);
            x.see(2, 1, true);
            Check.yes("mark(" + mark + ", true)", x.mark(mark, true));
            Check.yes("as on mark " + mark, seen[mark].equals("" + x.hut(0, 1) + x.hut(1, 1) + x.count(3) + x.count(7)
                + x.fit()));
            Check.due("hut(2, 1)", x.hut(2, 1), 0);
            Check.due("nothing can be undone", x.count(8), 0);
            Check.no("nothing can be undone", x.undo());
        }
        x.mark(0, true);
        Check.yes("a mark is laid anew", x.mark(3, false));
        x.eat(0);
        x.mark(3, true);
        Check.due("it holds what is new", x.hut(0, 1), 7);
        Check.unchanged(x, "marks of none such", () -> {
            for (int mark : new int[] {Integer.MIN_VALUE, -4, -1, 4, 5, 32, Integer.MAX_VALUE}) {
                Check.no("mark(" + mark + ", false)", x.mark(mark, false));
                Check.no("mark(" + mark + ", true)", x.mark(mark, true));
            }
        });
    }

    /** Laying a MARK leaves what can be undone; when one is gone back to nothing can be. */
    private static void marksAndUndo() {
        PassHuts x = Check.on(THREE);
        x.lay(0);
        x.lay(0);
        x.mark(0, false);
        Check.due("count(8)", x.count(8), 2);
        Check.unchanged(x, "mark of nothing", () -> Check.no("mark(1, true)", x.mark(1, true)));
        Check.yes("undo() behind a mark", x.undo());
        Check.due("hut(0, 1)", x.hut(0, 1), 6);
        x.mark(0, true);
        Check.due("hut(0, 1)", x.hut(0, 1), 7);
        Check.no("undo()", x.undo());
        Check.due("eat(0)", x.eat(0), 6);
        Check.due("count(8) from then on", x.count(8), 1);
        Check.yes("undo()", x.undo());
        Check.no("undo() of what was ahead of going back", x.undo());
        Check.due("hut(0, 1)", x.hut(0, 1), 7);
        PassHuts fresh = new PassHuts();
        for (int mark = 0; mark < 4; mark++) {
            Check.no("mark(" + mark + ", true) of a new one", fresh.mark(mark, true));
        }
        for (int mark = 0; mark < 4; mark++) {
            Check.yes("mark(" + mark + ", false) of a new one", fresh.mark(mark, false));
            Check.yes("mark(" + mark + ", true) of a new one", fresh.mark(mark, true));
        }
    }

    private static void huts() {
        PassHuts x = Check.on(THREE);
        for (int other : NO_HUTS) {
            for (int what = 0; what <= 3; what++) {
                Check.due("hut(" + other + ", " + what + ")", x.hut(other, what), -1);
                Check.due("hut(0, " + (other > 3 ? other : -1) + ")", x.hut(0, other > 3 ? other : -1), -1);
            }
        }
        Check.due("hut(2, 0)", x.hut(2, 0), 2);
        Check.due("hut(1, 2)", x.hut(1, 2), 5);
        Check.due("hut(0, 2)", x.hut(0, 2), 2);
        Check.due("hut(0, 0) without huts", new PassHuts().hut(0, 0), -1);
    }
}
