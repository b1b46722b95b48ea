/** Counts the answers of one test and tells those that are not as due. */
final class Check {
    private static int wrong;
    private static int asked;

    private Check() { }

    static void due(String call, long got, long want) {
        asked++;
        if (got != want) {
            wrong++;
            System.out.println(call + " answered " + got + ", due is " + want);
        }
    }

    static void yes(String call, boolean got) {
        due(call, got ? 1 : 0, 1);
    }

    static void no(String call, boolean got) {
        due(call, got ? 1 : 0, 0);
    }

    /** A new object that has read these hills. */
    static PassHuts on(String hills) {
        PassHuts x = new PassHuts();
        taken(x, hills);
        return x;
    }

    static void taken(PassHuts x, String hills) {
        due("hills() of " + hills, Tapes.hills(x, hills), 0);
    }

    static void tripTaken(PassHuts x, String trip) {
        due("trip() of " + trip, Tapes.trip(x, trip), 0);
    }

    /** The text, without the mark ^ that shows where, has this fault. */
    static void fault(String marked, int kind) {
        String text = marked.replace("^", "");
        due("hills() of " + marked, Tapes.hills(new PassHuts(), text), kind + 16L * marked.indexOf('^'));
    }

    static void tripFault(PassHuts x, String marked, int kind) {
        String text = marked.replace("^", "");
        due("trip() of " + marked, Tapes.trip(x, text), kind + 16L * marked.indexOf('^'));
    }

    /** Calls that are refused: nothing that can be seen has changed behind them. */
    static void unchanged(PassHuts x, String calls, Runnable refused) {
        String ahead = Sight.of(x);
        refused.run();
        String behind = Sight.of(x);
        asked++;
        if (!ahead.equals(behind)) {
            wrong++;
            System.out.println(calls + " changed" + ahead + " to" + behind);
        }
    }

    static void end(String test) {
        System.out.println(test + ": " + asked + " answers, " + wrong + " not as due");
        if (wrong > 0) {
            System.exit(1);
        }
    }
}
