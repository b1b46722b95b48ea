import java.util.Arrays;
import java.util.NoSuchElementException;

/** Loads over the passes: huts, paths over which carriers eat, and what can be reckoned from how the loads lie. */
public final class PassHuts {
    public static final int NONE = -1;

    private static final int NO_ANSWER = -2;
    private static final int MOST_HUTS = 5;
    private static final int MOST_WAYS = 20;
    private static final int MOST_LOADS = 12;
    private static final int SUMS = 13;
    private static final int SMALL_ROOM = 3;
    private static final int MOST_SIGNS = 1000;
    private static final int MOST_LINES = 40;
    private static final int MOST_SEEN = 8;
    private static final int MARKS = 4;
    private static final int KEPT_STEPS = 16;
    private static final int ALL_LYINGS = 6188;
    private static final int MOST_ROWS = 2000000000;

    private static final int PLAIN = 0;
    private static final int INN = 1;
    private static final int STEEP = 2;
    private static final int SMALL = 3;

    private static final int CARRYING = 0;
    private static final int LAYING = 1;
    private static final int EATING = 2;

    private final Tape tape;
    private final Reader reader;
    private final Lyings lyings;
    private final Story story;
    private final Prospects prospects;
    private final Walk walk;
    private final Survey survey;
    private Hills land;
    private Hills draft;
    private Trip plan;
    private Trip sketch;

    public PassHuts() {
        tape = new Tape();
        reader = new Reader(tape);
        lyings = new Lyings();
        story = new Story();
        land = new Hills();
        draft = new Hills();
        plan = new Trip();
        sketch = new Trip();
        prospects = new Prospects(lyings, land);
        walk = new Walk(lyings, land);
        survey = new Survey(lyings, prospects, land);
    }

    public int feed(long a, long b, long c) {
        tape.append(a);
        tape.append(b);
        tape.append(c);
        return tape.size;
    }

    public int hills() {
        int fault = reader.readHills(draft);
        if (fault == 0) {
            Hills old = land;
            land = draft;
            draft = old;
            plan.clear();
            story.restart(land.toldLying());
            prospects.moveTo(land);
            walk.moveTo(land);
            survey.moveTo(land);
        }
        return fault;
    }

    public int trip() {
        int fault = reader.readTrip(sketch, land);
        if (fault == 0) {
            Trip old = plan;
            plan = sketch;
            sketch = old;
        }
        return fault;
    }

    public int hut(int hut, int what) {
        if (!land.isHut(hut)) {
            return NONE;
        }
        switch (what) {
            case 0:
                return land.kinds[hut];
            case 1:
                return land.loadsIn(story.lying, hut);
            case 2:
                return land.neighbours(hut);
            case 3:
                return land.isFull(story.lying, hut) ? 1 : 0;
            default:
                return NONE;
        }
    }

    public int price(int hut, int other) {
        return land.priceOver(land.wayBetween(hut, other));
    }

    public boolean can(int hut, int other) {
        return land.afterCarrying(story.lying, hut, other) >= 0;
    }

    public int carry(int hut, int other) {
        int next = land.afterCarrying(story.lying, hut, other);
        if (next < 0) {
            return NONE;
        }
        story.turnTo(next, 1);
        return land.priceOver(land.wayBetween(hut, other));
    }

    public int lay(int hut) {
        return turnAndTell(land.afterLaying(story.lying, hut), hut);
    }

    public int eat(int hut) {
        return turnAndTell(land.afterEating(story.lying, hut), hut);
    }

    private int turnAndTell(int next, int hut) {
        if (next < 0) {
            return NONE;
        }
        story.turnTo(next, 0);
        return land.loadsIn(next, hut);
    }

    public boolean undo() {
        return story.stepBack();
    }

    public int judged(int what) {
        switch (what) {
            case 0:
                plan.runOver(land);
                return plan.firstWrong;
            case 1:
                plan.runOver(land);
                return plan.firstCovered;
            case 2:
                plan.runOver(land);
                return plan.loadsAtLast;
            default:
                return NO_ANSWER;
        }
    }

    public int most(int hut) {
        if (!land.isHut(hut)) {
            return NONE;
        }
        walk.startAt(story.lying);
        return walk.mostLoads(hut);
    }

    public int least(int hut) {
        prospects.prepare();
        return land.isHut(hut) ? prospects.fewestTo(story.lying, hut) : NONE;
    }

    public int row(int hut, int i) {
        if (!land.isHut(hut) || i < 0) {
            return NONE;
        }
        prospects.prepare();
        return prospects.stepOfRow(story.lying, hut, i);
    }

    public int ways(int hut) {
        if (!land.isHut(hut)) {
            return NONE;
        }
        prospects.prepare();
        int fewest = prospects.fewestTo(story.lying, hut);
        if (fewest < 0) {
            return 0;
        }
        walk.startAt(story.lying);
        return walk.countRows(hut, fewest);
    }

    public int over(int hut) {
        if (!land.isHut(hut)) {
            return NONE;
        }
        walk.startAt(story.lying);
        return walk.mostTogether(hut);
    }

    public int cover() {
        walk.startAt(story.lying);
        return walk.fewestToHave(land.allHuts());
    }

    public int both(int hut, int other) {
        if (!land.isHut(hut) || !land.isHut(other) || hut == other) {
            return NONE;
        }
        walk.startAt(story.lying);
        return walk.fewestToHave(1 << hut | 1 << other);
    }

    public int shrink(int loads) {
        if (!isSum(loads)) {
            return NONE;
        }
        walk.startAt(story.lying);
        return walk.fewestToSum(loads);
    }

    public boolean stuck() {
        return land.isStuck(story.lying);
    }

    public int longest() {
        walk.startAt(story.lying);
        return walk.longestRow();
    }

    public int ends() {
        walk.startAt(story.lying);
        return walk.countEnds();
    }

    public int alone(int hut, int other) {
        if (!land.isHut(hut) || !land.isHut(other)) {
            return NONE;
        }
        walk.startAt(land.onlyIn(story.lying, hut));
        return walk.mostLoads(other);
    }

    public int needed(int hut) {
        prospects.prepare();
        if (!land.isHut(hut) || !prospects.comesTo(story.lying, hut)) {
            return NONE;
        }
        int bits = 0;
        for (int j = 0; j < land.huts; j++) {
            int less = land.afterEating(story.lying, j);
            if (less >= 0 && !prospects.comesTo(less, hut)) {
                bits |= 1 << j;
            }
        }
        return bits;
    }

    public int brings(int hut) {
        if (!land.isHut(hut)) {
            return NONE;
        }
        prospects.prepare();
        return prospects.hutsFrom(land.onlyIn(story.lying, hut));
    }

    public int lack(int hut, int what) {
        if (!land.isHut(hut) || what != NONE && !land.isHut(what)) {
            return NO_ANSWER;
        }
        prospects.prepare();
        if (prospects.comesTo(story.lying, hut)) {
            return 0;
        }
        int where = survey.firstToLayIn(story.lying, hut);
        if (where < 0) {
            return NO_ANSWER;
        }
        return what == NONE || what == where ? 1 : 0;
    }

    public int guard(int hut, int what) {
        if (!land.isHut(hut) || what != NONE && !land.isHut(what)) {
            return NO_ANSWER;
        }
        prospects.prepare();
        int rest = survey.firstGuarded(story.lying, hut);
        if (rest < 0) {
            return NO_ANSWER;
        }
        if (what == NONE) {
            return land.sumOf(story.lying) - land.sumOf(rest);
        }
        return land.loadsIn(story.lying, what) - land.loadsIn(rest, what);
    }

    public int before() {
        return land.countBefore(story.lying);
    }

    public int reach(int hut) {
        return land.isHut(hut) ? land.joinedTo(hut) : NONE;
    }

    public int far(int hut, int other) {
        return land.isHut(hut) && land.isHut(other) ? land.pathsBetween(hut, other) : NONE;
    }

    public int rich() {
        int found = NONE;
        int loads = -1;
        for (int i = 0; i < land.huts; i++) {
            if (land.loadsIn(story.lying, i) > loads) {
                found = i;
                loads = land.loadsIn(story.lying, i);
            }
        }
        return found;
    }

    public int cheap(int hut, int other) {
        return land.isHut(hut) && land.isHut(other) ? land.leastProduct(hut, other) : NONE;
    }

    public int layings(int loads) {
        return isSum(loads) ? survey.countLayings(loads) : NONE;
    }

    public int comes(int hut, int loads) {
        prospects.prepare();
        return land.isHut(hut) && isSum(loads) ? survey.countComing(hut, loads) : NONE;
    }

    public int eden(int loads) {
        return isSum(loads) ? survey.countEdens(loads) : NONE;
    }

    public int sure(int hut) {
        prospects.prepare();
        return land.isHut(hut) ? survey.sureFrom(1 << hut) : NONE;
    }

    public int always() {
        prospects.prepare();
        return land.huts == 0 ? NONE : survey.sureFrom(land.allHuts());
    }

    public int worst(int hut, int loads, int of) {
        if (!land.isHut(hut) || !isSum(loads) || !land.isHut(of)) {
            return NONE;
        }
        prospects.prepare();
        int lying = survey.firstWithout(hut, loads);
        return lying < 0 ? NONE : land.loadsIn(lying, of);
    }

    public int best(int what) {
        if (what != NONE && !land.isHut(what)) {
            return NO_ANSWER;
        }
        prospects.prepare();
        int lying = survey.firstForAll();
        if (lying < 0) {
            return NO_ANSWER;
        }
        return what == NONE ? land.sumOf(lying) : land.loadsIn(lying, what);
    }

    public int wins(int what) {
        if (what != 0 && what != 1) {
            return NONE;
        }
        prospects.prepare();
        int length = prospects.pullLength(story.lying);
        // Who is first makes the last carrying just when their number is odd.
        return what == 0 ? length & 1 : length;
    }

    public int his() {
        prospects.prepare();
        int way = prospects.bestPull(story.lying);
        return way < 0 ? NONE : land.codeOf(way);
    }

    public boolean see(int hut, int loads, boolean more) {
        if (!land.isHut(hut) || loads < 1 || loads > MOST_LOADS) {
            return false;
        }
        return story.addSeen(hut, loads, more);
    }

    public int fit() {
        return survey.countFitting(story);
    }

    public int look() {
        return survey.bestLook(story);
    }

    public int chance(int hut, int times) {
        if (!land.isHut(hut) || times < 1 || times > 4 || land.ways == 0) {
            return NONE;
        }
        walk.startAt(story.lying);
        return walk.millionths(hut, times);
    }

    public int rests(int lose, int carries, int waits, int what) throws NoSuchElementException {
        if (!isStake(lose) || !isStake(carries) || !isStake(waits) || what < NONE) {
            throw new NoSuchElementException();
        }
        int found = 0;
        for (int pair = 0; pair < 4; pair++) {
            if (isRest(lose, carries, waits, pair)) {
                if (found == what) {
                    return pair;
                }
                found++;
            }
        }
        if (what != NONE) {
            throw new NoSuchElementException();
        }
        return found;
    }

    private static boolean isStake(int stake) {
        return stake >= 0 && stake <= 9;
    }

    private static boolean isRest(int lose, int carries, int waits, int pair) {
        boolean first = (pair & 2) != 0;
        boolean second = (pair & 1) != 0;
        return gain(lose, carries, waits, first, second) >= gain(lose, carries, waits, !first, second)
            && gain(lose, carries, waits, second, first) >= gain(lose, carries, waits, !second, first);
    }

    private static int gain(int lose, int carries, int waits, boolean own, boolean others) {
        if (own) {
            return others ? -lose : carries;
        }
        return others ? waits : 0;
    }

    public int seasons(int seed, int days, int what) {
        if (seed < 0 || seed > 9999 || days < 1 || days > 99 || what < 0 || what > 2) {
            return NONE;
        }
        return story.drawSeasons(land, seed, days, what);
    }

    public boolean mark(int mark, boolean back) {
        if (mark < 0 || mark >= MARKS) {
            return false;
        }
        return back ? story.backToMark(mark) : story.layMark(mark);
    }

    public int count(int what) {
        switch (what) {
            case 0:
                return land.huts;
            case 1:
                return land.ways / 2;
            case 2:
                return land.sumOf(story.lying);
            case 3:
                return story.carried;
            case 4:
                return land.occupied(story.lying);
            case 5:
                prospects.prepare();
                return prospects.hutsFrom(story.lying);
            case 6:
                return plan.lines;
            case 7:
                return story.seenSize;
            case 8:
                return story.steps;
            case 9:
                return tape.size;
            default:
                return NONE;
        }
    }

    private static boolean isSum(int loads) {
        return loads >= 0 && loads <= MOST_LOADS;
    }

    /** The signs that were fed and not read yet. */
    private static final class Tape {
        static final int END = -1;

        private final byte[] signs = new byte[MOST_SIGNS];
        int size;

        void append(long eight) {
            for (int shift = 56; shift >= 0; shift -= 8) {
                int sign = (int) (eight >> shift) & 255;
                boolean kept = sign == 10 || sign >= 32 && sign <= 126;
                if (kept && size < signs.length) {
                    signs[size] = (byte) sign;
                    size++;
                }
            }
        }

        int signAt(int place) {
            return place >= 0 && place < size && place < signs.length ? signs[place] : END;
        }

        void clear() {
            size = 0;
        }
    }

    /** The tokens of the tape, one at a time from the left. */
    private static final class Tokens {
        static final int NOTHING = 0;
        static final int END = 1;
        static final int NUMBER = 2;
        static final int NAME = 3;
        // A sign's kind is its own number; the reserved words' kinds begin behind all signs.
        static final int HUT = 128;
        static final int LOADS = 129;
        static final int PATH = 130;
        static final int TAKES = 131;
        static final int BARS = 132;
        static final int CARRY = 133;
        static final int LAY = 134;
        static final int EAT = 135;
        static final int FIRST_HUT_KIND = 136;
        static final int LAST_HUT_KIND = 139;
        static final int NOT = 140;
        static final int AND = 141;
        static final int OR = 142;

        // Each word as its letters' bytes, so that words are compared without making texts.
        private static final long[] RESERVED = {
            0x687574L /* hut */, 0x6c6f616473L /* loads */, 0x70617468L /* path */, 0x74616b6573L /* takes */,
            0x62617273L /* bars */, 0x6361727279L /* carry */, 0x6c6179L /* lay */, 0x656174L /* eat */,
            0x706c61696eL /* plain */, 0x696e6eL /* inn */, 0x7374656570L /* steep */, 0x736d616c6cL /* small */,
            0x6e6f74L /* not */, 0x616e64L /* and */, 0x6f72L /* or */
        };

        private final Tape tape;
        private int behind;
        int place;
        int kind;
        int number;
        long word;

        Tokens(Tape tape) {
            this.tape = tape;
        }

        void start() {
            behind = 0;
            next();
        }

        void next() {
            place = behind;
            while (place < tape.size && isBlank(tape.signAt(place))) {
                place++;
            }
            int sign = tape.signAt(place);
            if (sign == Tape.END) {
                kind = END;
                behind = place;
            } else if (isLetter(sign)) {
                takeWord();
            } else if (isDigit(sign)) {
                takeNumber();
            } else {
                kind = isOwnSign(sign) ? sign : NOTHING;
                behind = place + 1;
            }
        }

        private void takeWord() {
            word = 0;
            behind = place;
            while (behind < tape.size && isLetter(tape.signAt(behind))) {
                word = word << 8 | tape.signAt(behind);
                behind++;
            }
            kind = behind - place > 8 ? NOTHING : kindOfWord();
        }

        private int kindOfWord() {
            for (int i = 0; i < RESERVED.length; i++) {
                if (RESERVED[i] == word) {
                    return HUT + i;
                }
            }
            return NAME;
        }

        private void takeNumber() {
            number = 0;
            behind = place;
            while (behind < tape.size && isDigit(tape.signAt(behind))) {
                number = number * 10 + tape.signAt(behind) - '0';
                behind++;
            }
            kind = behind - place > 4 ? NOTHING : NUMBER;
        }

        private static boolean isBlank(int sign) {
            return sign == 10 || sign == 32;
        }

        private static boolean isLetter(int sign) {
            return sign >= 'a' && sign <= 'z';
        }

        private static boolean isDigit(int sign) {
            return sign >= '0' && sign <= '9';
        }

        private static boolean isOwnSign(int sign) {
            switch (sign) {
                case '(':
                case ')':
                case '<':
                case '=':
                case '+':
                case '-':
                case '*':
                case ';':
                    return true;
                default:
                    return false;
            }
        }
    }

    /** Reads the tape as hills or as a trip; behind the first fault it takes nothing more. */
    private static final class Reader {
        private static final int WRONG_PLACE = 1;
        private static final int NO_SUCH_HUT = 2;
        private static final int TWICE = 3;
        private static final int WRONG_NUMBER = 4;
        private static final int TOO_MANY = 5;
        private static final int MOST_WITHIN = 5;

        private final Tape tape;
        private final Tokens tokens;
        private int fault;

        Reader(Tape tape) {
            this.tape = tape;
            tokens = new Tokens(tape);
        }

        int readHills(Hills into) {
            into.clear();
            fault = 0;
            tokens.start();
            for (int line = 0; line < MOST_SIGNS && fault == 0 && tokens.kind != Tokens.END; line++) {
                switch (tokens.kind) {
                    case Tokens.HUT:
                        readHut(into);
                        break;
                    case Tokens.PATH:
                        readPath(into);
                        break;
                    case Tokens.BARS:
                        readBars(into);
                        break;
                    default:
                        wrong(WRONG_PLACE);
                        break;
                }
            }
            tape.clear();
            if (fault == 0) {
                into.finish();
            }
            return fault;
        }

        int readTrip(Trip into, Hills hills) {
            into.clear();
            fault = 0;
            tokens.start();
            for (int line = 0; line < MOST_SIGNS && fault == 0 && tokens.kind != Tokens.END; line++) {
                readTripLine(into, hills);
            }
            tape.clear();
            return fault;
        }

        private void wrong(int kind) {
            if (fault == 0) {
                fault = kind + 16 * tokens.place;
            }
        }

        /** Goes over a token of this kind; another one is a fault. */
        private void expect(int kind) {
            if (fault != 0) {
                return;
            }
            if (tokens.kind == kind) {
                tokens.next();
            } else {
                wrong(WRONG_PLACE);
            }
        }

        private void readHut(Hills into) {
            if (into.huts >= MOST_HUTS) {
                wrong(TOO_MANY);
                return;
            }
            tokens.next();
            long name = readNewName(into);
            int kind = readHutKind();
            expect(Tokens.LOADS);
            int room = Math.min(kind == SMALL ? SMALL_ROOM : MOST_LOADS, MOST_LOADS - into.toldLoads());
            int loads = readNumber(0, room);
            expect(';');
            if (fault == 0) {
                into.addHut(name, kind, loads);
            }
        }

        private long readNewName(Hills into) {
            long name = tokens.word;
            if (tokens.kind == Tokens.NAME && into.hutNamed(name) >= 0) {
                wrong(TWICE);
            } else {
                expect(Tokens.NAME);
            }
            return name;
        }

        private int readHutKind() {
            if (fault != 0) {
                return PLAIN;
            }
            int kind = tokens.kind;
            if (kind < Tokens.FIRST_HUT_KIND || kind > Tokens.LAST_HUT_KIND) {
                wrong(WRONG_PLACE);
                return PLAIN;
            }
            tokens.next();
            return kind - Tokens.FIRST_HUT_KIND;
        }

        private int readNumber(int least, int most) {
            if (fault != 0) {
                return least;
            }
            int number = tokens.number;
            if (tokens.kind == Tokens.NUMBER && (number < least || number > most)) {
                wrong(WRONG_NUMBER);
            } else {
                expect(Tokens.NUMBER);
            }
            return number;
        }

        private void readPath(Hills into) {
            tokens.next();
            int first = readToldName(into);
            int second = readOtherName(into, first, true);
            expect(Tokens.TAKES);
            int takes = readNumber(2, 4);
            expect(';');
            if (fault == 0) {
                into.addPath(first, second, takes);
            }
        }

        /** The number of the hut that is named here; without one there is a fault. */
        private int readToldName(Hills hills) {
            int hut = tokenHut(hills);
            if (fault == 0) {
                tokens.next();
            }
            return hut;
        }

        private int readOtherName(Hills hills, int first, boolean isNewPath) {
            int hut = tokenHut(hills);
            if (fault != 0) {
                return hut;
            }
            if (hut == first || isNewPath && hills.takesBetween(first, hut) != 0) {
                wrong(TWICE);
            } else {
                tokens.next();
            }
            return hut;
        }

        private int tokenHut(Hills hills) {
            if (fault != 0) {
                return NONE;
            }
            if (tokens.kind != Tokens.NAME) {
                wrong(WRONG_PLACE);
                return NONE;
            }
            int hut = hills.hutNamed(tokens.word);
            if (hut < 0) {
                wrong(NO_SUCH_HUT);
            }
            return hut;
        }

        private void readBars(Hills into) {
            if (into.law.size > 0) {
                wrong(TWICE);
                return;
            }
            tokens.next();
            readTests(into.law, 0);
            expect(';');
        }

        private void readTests(Law law, int within) {
            readTest(law, within);
            for (int i = 0; i < MOST_SIGNS && fault == 0; i++) {
                int kind = tokens.kind;
                if (kind != Tokens.AND && kind != Tokens.OR) {
                    return;
                }
                tokens.next();
                readTest(law, within);
                law.add(kind == Tokens.AND ? Law.AND : Law.OR);
            }
        }

        private void readTest(Law law, int within) {
            readSum(law, within);
            int kind = tokens.kind;
            if (fault == 0 && (kind == '<' || kind == '=')) {
                tokens.next();
                readSum(law, within);
                law.add(kind == '<' ? Law.LESS : Law.EQUAL);
            }
        }

        private void readSum(Law law, int within) {
            readProduct(law, within);
            for (int i = 0; i < MOST_SIGNS && fault == 0; i++) {
                int kind = tokens.kind;
                if (kind != '+' && kind != '-') {
                    return;
                }
                tokens.next();
                readProduct(law, within);
                law.add(kind == '+' ? Law.PLUS : Law.MINUS);
            }
        }

        private void readProduct(Law law, int within) {
            readPart(law, within);
            for (int i = 0; i < MOST_SIGNS && fault == 0 && tokens.kind == '*'; i++) {
                tokens.next();
                readPart(law, within);
                law.add(Law.TIMES);
            }
        }

        private void readPart(Law law, int within) {
            if (fault != 0) {
                return;
            }
            int kind = tokens.kind;
            int fact = kind == Tokens.NAME ? Law.factNamed(tokens.word) : 0;
            boolean isPart = kind == Tokens.NUMBER || kind == Tokens.NOT || kind == '(' || fact != 0;
            if (!isPart) {
                wrong(WRONG_PLACE);
            } else if (within >= MOST_WITHIN) {
                wrong(TOO_MANY);
            } else if (kind == Tokens.NOT) {
                tokens.next();
                readPart(law, within + 1);
                law.add(Law.NOT);
            } else if (kind == '(') {
                tokens.next();
                readTests(law, within + 1);
                expect(')');
            } else {
                law.add(kind == Tokens.NUMBER ? tokens.number : fact);
                tokens.next();
            }
        }

        private void readTripLine(Trip into, Hills hills) {
            int kind = tokens.kind;
            if (kind != Tokens.CARRY && kind != Tokens.LAY && kind != Tokens.EAT) {
                wrong(WRONG_PLACE);
                return;
            }
            if (into.lines >= MOST_LINES) {
                wrong(TOO_MANY);
                return;
            }
            tokens.next();
            int hut = readToldName(hills);
            int other = kind == Tokens.CARRY ? readOtherName(hills, hut, false) : 0;
            expect(';');
            if (fault == 0) {
                into.addLine(kind == Tokens.CARRY ? CARRYING : kind == Tokens.LAY ? LAYING : EATING, hut, other);
            }
        }
    }

    /** The law of weather: a row of what is pushed and of what is done with the last one or two. */
    private static final class Law {
        // A number stands for itself; all else is below 0.
        static final int HERE = -1;
        static final int THERE = -2;
        static final int PRICE = -3;
        static final int ALL = -4;
        static final int NOT = -5;
        static final int AND = -6;
        static final int OR = -7;
        static final int LESS = -8;
        static final int EQUAL = -9;
        static final int PLUS = -10;
        static final int MINUS = -11;
        static final int TIMES = -12;

        // Five parts within each other with four waiting values each stay below this.
        private static final int STACK = 32;
        private static final int LEAST_PRICE = 2;
        private static final int PRICES = 4;
        private static final int CASES = SUMS * SUMS * SUMS * PRICES;

        private final int[] code = new int[MOST_SIGNS];
        private final int[] stack = new int[STACK];
        private final int[] facts = new int[4];
        // What was reckoned once for the same four facts is kept, a bit each.
        private final long[] known = new long[CASES / 64 + 1];
        private final long[] barred = new long[CASES / 64 + 1];
        int size;

        static int factNamed(long word) {
            if (word == 0x68657265L /* here */) {
                return HERE;
            }
            if (word == 0x7468657265L /* there */) {
                return THERE;
            }
            if (word == 0x7072696365L /* price */) {
                return PRICE;
            }
            return word == 0x616c6cL /* all */ ? ALL : 0;
        }

        void clear() {
            if (size > 0) {
                Arrays.fill(known, 0L);
                Arrays.fill(barred, 0L);
            }
            size = 0;
        }

        void add(int step) {
            if (size < code.length) {
                code[size] = step;
                size++;
            }
        }

        boolean bars(int here, int there, int price, int all) {
            if (size == 0) {
                return false;
            }
            int slot = ((all * SUMS + here) * SUMS + there) * PRICES + price - LEAST_PRICE;
            if (slot < 0 || slot >= CASES) {
                return reckon(here, there, price, all) != 0;
            }
            long bit = 1L << (slot & 63);
            int at = slot >> 6;
            if ((known[at] & bit) == 0) {
                known[at] |= bit;
                if (reckon(here, there, price, all) != 0) {
                    barred[at] |= bit;
                }
            }
            return (barred[at] & bit) != 0;
        }

        private int reckon(int here, int there, int price, int all) {
            facts[-1 - HERE] = here;
            facts[-1 - THERE] = there;
            facts[-1 - PRICE] = price;
            facts[-1 - ALL] = all;
            int height = 0;
            for (int i = 0; i < size && i < code.length; i++) {
                int step = code[i];
                if (step >= ALL) {
                    if (height < STACK) {
                        stack[height] = step < 0 ? facts[-1 - step] : step;
                        height++;
                    }
                } else if (step == NOT) {
                    if (height >= 1) {
                        stack[height - 1] = stack[height - 1] == 0 ? 1 : 0;
                    }
                } else if (height >= 2) {
                    height--;
                    stack[height - 1] = joined(step, stack[height - 1], stack[height]);
                }
            }
            return stack[0];
        }

        private static int joined(int step, int left, int right) {
            switch (step) {
                case AND:
                    return left != 0 && right != 0 ? 1 : 0;
                case OR:
                    return left != 0 || right != 0 ? 1 : 0;
                case LESS:
                    return left < right ? 1 : 0;
                case EQUAL:
                    return left == right ? 1 : 0;
                case PLUS:
                    return left + right;
                case MINUS:
                    return left - right;
                default:
                    return left * right;
            }
        }
    }

    /**
     * The huts, the paths and the law of bars. How loads lie is one int, a hut's loads in four bits, the first hut's
     * the highest ones, so that an int is less just when its way to lie comes first.
     */
    private static final class Hills {
        // Far above what five prices of at most 5 can make.
        private static final int NO_WAY = 1000000;
        private static final int NO_LIMIT = 16;

        final int[] kinds = new int[MOST_HUTS];
        final Law law = new Law();
        int huts;
        // Both ways over each path, by the hut from which, then by the one to which.
        int ways;

        private final long[] names = new long[MOST_HUTS];
        private final int[] told = new int[MOST_HUTS];
        private final int[] takes = new int[MOST_HUTS * MOST_HUTS];
        private final int[] wayOf = new int[MOST_HUTS * MOST_HUTS];
        private final int[] prices = new int[MOST_WAYS];
        private final int[] from = new int[MOST_WAYS];
        private final int[] to = new int[MOST_WAYS];
        private final int[] fromShift = new int[MOST_WAYS];
        private final int[] toShift = new int[MOST_WAYS];
        private final int[] room = new int[MOST_WAYS];
        private final int[] change = new int[MOST_WAYS];
        private final int[] products = new int[MOST_HUTS];
        private int crowded;

        Hills() {
            fillNone();
        }

        private void fillNone() {
            for (int i = 0; i < wayOf.length; i++) {
                wayOf[i] = NONE;
            }
        }

        void clear() {
            huts = 0;
            ways = 0;
            crowded = 0;
            law.clear();
            for (int i = 0; i < takes.length; i++) {
                takes[i] = 0;
            }
            fillNone();
        }

        void addHut(long name, int kind, int loads) {
            if (huts < MOST_HUTS) {
                names[huts] = name;
                kinds[huts] = kind;
                told[huts] = loads;
                huts++;
            }
        }

        void addPath(int first, int second, int loads) {
            if (isHut(first) && isHut(second)) {
                takes[first * MOST_HUTS + second] = loads;
                takes[second * MOST_HUTS + first] = loads;
            }
        }

        /** Makes the ways of the paths, once all huts are told. */
        void finish() {
            for (int i = 0; i < huts && i < MOST_HUTS; i++) {
                for (int j = 0; j < huts && j < MOST_HUTS; j++) {
                    if (takesBetween(i, j) != 0) {
                        addWay(i, j);
                    }
                }
                if (kinds[i] == SMALL) {
                    crowded |= 12 << shiftOf(i);
                }
            }
        }

        private void addWay(int i, int j) {
            if (ways < MOST_WAYS && isHut(i) && isHut(j)) {
                int price = takesBetween(i, j);
                if (kinds[i] == INN) {
                    price = Math.max(2, price - 1);
                }
                if (kinds[j] == STEEP) {
                    price++;
                }
                prices[ways] = price;
                from[ways] = i;
                to[ways] = j;
                fromShift[ways] = shiftOf(i);
                toShift[ways] = shiftOf(j);
                room[ways] = kinds[j] == SMALL ? SMALL_ROOM : NO_LIMIT;
                change[ways] = (1 << shiftOf(j)) - (price << shiftOf(i));
                wayOf[i * MOST_HUTS + j] = ways;
                ways++;
            }
        }

        boolean isHut(int hut) {
            return hut >= 0 && hut < huts && hut < MOST_HUTS;
        }

        int allHuts() {
            return (1 << huts) - 1;
        }

        int hutNamed(long name) {
            for (int i = 0; i < huts && i < MOST_HUTS; i++) {
                if (names[i] == name) {
                    return i;
                }
            }
            return NONE;
        }

        int takesBetween(int hut, int other) {
            return isHut(hut) && isHut(other) ? takes[hut * MOST_HUTS + other] : 0;
        }

        int wayBetween(int hut, int other) {
            return isHut(hut) && isHut(other) ? wayOf[hut * MOST_HUTS + other] : NONE;
        }

        int priceOver(int way) {
            return way >= 0 && way < ways && way < MOST_WAYS ? prices[way] : NONE;
        }

        int codeOf(int way) {
            return way >= 0 && way < ways && way < MOST_WAYS ? 8 * from[way] + to[way] : NONE;
        }

        int toldLoads() {
            int sum = 0;
            for (int i = 0; i < huts && i < MOST_HUTS; i++) {
                sum += told[i];
            }
            return sum;
        }

        int toldLying() {
            int lying = 0;
            for (int i = 0; i < huts && i < MOST_HUTS; i++) {
                lying |= told[i] << shiftOf(i);
            }
            return lying;
        }

        private int shiftOf(int hut) {
            return 4 * (huts - 1 - hut);
        }

        int loadsIn(int lying, int hut) {
            return lying >> shiftOf(hut) & 15;
        }

        int sumOf(int lying) {
            int sum = 0;
            for (int i = 0; i < huts; i++) {
                sum += loadsIn(lying, i);
            }
            return sum;
        }

        int onlyIn(int lying, int hut) {
            return lying & 15 << shiftOf(hut);
        }

        int occupied(int lying) {
            int bits = 0;
            for (int i = 0; i < huts; i++) {
                if (loadsIn(lying, i) > 0) {
                    bits |= 1 << i;
                }
            }
            return bits;
        }

        boolean isFull(int lying, int hut) {
            return isHut(hut) && kinds[hut] == SMALL && loadsIn(lying, hut) >= SMALL_ROOM;
        }

        /** Whether no small hut has more than it can. */
        boolean isWayToLie(int lying) {
            return (lying & crowded) == 0;
        }

        /** How all lies behind the carrying over this way; below 0 if it can't be. */
        int afterWay(int lying, int all, int way) {
            if (way < 0 || way >= ways || way >= MOST_WAYS) {
                return NONE;
            }
            int here = lying >> fromShift[way] & 15;
            int price = prices[way];
            if (here < price) {
                return NONE;
            }
            int there = lying >> toShift[way] & 15;
            if (there >= room[way] || law.bars(here, there, price, all)) {
                return NONE;
            }
            return lying + change[way];
        }

        int afterCarrying(int lying, int hut, int other) {
            return afterWay(lying, sumOf(lying), wayBetween(hut, other));
        }

        int afterLaying(int lying, int hut) {
            if (!isHut(hut) || isFull(lying, hut) || sumOf(lying) >= MOST_LOADS) {
                return NONE;
            }
            return lying + (1 << shiftOf(hut));
        }

        int afterEating(int lying, int hut) {
            if (!isHut(hut) || loadsIn(lying, hut) == 0) {
                return NONE;
            }
            return lying - (1 << shiftOf(hut));
        }

        boolean isStuck(int lying) {
            int all = sumOf(lying);
            for (int way = 0; way < ways; way++) {
                if (afterWay(lying, all, way) >= 0) {
                    return false;
                }
            }
            return true;
        }

        /** How many ways to lie lead here by one carrying; each way over a path comes from another one. */
        int countBefore(int lying) {
            int all = sumOf(lying);
            int found = 0;
            for (int way = 0; way < ways && way < MOST_WAYS; way++) {
                int sum = all + prices[way] - 1;
                boolean canBe = (lying >> toShift[way] & 15) > 0 && sum <= MOST_LOADS;
                if (canBe) {
                    int earlier = lying - change[way];
                    if (isWayToLie(earlier) && afterWay(earlier, sum, way) == lying) {
                        found++;
                    }
                }
            }
            return found;
        }

        int neighbours(int hut) {
            int bits = 0;
            for (int i = 0; i < huts; i++) {
                if (takesBetween(hut, i) != 0) {
                    bits |= 1 << i;
                }
            }
            return bits;
        }

        private int withNeighbours(int bits) {
            int wider = bits;
            for (int i = 0; i < huts; i++) {
                if ((bits >> i & 1) != 0) {
                    wider |= neighbours(i);
                }
            }
            return wider;
        }

        int joinedTo(int hut) {
            int bits = 1 << hut;
            for (int i = 0; i < huts; i++) {
                bits = withNeighbours(bits);
            }
            return bits;
        }

        int pathsBetween(int hut, int other) {
            int bits = 1 << hut;
            for (int steps = 0; steps < huts; steps++) {
                if ((bits >> other & 1) != 0) {
                    return steps;
                }
                bits = withNeighbours(bits);
            }
            return NONE;
        }

        int leastProduct(int hut, int other) {
            if (!isHut(hut) || !isHut(other)) {
                return NONE;
            }
            for (int i = 0; i < huts && i < MOST_HUTS; i++) {
                products[i] = i == hut ? 1 : NO_WAY;
            }
            // A least way goes through each hut once at most, so as many rounds as huts are enough.
            for (int round = 0; round < huts; round++) {
                for (int i = 0; i < huts && i < MOST_HUTS; i++) {
                    if (products[i] < NO_WAY) {
                        passProductOn(i, products[i]);
                    }
                }
            }
            return products[other] < NO_WAY ? products[other] : NONE;
        }

        private void passProductOn(int hut, int product) {
            for (int i = 0; i < huts && i < MOST_HUTS; i++) {
                int price = priceOver(wayBetween(hut, i));
                if (price > 0) {
                    products[i] = Math.min(products[i], product * price);
                }
            }
        }
    }

    /** The lines of a trip, and what came of them when they were last gone through. */
    private static final class Trip {
        private final int[] steps = new int[MOST_LINES];
        private final int[] places = new int[MOST_LINES];
        private final int[] others = new int[MOST_LINES];
        int lines;
        int firstWrong;
        int firstCovered;
        int loadsAtLast;

        void clear() {
            lines = 0;
        }

        void addLine(int step, int hut, int other) {
            if (lines < MOST_LINES) {
                steps[lines] = step;
                places[lines] = hut;
                others[lines] = other;
                lines++;
            }
        }

        void runOver(Hills hills) {
            int lying = hills.toldLying();
            firstWrong = NONE;
            firstCovered = NONE;
            for (int i = 0; i < lines && i < MOST_LINES; i++) {
                int next = afterLine(hills, lying, i);
                if (next >= 0) {
                    lying = next;
                } else if (firstWrong == NONE) {
                    firstWrong = i;
                }
                if (firstCovered == NONE && hills.occupied(lying) == hills.allHuts()) {
                    firstCovered = i;
                }
            }
            loadsAtLast = hills.sumOf(lying);
        }

        private int afterLine(Hills hills, int lying, int i) {
            switch (steps[i]) {
                case CARRYING:
                    return hills.afterCarrying(lying, places[i], others[i]);
                case LAYING:
                    return hills.afterLaying(lying, places[i]);
                default:
                    return hills.afterEating(lying, places[i]);
            }
        }
    }

    /**
     * All ways in which 0 to 12 loads lie in five huts, numbered by how many loads, then by those of the first hut, the
     * second, ..: fewer huts are the last ones of five, so theirs stand first among those of equal number.
     */
    private static final class Lyings {
        private static final int LOW_BITS = 12;
        private static final int LOW_MASK = 4095;

        private final int[] all = new int[ALL_LYINGS];
        // A number is the first one with these two highest huts, and how many go ahead by the three lowest.
        private final int[] byHighest = new int[SUMS * 256];
        private final int[] byLowest = new int[SUMS * 256];
        private final int[] firsts = new int[SUMS];
        private final int[] ends = new int[(MOST_HUTS + 1) * SUMS];

        Lyings() {
            int next = 0;
            for (int sum = 0; sum < SUMS; sum++) {
                firsts[sum] = next;
                for (int a = 0; a <= sum; a++) {
                    for (int b = 0; b <= sum - a; b++) {
                        byHighest[sum << 8 | a << 4 | b] = next;
                        next = addLowest(sum - a - b, a << 4 | b, next);
                    }
                }
            }
            fillEnds();
        }

        private int addLowest(int rest, int highest, int start) {
            int next = start;
            for (int c = 0; c <= rest; c++) {
                for (int d = 0; d <= rest - c; d++) {
                    int lowest = c << 8 | d << 4 | rest - c - d;
                    if (next < ALL_LYINGS) {
                        byLowest[lowest] = next - start;
                        all[next] = highest << LOW_BITS | lowest;
                        next++;
                    }
                }
            }
            return next;
        }

        private void fillEnds() {
            // Without huts only nothing can lie; one hut more takes any part of the loads from the ones before it.
            for (int huts = 0; huts <= MOST_HUTS; huts++) {
                int many = 0;
                for (int sum = 0; sum < SUMS; sum++) {
                    many = huts == 0 ? (sum == 0 ? 1 : 0) : many + ends[(huts - 1) * SUMS + sum];
                    ends[huts * SUMS + sum] = many;
                }
            }
            for (int i = 0; i < ends.length; i++) {
                ends[i] += firsts[i % SUMS];
            }
        }

        int firstOf(int sum) {
            return sum >= 0 && sum < SUMS ? firsts[sum] : 0;
        }

        int endOf(int sum, int huts) {
            boolean known = sum >= 0 && sum < SUMS && huts >= 0 && huts <= MOST_HUTS;
            return known ? ends[huts * SUMS + sum] : 0;
        }

        int lyingAt(int number) {
            return number >= 0 && number < ALL_LYINGS ? all[number] : 0;
        }

        /** The number of this way to lie, of as many loads. */
        int numberOf(int lying, int sum) {
            int high = sum << 8 | lying >> LOW_BITS;
            int low = lying & LOW_MASK;
            if (high < 0 || high >= byHighest.length || low >= byLowest.length) {
                return NONE;
            }
            int number = byHighest[high] + byLowest[low];
            return number < ALL_LYINGS ? number : NONE;
        }

        /** The number of what one comes to over this way; NONE if the carrying can't be. */
        int numberBehind(Hills hills, int lying, int sum, int way) {
            int next = hills.afterWay(lying, sum, way);
            return next < 0 ? NONE : numberOf(next, sum - hills.priceOver(way) + 1);
        }
    }

    /** What is so now, how it was before, and the marks. */
    private static final class Story {
        private final int[] oldLyings = new int[KEPT_STEPS];
        private final int[] oldCarried = new int[KEPT_STEPS];
        private final int[] seen = new int[MOST_SEEN];
        private final boolean[] marked = new boolean[MARKS];
        private final int[] markedLying = new int[MARKS];
        private final int[] markedCarried = new int[MARKS];
        private final int[] markedSeenSize = new int[MARKS];
        private final int[] markedSeen = new int[MARKS * MOST_SEEN];
        private int newest;
        int lying;
        int carried;
        int steps;
        int seenSize;

        void restart(int toldLying) {
            lying = toldLying;
            carried = 0;
            steps = 0;
            seenSize = 0;
            for (int i = 0; i < MARKS; i++) {
                marked[i] = false;
            }
        }

        void turnTo(int nextLying, int carryings) {
            newest = (newest + 1) % KEPT_STEPS;
            oldLyings[newest] = lying;
            oldCarried[newest] = carried;
            steps = Math.min(steps + 1, KEPT_STEPS);
            lying = nextLying;
            carried += carryings;
        }

        boolean stepBack() {
            if (steps == 0) {
                return false;
            }
            lying = oldLyings[newest];
            carried = oldCarried[newest];
            newest = (newest + KEPT_STEPS - 1) % KEPT_STEPS;
            steps--;
            return true;
        }

        boolean addSeen(int hut, int loads, boolean more) {
            if (seenSize >= MOST_SEEN) {
                return false;
            }
            seen[seenSize] = hut << 5 | loads << 1 | (more ? 1 : 0);
            seenSize++;
            return true;
        }

        boolean agrees(Hills hills, int other) {
            for (int i = 0; i < seenSize && i < MOST_SEEN; i++) {
                boolean more = hills.loadsIn(other, seen[i] >> 5) >= (seen[i] >> 1 & 15);
                if (more != ((seen[i] & 1) != 0)) {
                    return false;
                }
            }
            return true;
        }

        boolean layMark(int mark) {
            if (mark < 0 || mark >= MARKS) {
                return false;
            }
            marked[mark] = true;
            markedLying[mark] = lying;
            markedCarried[mark] = carried;
            markedSeenSize[mark] = seenSize;
            for (int i = 0; i < MOST_SEEN; i++) {
                markedSeen[mark * MOST_SEEN + i] = seen[i];
            }
            return true;
        }

        boolean backToMark(int mark) {
            if (mark < 0 || mark >= MARKS || !marked[mark]) {
                return false;
            }
            lying = markedLying[mark];
            carried = markedCarried[mark];
            seenSize = markedSeenSize[mark];
            for (int i = 0; i < MOST_SEEN; i++) {
                seen[i] = markedSeen[mark * MOST_SEEN + i];
            }
            steps = 0;
            return true;
        }

        int drawSeasons(Hills hills, int seed, int days, int what) {
            int end = lying;
            int carryings = 0;
            long g = seed;
            for (int day = 0; day < days && hills.huts > 0; day++) {
                g = stirred(g);
                int hut = drawn(g, hills.huts);
                g = stirred(g);
                int other = drawn(g, hills.huts);
                g = stirred(g);
                boolean carries = drawn(g, 4) < 3;
                int next = carries ? hills.afterCarrying(end, hut, other) : hills.afterLaying(end, hut);
                if (next >= 0) {
                    end = next;
                    carryings += carries ? 1 : 0;
                }
            }
            if (what == 0) {
                return carryings;
            }
            return what == 1 ? hills.sumOf(end) : hills.occupied(end);
        }

        private static long stirred(long g) {
            return (g * 1103515245L + 12345L) % 2147483648L;
        }

        private static int drawn(long g, int below) {
            return below > 0 ? (int) (g / 65536L % below) : 0;
        }
    }

    /**
     * Of each way to lie, what lies ahead: behind how many carryings a load can lie in which hut, and in how many
     * carryings two who pull by turns are through.
     */
    private static final class Prospects {
        // A carrying leaves a load less at least, so 11 carryings are the most: 12 bits a hut, one for each number.
        private static final int BITS = 12;
        private static final long MASK = 4095L;

        private final Lyings lyings;
        private final long[] comings = new long[ALL_LYINGS];
        private final int[] pulls = new int[ALL_LYINGS];
        private Hills hills;
        private boolean known;

        Prospects(Lyings lyings, Hills hills) {
            this.lyings = lyings;
            this.hills = hills;
        }

        void moveTo(Hills others) {
            hills = others;
            known = false;
        }

        /** To be called ahead of all that asks; the calls of the face do so. */
        void prepare() {
            if (known) {
                return;
            }
            known = true;
            // Fewer loads go first, as a carrying leads to fewer.
            for (int sum = 0; sum <= MOST_LOADS; sum++) {
                int end = lyings.endOf(sum, hills.huts);
                for (int number = lyings.firstOf(sum); number < end && number < ALL_LYINGS; number++) {
                    if (hills.isWayToLie(lyings.lyingAt(number))) {
                        reckonOne(number, sum);
                    }
                }
            }
        }

        private void reckonOne(int number, int sum) {
            int lying = lyings.lyingAt(number);
            long later = 0;
            int pull = NONE;
            for (int way = 0; way < hills.ways; way++) {
                int behind = lyings.numberBehind(hills, lying, sum, way);
                if (behind >= 0) {
                    int length = pullAt(behind);
                    later |= comingsAt(behind);
                    pull = isBetterPull(length, pull) ? length : pull;
                }
            }
            long now = 0;
            for (int i = 0; i < hills.huts; i++) {
                if (hills.loadsIn(lying, i) > 0) {
                    now |= 1L << BITS * i;
                }
            }
            comings[number] = later << 1 | now;
            pulls[number] = pull + 1;
        }

        // An even number of carryings behind one's own is lost by the other one, who has to begin it.
        private static boolean isBetterPull(int length, int best) {
            boolean winsSo = length % 2 == 0;
            boolean winsByBest = best % 2 == 0;
            if (best == NONE || winsSo != winsByBest) {
                return best == NONE || winsSo;
            }
            return winsSo ? length < best : length > best;
        }

        private int pullAt(int number) {
            return number >= 0 && number < ALL_LYINGS ? pulls[number] : 0;
        }

        int pullLength(int lying) {
            return pullAt(lyings.numberOf(lying, hills.sumOf(lying)));
        }

        /** The first of the best ways to pull; NONE: none can be. */
        int bestPull(int lying) {
            int sum = hills.sumOf(lying);
            int found = NONE;
            int best = NONE;
            for (int way = 0; way < hills.ways; way++) {
                int behind = lyings.numberBehind(hills, lying, sum, way);
                if (behind >= 0 && isBetterPull(pullAt(behind), best)) {
                    found = way;
                    best = pullAt(behind);
                }
            }
            return found;
        }

        private long comingsAt(int number) {
            return number >= 0 && number < ALL_LYINGS ? comings[number] : 0;
        }

        private long comingsOf(int lying) {
            return comingsAt(lyings.numberOf(lying, hills.sumOf(lying)));
        }

        private static int fewest(long comings, int hut) {
            int bits = (int) (comings >> BITS * hut & MASK);
            for (int i = 0; i < BITS; i++) {
                if ((bits >> i & 1) != 0) {
                    return i;
                }
            }
            return NONE;
        }

        int fewestTo(int lying, int hut) {
            return fewest(comingsOf(lying), hut);
        }

        boolean comesTo(int lying, int hut) {
            return (comingsOf(lying) >> BITS * hut & MASK) != 0;
        }

        int hutsFrom(int lying) {
            return hutsOf(comingsOf(lying));
        }

        int hutsFromNumber(int number) {
            return hutsOf(comingsAt(number));
        }

        private int hutsOf(long some) {
            int bits = 0;
            for (int i = 0; i < hills.huts; i++) {
                if ((some >> BITS * i & MASK) != 0) {
                    bits |= 1 << i;
                }
            }
            return bits;
        }

        /** The step of this number in the first one of the shortest rows by which a load comes to the hut. */
        int stepOfRow(int start, int hut, int step) {
            int lying = start;
            int fewest = fewestTo(start, hut);
            for (int i = 0; i < fewest && i <= step; i++) {
                int way = firstWayTowards(lying, hut, fewest - i - 1);
                if (way < 0 || i == step) {
                    return hills.codeOf(way);
                }
                lying = hills.afterWay(lying, hills.sumOf(lying), way);
            }
            return NONE;
        }

        private int firstWayTowards(int lying, int hut, int rest) {
            int sum = hills.sumOf(lying);
            for (int way = 0; way < hills.ways; way++) {
                int next = hills.afterWay(lying, sum, way);
                if (next >= 0 && fewestTo(next, hut) == rest) {
                    return way;
                }
            }
            return NONE;
        }
    }

    /** All ways to lie to which one comes by carrying from one start. */
    private static final class Walk {
        // Of each: the fewest carryings in four bits, the most in the next four, then these.
        private static final int REACHED = 256;
        private static final int GOES_ON = 512;

        private final Lyings lyings;
        private final int[] infos = new int[ALL_LYINGS];
        // The numbers of the reached ones, the most loads first: what leads to one goes ahead of it.
        private final int[] order = new int[ALL_LYINGS];
        private final int[] tally = new int[ALL_LYINGS];
        private Hills hills;
        private int size;
        private int start;
        private boolean known;

        Walk(Lyings lyings, Hills hills) {
            this.lyings = lyings;
            this.hills = hills;
        }

        void moveTo(Hills others) {
            hills = others;
            known = false;
        }

        void startAt(int lying) {
            if (known && start == lying) {
                return;
            }
            for (int i = 0; i < size; i++) {
                setInfo(numberAt(i), 0);
            }
            size = 0;
            known = true;
            start = lying;
            int all = hills.sumOf(lying);
            merge(lyings.numberOf(lying, all), 0, 0);
            for (int sum = all; sum >= 0; sum--) {
                int first = lyings.firstOf(sum);
                for (int number = lyings.endOf(sum, hills.huts) - 1; number >= first; number--) {
                    if (infoOf(number) != 0) {
                        spread(number, sum);
                    }
                }
            }
        }

        private void spread(int number, int sum) {
            if (size >= ALL_LYINGS) {
                return;
            }
            order[size] = number;
            size++;
            int lying = lyings.lyingAt(number);
            int fewest = fewestOf(number) + 1;
            int longest = longestOf(number) + 1;
            for (int way = 0; way < hills.ways; way++) {
                int behind = lyings.numberBehind(hills, lying, sum, way);
                if (behind >= 0) {
                    setInfo(number, infoOf(number) | GOES_ON);
                    merge(behind, fewest, longest);
                }
            }
        }

        private void merge(int number, int fewest, int longest) {
            int few = fewest;
            int most = longest;
            if (infoOf(number) != 0) {
                few = Math.min(few, fewestOf(number));
                most = Math.max(most, longestOf(number));
            }
            setInfo(number, REACHED | most << 4 | few);
        }

        /** The number of what was reached, the most loads first. */
        private int numberAt(int i) {
            return i >= 0 && i < size && i < ALL_LYINGS ? order[i] : NONE;
        }

        private int infoOf(int number) {
            return number >= 0 && number < ALL_LYINGS ? infos[number] : 0;
        }

        private void setInfo(int number, int info) {
            if (number >= 0 && number < ALL_LYINGS) {
                infos[number] = info;
            }
        }

        private int fewestOf(int number) {
            return infoOf(number) & 15;
        }

        private int longestOf(int number) {
            return infoOf(number) >> 4 & 15;
        }

        private int tallyOf(int number) {
            return number >= 0 && number < ALL_LYINGS ? tally[number] : 0;
        }

        private void setTally(int number, int many) {
            if (number >= 0 && number < ALL_LYINGS) {
                tally[number] = many;
            }
        }

        int mostLoads(int hut) {
            int most = 0;
            for (int i = 0; i < size; i++) {
                most = Math.max(most, hills.loadsIn(lyings.lyingAt(numberAt(i)), hut));
            }
            return most;
        }

        int mostTogether(int hut) {
            for (int i = 0; i < size; i++) {
                int lying = lyings.lyingAt(numberAt(i));
                if (hills.loadsIn(lying, hut) > 0) {
                    return hills.sumOf(lying);
                }
            }
            return NONE;
        }

        int fewestToHave(int bits) {
            int found = NONE;
            for (int i = 0; i < size; i++) {
                boolean has = (hills.occupied(lyings.lyingAt(numberAt(i))) & bits) == bits;
                if (has && (found < 0 || fewestOf(numberAt(i)) < found)) {
                    found = fewestOf(numberAt(i));
                }
            }
            return found;
        }

        int fewestToSum(int sum) {
            int found = NONE;
            for (int i = 0; i < size; i++) {
                boolean has = hills.sumOf(lyings.lyingAt(numberAt(i))) == sum;
                if (has && (found < 0 || fewestOf(numberAt(i)) < found)) {
                    found = fewestOf(numberAt(i));
                }
            }
            return found;
        }

        int longestRow() {
            int longest = 0;
            for (int i = 0; i < size; i++) {
                longest = Math.max(longest, longestOf(numberAt(i)));
            }
            return longest;
        }

        int countEnds() {
            int found = 0;
            for (int i = 0; i < size; i++) {
                if ((infoOf(numberAt(i)) & GOES_ON) == 0) {
                    found++;
                }
            }
            return found;
        }

        private void clearTally() {
            for (int i = 0; i < size; i++) {
                setTally(numberAt(i), 0);
            }
            setTally(numberAt(0), 1);
        }

        /** How many rows of so many carryings, the fewest that there are, bring a load to the hut. */
        int countRows(int hut, int fewest) {
            clearTally();
            int rows = 0;
            for (int i = 0; i < size; i++) {
                int number = numberAt(i);
                if (fewestOf(number) < fewest) {
                    passRowsOn(number);
                } else if (fewestOf(number) == fewest && hills.loadsIn(lyings.lyingAt(number), hut) > 0) {
                    rows = addRows(rows, tallyOf(number));
                }
            }
            return rows;
        }

        private void passRowsOn(int number) {
            int lying = lyings.lyingAt(number);
            int sum = hills.sumOf(lying);
            for (int way = 0; way < hills.ways; way++) {
                int behind = lyings.numberBehind(hills, lying, sum, way);
                if (behind >= 0 && fewestOf(behind) == fewestOf(number) + 1) {
                    setTally(behind, addRows(tallyOf(behind), tallyOf(number)));
                }
            }
        }

        private static int addRows(int some, int others) {
            return (int) Math.min((long) some + others, (long) MOST_ROWS);
        }

        /** How likely a load lies in the hut behind so many ways drawn, in millionths. */
        int millionths(int hut, int times) {
            clearTally();
            long all = 1;
            for (int time = 0; time < times; time++) {
                all *= hills.ways;
                // From the fewest loads on, so that what is passed on in this draw is not passed on once more.
                for (int i = size - 1; i >= 0; i--) {
                    drawFrom(numberAt(i));
                }
            }
            long with = 0;
            for (int i = 0; i < size; i++) {
                if (hills.loadsIn(lyings.lyingAt(numberAt(i)), hut) > 0) {
                    with += tallyOf(numberAt(i));
                }
            }
            return all > 0 ? (int) (with * 1000000L / all) : NONE;
        }

        private void drawFrom(int number) {
            int many = tallyOf(number);
            if (many == 0) {
                return;
            }
            int lying = lyings.lyingAt(number);
            int sum = hills.sumOf(lying);
            int staying = 0;
            for (int way = 0; way < hills.ways; way++) {
                int behind = lyings.numberBehind(hills, lying, sum, way);
                if (behind >= 0) {
                    setTally(behind, tallyOf(behind) + many);
                } else {
                    staying++;
                }
            }
            setTally(number, many * staying);
        }
    }

    /** What is found by going through ways to lie. */
    private static final class Survey {
        private final Lyings lyings;
        private final Prospects prospects;
        private final int[] tally = new int[MOST_HUTS * SUMS];
        private Hills hills;

        Survey(Lyings lyings, Prospects prospects, Hills hills) {
            this.lyings = lyings;
            this.prospects = prospects;
            this.hills = hills;
        }

        void moveTo(Hills others) {
            hills = others;
        }

        int countLayings(int sum) {
            int found = 0;
            int end = lyings.endOf(sum, hills.huts);
            for (int number = lyings.firstOf(sum); number < end; number++) {
                if (hills.isWayToLie(lyings.lyingAt(number))) {
                    found++;
                }
            }
            return found;
        }

        int countComing(int hut, int sum) {
            int found = 0;
            int end = lyings.endOf(sum, hills.huts);
            for (int number = lyings.firstOf(sum); number < end; number++) {
                boolean can = hills.isWayToLie(lyings.lyingAt(number));
                if (can && (prospects.hutsFromNumber(number) >> hut & 1) != 0) {
                    found++;
                }
            }
            return found;
        }

        int countEdens(int sum) {
            int found = 0;
            int end = lyings.endOf(sum, hills.huts);
            for (int number = lyings.firstOf(sum); number < end; number++) {
                int lying = lyings.lyingAt(number);
                if (hills.isWayToLie(lying) && hills.countBefore(lying) == 0) {
                    found++;
                }
            }
            return found;
        }

        /** The first way to lay so many loads by which not all of these huts can be come to; NONE: there is none. */
        private int firstFailing(int bits, int sum) {
            int end = lyings.endOf(sum, hills.huts);
            for (int number = lyings.firstOf(sum); number < end; number++) {
                int lying = lyings.lyingAt(number);
                if (hills.isWayToLie(lying) && (prospects.hutsFromNumber(number) & bits) != bits) {
                    return lying;
                }
            }
            return NONE;
        }

        int sureFrom(int bits) {
            int found = NONE;
            for (int sum = MOST_LOADS; sum >= 1 && firstFailing(bits, sum) < 0; sum--) {
                found = sum;
            }
            return found;
        }

        int firstWithout(int hut, int sum) {
            return firstFailing(1 << hut, sum);
        }

        int firstForAll() {
            for (int sum = 0; sum <= MOST_LOADS; sum++) {
                int end = lyings.endOf(sum, hills.huts);
                for (int number = lyings.firstOf(sum); number < end; number++) {
                    int lying = lyings.lyingAt(number);
                    if (hills.isWayToLie(lying) && prospects.hutsFromNumber(number) == hills.allHuts()) {
                        return lying;
                    }
                }
            }
            return NONE;
        }

        /**
         * Where one load more lets one come to the hut, to which none can come now: it has none, so that one laid down
         * in itself is enough, and one is always the fewest. The last hut comes first: the others have 0 so.
         */
        int firstToLayIn(int lying, int hut) {
            for (int i = hills.huts - 1; i >= 0; i--) {
                int next = hills.afterLaying(lying, i);
                if (next >= 0 && prospects.comesTo(next, hut)) {
                    return i;
                }
            }
            return NONE;
        }

        /** How the others lie when the fewest are eaten by which none can come to the hut. */
        int firstGuarded(int lying, int hut) {
            for (int sum = hills.sumOf(lying); sum >= 0; sum--) {
                int end = lyings.endOf(sum, hills.huts);
                for (int number = lyings.firstOf(sum); number < end; number++) {
                    int rest = lyings.lyingAt(number);
                    if (isWithin(rest, lying) && (prospects.hutsFromNumber(number) >> hut & 1) == 0) {
                        return rest;
                    }
                }
            }
            return NONE;
        }

        private boolean isWithin(int rest, int lying) {
            for (int i = 0; i < hills.huts; i++) {
                if (hills.loadsIn(rest, i) > hills.loadsIn(lying, i)) {
                    return false;
                }
            }
            return true;
        }

        int countFitting(Story story) {
            int found = 0;
            int sum = hills.sumOf(story.lying);
            int end = lyings.endOf(sum, hills.huts);
            for (int number = lyings.firstOf(sum); number < end; number++) {
                int lying = lyings.lyingAt(number);
                if (hills.isWayToLie(lying) && story.agrees(hills, lying)) {
                    found++;
                }
            }
            return found;
        }

        private void tallyFitting(Story story) {
            for (int i = 0; i < tally.length; i++) {
                tally[i] = 0;
            }
            int sum = hills.sumOf(story.lying);
            int end = lyings.endOf(sum, hills.huts);
            for (int number = lyings.firstOf(sum); number < end; number++) {
                int lying = lyings.lyingAt(number);
                if (hills.isWayToLie(lying) && story.agrees(hills, lying)) {
                    for (int i = 0; i < hills.huts && i < MOST_HUTS; i++) {
                        tally[i * SUMS + Math.min(hills.loadsIn(lying, i), MOST_LOADS)]++;
                    }
                }
            }
        }

        int bestLook(Story story) {
            tallyFitting(story);
            int all = countFitting(story);
            int best = all;
            int found = NONE;
            for (int i = 0; i < hills.huts && i < MOST_HUTS; i++) {
                int fewer = 0;
                for (int loads = 1; loads <= MOST_LOADS; loads++) {
                    fewer += tally[i * SUMS + loads - 1];
                    int greater = Math.max(fewer, all - fewer);
                    if (greater < best) {
                        best = greater;
                        found = 16 * i + loads;
                    }
                }
            }
            return found;
        }
    }
}
