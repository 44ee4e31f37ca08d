import java.util.Arrays;
import java.util.NoSuchElementException;

public final class SnakeBoard {
    public static final int NONE = -1;

    private static final int SPENT = -2;
    private static final int FACES = 6;
    private static final int MOST_BYTES = 500;
    private static final int FED_BYTES = 20;
    private static final int LEAST_LAST = 10;
    private static final int MOST_LAST = 100;
    private static final int MOST_SQUARES = MOST_LAST + 1;
    private static final int MOST_EXITS = 24;
    private static final int MOST_PIECES = 4;
    private static final int MOST_THROWS = 200;
    private static final int MOST_NOTED = 40;
    private static final int MOST_N = 400;
    private static final int MOST_TO_COME = 100;
    private static final int SPENT_LAST = 40;
    private static final int SPENT_N = 60;
    private static final int PARTS_OF_A_THROW = 5;
    private static final int STATUSES = 3;
    private static final int REFUSED_TEXTS = 0;
    private static final int REFUSED_THROWS = 1;
    private static final int REFUSED_SQUARES = 2;
    private static final int STAY = 0;
    private static final int BACK = 1;
    private static final int IN = 2;
    private static final long ALL_GRAINS = 1000000000L;

    private final char[] tape = new char[MOST_BYTES];
    private int tapeLength = 0;
    private int faultPlace = NONE;
    private Rules rules = new Rules();
    private final Reader reader = new Reader(tape);
    private final Paths paths = new Paths();
    private final Paths otherPaths = new Paths();
    private final State state = new State();
    private final State kept = new State();
    private boolean hasImage = false;
    private final Ways ways = new Ways();
    private final Sand sand = new Sand();
    private final Sand otherSand = new Sand();
    private final Hopes hopes = new Hopes();
    private final Notes notes = new Notes();
    private final Writer writer = new Writer();

    public SnakeBoard() {
        startAnew();
    }

    public int feed(int a, int b, int c, int d, int e) {
        if (tapeLength > MOST_BYTES - FED_BYTES) {
            return NONE;
        }
        feedNumber(a);
        feedNumber(b);
        feedNumber(c);
        feedNumber(d);
        feedNumber(e);
        return tapeLength;
    }

    private void feedNumber(int number) {
        for (int shift = 24; shift >= 0; shift -= 8) {
            if (tapeLength >= 0 && tapeLength < tape.length) {
                tape[tapeLength] = (char) ((number >>> shift) & 255);
                tapeLength++;
            }
        }
    }

    public int board(int n) throws IllegalArgumentException {
        if (n < 0 || n > tapeLength) {
            throw new IllegalArgumentException();
        }
        tapeLength = 0;
        int found = reader.read(n);
        if (found != 0) {
            faultPlace = reader.start;
            state.refuse(REFUSED_TEXTS);
            return found;
        }
        faultPlace = NONE;
        rules = reader.exchange(rules);
        startAnew();
        return 0;
    }

    /** All that hangs on the board begins again; the tape, the latest fault and the STATUS stay. */
    private void startAnew() {
        paths.takeFeet(rules);
        paths.measure(rules);
        paths.lay(rules, rules.end);
        state.begin(rules.pieces);
        ways.keptLength = NONE;
        hasImage = false;
    }

    public int fault() {
        return faultPlace;
    }

    public int count(int what) throws NoSuchElementException {
        if (what > 20 && what <= 20 + FACES) {
            return rules.oddsOf(what - 20);
        }
        switch (what) {
            case 0: return rules.last;
            case 1: return rules.exits;
            case 2: return rules.pieces;
            case 3: return rules.end;
            case 4: return rules.again;
            case 5: return rules.meet ? 1 : 0;
            case 6: return state.thrown;
            case 7: return state.turn;
            case 8: return state.noted;
            case 9: return tapeLength;
            case 10: return state.refusedOf(REFUSED_TEXTS);
            case 11: return state.refusedOf(REFUSED_THROWS);
            case 12: return state.refusedOf(REFUSED_SQUARES);
            default: throw new NoSuchElementException();
        }
    }

    public int exit(int exit, int what) throws NoSuchElementException {
        needExit(exit);
        if (what != 0 && what != 1) {
            throw new NoSuchElementException();
        }
        return what == 0 ? rules.footOf(exit) : rules.headOf(exit);
    }

    public int goes(int square, int face) throws NoSuchElementException {
        needSquare(square);
        needFace(face);
        return paths.to(square, face);
    }

    public int roll(int face) throws NoSuchElementException {
        needFace(face);
        int to = state.move(rules, paths, face);
        if (to == NONE) {
            state.refuse(REFUSED_THROWS);
        }
        return to;
    }

    public int rolls(int seed, int many) throws IllegalArgumentException {
        if (many < 0 || many > MOST_THROWS) {
            throw new IllegalArgumentException();
        }
        int next = seed;
        int done = 0;
        for (int i = 0; i < many && state.canMove(); i++) {
            next = nextSeed(next);
            state.move(rules, paths, rules.faceOf(drawn(next, rules.allOdds)));
            done++;
        }
        return done;
    }

    private static int nextSeed(int seed) {
        return seed * 1103515245 + 12345;
    }

    private static int drawn(int seed, int many) {
        return many <= 0 ? 0 : ((seed >>> 16) & 32767) % many;
    }

    public int undo() {
        return state.takeBack();
    }

    public int piece(int piece) throws NoSuchElementException {
        if (piece < 0 || piece >= rules.pieces) {
            throw new NoSuchElementException();
        }
        return state.placeOf(piece);
    }

    public int rolled(int i, int what) throws NoSuchElementException {
        if (i < 0 || i >= state.thrown || what < 0 || what >= PARTS_OF_A_THROW) {
            throw new NoSuchElementException();
        }
        return state.logged(i, what);
    }

    public int fewest(int square) throws NoSuchElementException {
        needSquare(square);
        ways.findHome(rules, paths);
        return ways.keepFewest(rules, paths, square);
    }

    public int row(int i) throws NoSuchElementException {
        if (i < 0 || i >= ways.keptLength || i >= ways.keptFaces.length) {
            throw new NoSuchElementException();
        }
        return ways.keptFaces[i];
    }

    public boolean never(int square) throws NoSuchElementException {
        needSquare(square);
        ways.findFrom(rules, paths, 0);
        return square != 0 && ways.throwsOf(square) == NONE;
    }

    public boolean lost(int square) throws NoSuchElementException {
        needSquare(square);
        ways.findHome(rules, paths);
        return ways.throwsOf(square) == NONE;
    }

    public int round(int square) throws NoSuchElementException {
        needSquare(square);
        ways.findFrom(rules, paths, square);
        return ways.throwsOf(square);
    }

    public long grains(int square, int n, int what) throws NoSuchElementException, IllegalArgumentException {
        needSquare(square);
        needWhat(what, 2);
        needThrows(n);
        if (what == 1) {
            return sand.sumOut(rules, paths, square, n);
        }
        sand.pour(rules, square);
        long before = sand.out();
        for (int i = 0; i < n; i++) {
            before = sand.out();
            sand.share(rules, paths);
        }
        return what == 0 ? sand.out() : before - sand.out();
    }

    public long stood(int from, int square, int n) throws NoSuchElementException, IllegalArgumentException {
        needSquare(from);
        needSquare(square);
        needThrows(n);
        sand.pour(rules, from);
        long sum = 0;
        for (int i = 0; i < n; i++) {
            sand.share(rules, paths);
            sum += sand.on(square);
        }
        return sum;
    }

    public int half(int square) throws NoSuchElementException {
        needSquare(square);
        sand.pour(rules, square);
        for (int n = 0; n <= MOST_N; n++) {
            if (sand.out() <= ALL_GRAINS / 2) {
                return n;
            }
            sand.share(rules, paths);
        }
        return NONE;
    }

    public long first(int one, int two, int n, int what) throws NoSuchElementException, IllegalArgumentException {
        needSquare(one);
        needSquare(two);
        needWhat(what, 2);
        needThrows(n);
        sand.pour(rules, one);
        otherSand.pour(rules, two);
        long firstWins = 0;
        long secondWins = 0;
        for (int i = 0; i < n; i++) {
            long oneBefore = sand.out();
            long twoBefore = otherSand.out();
            sand.share(rules, paths);
            otherSand.share(rules, paths);
            firstWins += (oneBefore - sand.out()) * twoBefore;
            secondWins += (twoBefore - otherSand.out()) * sand.out();
        }
        firstWins /= ALL_GRAINS;
        secondWins /= ALL_GRAINS;
        if (what == 0) {
            return firstWins;
        }
        return what == 1 ? secondWins : ALL_GRAINS - firstWins - secondWins;
    }

    public long matters(int exit, int n) throws NoSuchElementException, IllegalArgumentException {
        needExit(exit);
        needThrows(n);
        return sumWithout(exit, n) - sand.sumOut(rules, paths, 0, n);
    }

    private long sumWithout(int exit, int n) {
        otherPaths.takeFeet(rules);
        otherPaths.putFoot(rules.footOf(exit), 0);
        otherPaths.measure(rules);
        otherPaths.lay(rules, rules.end);
        return sand.sumOut(rules, otherPaths, 0, n);
    }

    public int most(int n) throws IllegalArgumentException {
        needThrows(n);
        long sum = sand.sumOut(rules, paths, 0, n);
        int best = NONE;
        long farthest = NONE;
        for (int exit = 0; exit < rules.exits; exit++) {
            long far = Math.abs(sumWithout(exit, n) - sum);
            if (far > farthest) {
                farthest = far;
                best = exit;
            }
        }
        return best;
    }

    public int wanted(long wish, int n) throws IllegalArgumentException {
        needThrows(n);
        if (wish < 0) {
            throw new IllegalArgumentException();
        }
        if (isSpent(n)) {
            return SPENT;
        }
        return rules.exits >= MOST_EXITS ? NONE : nearest(wish, n);
    }

    private boolean isSpent(int n) {
        return rules.last > SPENT_LAST || n > SPENT_N;
    }

    private int nearest(long wish, int n) {
        int best = NONE;
        long least = 0;
        otherPaths.takeFeet(rules);
        for (int foot = 1; foot < rules.last; foot++) {
            if (rules.isFoot(foot)) {
                continue;
            }
            // how far one goes hangs on the feet alone, so it is measured once for all heads
            otherPaths.putFoot(foot, rules.last);
            otherPaths.measure(rules);
            for (int head = 1; head <= rules.last; head++) {
                if (head == foot) {
                    continue;
                }
                otherPaths.putFoot(foot, head);
                otherPaths.lay(rules, rules.end);
                long gap = Math.abs(sand.sumOut(rules, otherPaths, 0, n) - wish);
                if (best == NONE || gap < least) {
                    least = gap;
                    best = (rules.last + 1) * foot + head;
                }
            }
            otherPaths.putFoot(foot, 0);
        }
        return best;
    }

    public long ahead(int square, int n) throws NoSuchElementException, IllegalArgumentException {
        needSquare(square);
        needToCome(n, 0);
        hopes.lookAhead(rules, paths, n);
        return hopes.at(square);
    }

    public int choose(int square, int one, int two, int n) throws NoSuchElementException, IllegalArgumentException {
        needSquare(square);
        needFace(one);
        needFace(two);
        needToCome(n, 1);
        hopes.lookAhead(rules, paths, n - 1);
        return hopes.at(paths.to(square, two)) < hopes.at(paths.to(square, one)) ? two : one;
    }

    public int often(int face) throws NoSuchElementException {
        needFace(face);
        return state.timesThrown(face);
    }

    public long unlike(int what) throws NoSuchElementException {
        needWhat(what, 1);
        // 2520 can be divided by all ODDS there are
        long upper = 0;
        for (int face = 1; face <= FACES; face++) {
            int odds = rules.oddsOf(face);
            if (odds > 0) {
                long more = timesMore(face);
                upper += more * more * (2520 / odds);
            }
        }
        long lower = 2520L * state.thrown * rules.allOdds;
        long divisor = commonDivisor(upper, lower);
        if (divisor <= 0) {
            return what;
        }
        return what == 0 ? upper / divisor : lower / divisor;
    }

    /** How much more often than it should be a FACE was thrown, by all ODDS. */
    private long timesMore(int face) {
        return (long) state.timesThrown(face) * rules.allOdds - (long) state.thrown * rules.oddsOf(face);
    }

    private static long commonDivisor(long a, long b) {
        long one = a;
        long two = b;
        // no two longs need as many as a hundred steps
        for (int i = 0; i < 200 && two != 0; i++) {
            long rest = one % two;
            one = two;
            two = rest;
        }
        return one;
    }

    public int worn() {
        if (state.thrown == 0) {
            return NONE;
        }
        int best = 1;
        for (int face = 2; face <= FACES; face++) {
            if (timesMore(face) > timesMore(best)) {
                best = face;
            }
        }
        return best;
    }

    public int note(int square) {
        if (square < NONE || square > rules.last || state.noted >= MOST_NOTED) {
            state.refuse(REFUSED_SQUARES);
            return NONE;
        }
        state.putNote(square);
        return state.noted;
    }

    public int forget() {
        if (state.noted <= 0) {
            return NONE;
        }
        state.noted--;
        return state.noted;
    }

    public int cannot() {
        return notes.firstThatCannotBe(state, rules, paths);
    }

    public long fits() {
        long many = notes.countFits(state, rules, paths);
        if (many > 0) {
            ways.keptLength = notes.putFirstFit(state, rules, paths, ways.keptFaces);
        }
        return many;
    }

    public int less() {
        return notes.countOneLess(state, rules, paths);
    }

    public int draw(int seed, int last, int exits) throws IllegalArgumentException {
        if (last < LEAST_LAST || last > MOST_LAST || exits < 0 || exits > MOST_EXITS) {
            throw new IllegalArgumentException();
        }
        rules.clearButDie();
        rules.last = last;
        int next = seed;
        for (int i = 0; i < exits; i++) {
            next = nextSeed(next);
            int foot = drawn(next, last - 1) + 1;
            next = nextSeed(next);
            int head = drawn(next, last) + 1;
            if (head != foot && !rules.isFoot(foot)) {
                rules.addExit(foot, head);
            }
        }
        startAnew();
        return rules.exits;
    }

    public long ended(int end, int n) throws NoSuchElementException, IllegalArgumentException {
        needWhat(end, IN);
        needThrows(n);
        otherPaths.takeFeet(rules);
        otherPaths.measure(rules);
        otherPaths.lay(rules, end);
        return sand.sumOut(rules, otherPaths, 0, n);
    }

    public long together(int one, int two, int n) throws NoSuchElementException, IllegalArgumentException {
        needSquare(one);
        needSquare(two);
        needToCome(n, 0);
        if (isSpent(n)) {
            return SPENT;
        }
        hopes.lookTogether(rules, paths, n);
        return hopes.atBoth(one, two);
    }

    public int whom(int one, int two, int face, int n) throws NoSuchElementException, IllegalArgumentException {
        needSquare(one);
        needSquare(two);
        needFace(face);
        needToCome(n, 1);
        if (isSpent(n)) {
            return SPENT;
        }
        if (one == rules.last) {
            return two == rules.last ? NONE : 1;
        }
        if (two == rules.last) {
            return 0;
        }
        hopes.lookTogether(rules, paths, n - 1);
        long byFirst = hopes.atBoth(paths.to(one, face), two);
        long bySecond = hopes.atBoth(one, paths.to(two, face));
        return bySecond < byFirst ? 1 : 0;
    }

    public int written(int i) throws NoSuchElementException {
        writer.write(rules, i);
        if (i == NONE) {
            return writer.length;
        }
        if (i < 0 || i >= writer.length) {
            throw new NoSuchElementException();
        }
        return writer.wanted;
    }

    public void image() {
        kept.takeFrom(state);
        hasImage = true;
    }

    public boolean restore() {
        if (hasImage) {
            state.takeFrom(kept);
        }
        return hasImage;
    }

    private void needSquare(int square) throws NoSuchElementException {
        if (square < 0 || square > rules.last) {
            throw new NoSuchElementException();
        }
    }

    private void needFace(int face) throws NoSuchElementException {
        if (face < 1 || face > FACES) {
            throw new NoSuchElementException();
        }
    }

    private void needExit(int exit) throws NoSuchElementException {
        if (exit < 0 || exit >= rules.exits) {
            throw new NoSuchElementException();
        }
    }

    private void needWhat(int what, int most) throws NoSuchElementException {
        if (what < 0 || what > most) {
            throw new NoSuchElementException();
        }
    }

    private void needThrows(int n) throws IllegalArgumentException {
        if (n < 0 || n > MOST_N) {
            throw new IllegalArgumentException();
        }
    }

    private void needToCome(int n, int least) throws IllegalArgumentException {
        if (n < least || n > MOST_TO_COME) {
            throw new IllegalArgumentException();
        }
    }

    /** A board: what a text tells, or a seed draws. */
    private static final class Rules {
        int last;
        int allOdds;
        int leastFace;
        int end;
        int again;
        boolean meet;
        int pieces;
        int exits;
        final Formula formula = new Formula();
        final int[] odds = new int[FACES + 1];
        private final int[] feet = new int[MOST_EXITS];
        private final int[] heads = new int[MOST_EXITS];
        private final boolean[] isFoot = new boolean[MOST_SQUARES];

        Rules() {
            clear();
        }

        void clear() {
            clearButDie();
            for (int face = 1; face <= FACES; face++) {
                putOdds(face, 1);
            }
            sumOdds();
        }

        void clearButDie() {
            last = 36;
            end = STAY;
            again = 0;
            meet = false;
            pieces = 2;
            exits = 0;
            for (int i = 0; i < isFoot.length; i++) {
                isFoot[i] = false;
            }
            formula.clear();
        }

        void putOdds(int face, int many) {
            if (face >= 0 && face < odds.length) {
                odds[face] = many;
            }
        }

        int oddsOf(int face) {
            return face >= 0 && face < odds.length ? odds[face] : 0;
        }

        void sumOdds() {
            allOdds = 0;
            leastFace = 0;
            for (int face = FACES; face >= 1; face--) {
                allOdds += oddsOf(face);
                if (oddsOf(face) > 0) {
                    leastFace = face;
                }
            }
        }

        int faceOf(int draw) {
            int sum = 0;
            for (int face = 1; face < FACES; face++) {
                sum += oddsOf(face);
                if (sum > draw) {
                    return face;
                }
            }
            return FACES;
        }

        boolean isFoot(int square) {
            return square >= 0 && square < isFoot.length && isFoot[square];
        }

        void addExit(int foot, int head) {
            if (exits >= 0 && exits < MOST_EXITS && foot >= 0 && foot < isFoot.length) {
                feet[exits] = foot;
                heads[exits] = head;
                isFoot[foot] = true;
                exits++;
            }
        }

        int footOf(int exit) {
            return exit >= 0 && exit < feet.length ? feet[exit] : 0;
        }

        int headOf(int exit) {
            return exit >= 0 && exit < heads.length ? heads[exit] : 0;
        }
    }

    /** The rule for how far one goes: its code puts operands ahead of their operator. */
    private static final class Formula {
        // what isn't below 0 is a NUMBER
        static final int THROW = -1;
        static final int AT = -2;
        static final int LAST = -3;
        static final int EXITS = -4;
        static final int NOT = -5;
        static final int AND = -6;
        static final int OR = -7;
        static final int LESS = -8;
        static final int SAME = -9;
        static final int PLUS = -10;
        static final int MINUS = -11;
        static final int TIMES = -12;
        static final int BY = -13;
        private static final int FARTHEST = 200;

        boolean told;
        int textLength;
        // a blank may come between any two bytes that were told
        final char[] text = new char[2 * MOST_BYTES];
        private int length;
        private final int[] code = new int[MOST_BYTES];
        // six EXPR in one another with at most five open operands each need 31
        private final int[] stack = new int[64];

        void clear() {
            told = false;
            textLength = 0;
            length = 0;
            add(THROW);
        }

        void begin() {
            told = true;
            textLength = 0;
            length = 0;
        }

        void add(int step) {
            if (length >= 0 && length < code.length) {
                code[length] = step;
                length++;
            }
        }

        void addSign(char sign) {
            if (textLength >= 0 && textLength < text.length) {
                text[textLength] = sign;
                textLength++;
            }
        }

        int howFar(int thrown, int at, int last, int above) {
            return Math.max(-FARTHEST, Math.min(FARTHEST, value(thrown, at, last, above)));
        }

        private int value(int thrown, int at, int last, int above) {
            int top = 0;
            for (int i = 0; i < length && i < code.length; i++) {
                int step = code[i];
                if (step > NOT) {
                    if (top >= stack.length) {
                        return 0;
                    }
                    stack[top] = operand(step, thrown, at, last, above);
                    top++;
                } else if (step == NOT) {
                    if (top < 1 || top > stack.length) {
                        return 0;
                    }
                    stack[top - 1] = holds(stack[top - 1] == 0);
                } else {
                    if (top < 2 || top > stack.length) {
                        return 0;
                    }
                    top--;
                    stack[top - 1] = joined(step, stack[top - 1], stack[top]);
                }
            }
            return stack[0];
        }

        private static int operand(int step, int thrown, int at, int last, int above) {
            switch (step) {
                case THROW: return thrown;
                case AT: return at;
                case LAST: return last;
                case EXITS: return above;
                default: return step;
            }
        }

        private static int joined(int step, int left, int right) {
            switch (step) {
                case AND: return holds(left != 0 && right != 0);
                case OR: return holds(left != 0 || right != 0);
                case LESS: return holds(left < right);
                case SAME: return holds(left == right);
                case PLUS: return left + right;
                case MINUS: return left - right;
                case TIMES: return left * right;
                default: return right == 0 ? 0 : left / right;
            }
        }

        private static int holds(boolean test) {
            return test ? 1 : 0;
        }
    }

    /** Reads a text into rules, one token looked at a time. */
    private static final class Reader {
        private static final int TEXT_END = 0;
        private static final int WORD = 1;
        private static final int NUMBER = 2;
        private static final int SIGN = 3;
        private static final int NO_TOKEN = 4;
        private static final int UNFIT = 1;
        private static final int TOO_MUCH = 2;
        private static final int NO_VALUE = 3;
        private static final int FOOT_AGAIN = 4;
        private static final int TOLD_AGAIN = 5;
        private static final int EXIT_LINE = 1;
        private static final int DIE_LINE = 2;
        private static final int END_LINE = 3;
        private static final int AGAIN_LINE = 4;
        private static final int MEET_LINE = 5;
        private static final int PIECES_LINE = 6;
        private static final int GOES_LINE = 7;
        private static final int MOST_AROUND = 5;
        private static final int MOST_NOTS = 6;

        int start;
        private final char[] text;
        private int end;
        private int stop;
        private int kind;
        private int found;
        private int told;
        private Rules into = new Rules();

        Reader(char[] text) {
            this.text = text;
        }

        /** What was read, for rules over which the next text may be read. */
        Rules exchange(Rules old) {
            Rules read = into;
            into = old;
            return read;
        }

        /** Answers the FAULT, or 0; start is the FAULT's place then. */
        int read(int length) {
            end = Math.max(0, Math.min(length, text.length));
            into.clear();
            found = 0;
            told = 0;
            stop = 0;
            readOn();
            boolean fine = !isWord("last") || readLast();
            for (int i = 0; i <= MOST_BYTES && fine && kind != TEXT_END; i++) {
                fine = readLine();
            }
            return found;
        }

        private boolean fail(int kindOfFault) {
            found = kindOfFault;
            return false;
        }

        private char signAt(int place) {
            return place >= 0 && place < end && place < text.length ? text[place] : (char) 0;
        }

        private static boolean isLetter(char sign) {
            return sign >= 'a' && sign <= 'z';
        }

        private static boolean isDigit(char sign) {
            return sign >= '0' && sign <= '9';
        }

        private static boolean isBlank(char sign) {
            return sign == 32 || sign == 10;
        }

        private void readOn() {
            start = stop;
            while (start < end && isBlank(signAt(start))) {
                start++;
            }
            stop = start;
            char sign = signAt(start);
            if (start >= end) {
                kind = TEXT_END;
            } else if (isLetter(sign)) {
                kind = WORD;
                while (stop < end && isLetter(signAt(stop))) {
                    stop++;
                }
            } else if (isDigit(sign)) {
                kind = NUMBER;
                while (stop < end && isDigit(signAt(stop))) {
                    stop++;
                }
            } else {
                kind = ";()+-*/<=".indexOf(sign) >= 0 ? SIGN : NO_TOKEN;
                stop++;
            }
        }

        private boolean isWord(String word) {
            if (kind != WORD || stop - start != word.length()) {
                return false;
            }
            for (int i = 0; i < word.length(); i++) {
                if (signAt(start + i) != word.charAt(i)) {
                    return false;
                }
            }
            return true;
        }

        private boolean isSign(char sign) {
            return kind == SIGN && signAt(start) == sign;
        }

        private boolean takeSign(char sign) {
            if (!isSign(sign)) {
                return fail(UNFIT);
            }
            readOn();
            return true;
        }

        /** NONE, if it has 5 digits or more. */
        private int numberHere() {
            if (stop - start > 4) {
                return NONE;
            }
            int value = 0;
            for (int i = start; i < stop; i++) {
                value = value * 10 + (signAt(i) - '0');
            }
            return value;
        }

        /** The NUMBER looked at, which stays the one looked at; NONE, if it is at fault. */
        private int checkedNumber(int least, int most) {
            if (kind != NUMBER) {
                fail(UNFIT);
                return NONE;
            }
            int value = numberHere();
            if (value < least || value > most) {
                fail(TOO_MUCH);
                return NONE;
            }
            return value;
        }

        private boolean readLast() {
            readOn();
            int value = checkedNumber(LEAST_LAST, MOST_LAST);
            if (value == NONE) {
                return false;
            }
            into.last = value;
            readOn();
            return takeSign(';');
        }

        private boolean readLine() {
            int line = lineHere();
            if (line == 0) {
                return fail(UNFIT);
            }
            if (line == EXIT_LINE && into.exits >= MOST_EXITS) {
                return fail(TOO_MUCH);
            }
            if (line != EXIT_LINE && (told & (1 << line)) != 0) {
                return fail(TOLD_AGAIN);
            }
            told |= 1 << line;
            readOn();
            boolean fine = true;
            switch (line) {
                case EXIT_LINE:
                    fine = readExit();
                    break;
                case DIE_LINE:
                    fine = readDie();
                    break;
                case END_LINE:
                    fine = readEnd();
                    break;
                case AGAIN_LINE:
                    fine = readAgain();
                    break;
                case PIECES_LINE:
                    fine = readPieces();
                    break;
                case GOES_LINE:
                    fine = readGoes();
                    break;
                default:
                    into.meet = true;
            }
            return fine && takeSign(';');
        }

        private int lineHere() {
            if (isWord("exit")) {
                return EXIT_LINE;
            }
            if (isWord("die")) {
                return DIE_LINE;
            }
            if (isWord("end")) {
                return END_LINE;
            }
            if (isWord("again")) {
                return AGAIN_LINE;
            }
            if (isWord("meet")) {
                return MEET_LINE;
            }
            if (isWord("pieces")) {
                return PIECES_LINE;
            }
            return isWord("goes") ? GOES_LINE : 0;
        }

        private boolean readExit() {
            int foot = checkedNumber(1, into.last - 1);
            if (foot == NONE) {
                return false;
            }
            if (into.isFoot(foot)) {
                return fail(FOOT_AGAIN);
            }
            readOn();
            int head = checkedNumber(1, into.last);
            if (head == NONE) {
                return false;
            }
            if (head == foot) {
                return fail(TOO_MUCH);
            }
            into.addExit(foot, head);
            readOn();
            return true;
        }

        private boolean readDie() {
            for (int face = 1; face <= FACES; face++) {
                int odds = checkedNumber(0, 9);
                if (odds == NONE) {
                    return false;
                }
                into.putOdds(face, odds);
                into.sumOdds();
                if (face == FACES && into.allOdds == 0) {
                    return fail(TOO_MUCH);
                }
                readOn();
            }
            return true;
        }

        private boolean readEnd() {
            if (isWord("stay")) {
                into.end = STAY;
            } else if (isWord("back")) {
                into.end = BACK;
            } else if (isWord("in")) {
                into.end = IN;
            } else {
                return fail(UNFIT);
            }
            readOn();
            return true;
        }

        private boolean readAgain() {
            int face = checkedNumber(1, FACES);
            if (face == NONE) {
                return false;
            }
            into.again = face;
            readOn();
            return true;
        }

        private boolean readPieces() {
            int many = checkedNumber(1, MOST_PIECES);
            if (many == NONE) {
                return false;
            }
            into.pieces = many;
            readOn();
            return true;
        }

        private boolean readGoes() {
            into.formula.begin();
            int from = start;
            if (!readExpr(0)) {
                return false;
            }
            keepText(from, start);
            return true;
        }

        private void keepText(int from, int to) {
            char before = ';';
            boolean apart = false;
            for (int i = from; i < to; i++) {
                char sign = signAt(i);
                if (isBlank(sign)) {
                    apart = true;
                    continue;
                }
                boolean bothLong = (isLetter(before) || isDigit(before)) && (isLetter(sign) || isDigit(sign));
                if (bothLong && (apart || isLetter(before) != isLetter(sign))) {
                    into.formula.addSign(' ');
                }
                into.formula.addSign(sign);
                before = sign;
                apart = false;
            }
        }

        private boolean readExpr(int around) {
            if (around > MOST_AROUND) {
                return fail(kind == NUMBER || kind == WORD || isSign('(') ? TOO_MUCH : UNFIT);
            }
            if (!readAnd(around)) {
                return false;
            }
            for (int i = 0; i < MOST_BYTES && isWord("or"); i++) {
                readOn();
                if (!readAnd(around)) {
                    return false;
                }
                into.formula.add(Formula.OR);
            }
            return true;
        }

        private boolean readAnd(int around) {
            if (!readNot(around)) {
                return false;
            }
            for (int i = 0; i < MOST_BYTES && isWord("and"); i++) {
                readOn();
                if (!readNot(around)) {
                    return false;
                }
                into.formula.add(Formula.AND);
            }
            return true;
        }

        private boolean readNot(int around) {
            int nots = 0;
            while (nots < MOST_NOTS && isWord("not")) {
                nots++;
                readOn();
            }
            if (nots == MOST_NOTS && isWord("not")) {
                return fail(TOO_MUCH);
            }
            if (!readTest(around)) {
                return false;
            }
            for (int i = 0; i < nots; i++) {
                into.formula.add(Formula.NOT);
            }
            return true;
        }

        private boolean readTest(int around) {
            if (!readSum(around)) {
                return false;
            }
            boolean isLess = isSign('<');
            if (!isLess && !isSign('=')) {
                return true;
            }
            readOn();
            if (!readSum(around)) {
                return false;
            }
            into.formula.add(isLess ? Formula.LESS : Formula.SAME);
            return true;
        }

        private boolean readSum(int around) {
            if (!readProduct(around)) {
                return false;
            }
            for (int i = 0; i < MOST_BYTES && (isSign('+') || isSign('-')); i++) {
                int step = isSign('+') ? Formula.PLUS : Formula.MINUS;
                readOn();
                if (!readProduct(around)) {
                    return false;
                }
                into.formula.add(step);
            }
            return true;
        }

        private boolean readProduct(int around) {
            if (!readPart(around)) {
                return false;
            }
            for (int i = 0; i < MOST_BYTES && (isSign('*') || isSign('/')); i++) {
                int step = isSign('*') ? Formula.TIMES : Formula.BY;
                readOn();
                if (!readPart(around)) {
                    return false;
                }
                into.formula.add(step);
            }
            return true;
        }

        private boolean readPart(int around) {
            if (isSign('(')) {
                readOn();
                return readExpr(around + 1) && takeSign(')');
            }
            if (kind == WORD) {
                return readValue();
            }
            int number = checkedNumber(0, 9999);
            if (number == NONE) {
                return false;
            }
            into.formula.add(number);
            readOn();
            return true;
        }

        private boolean readValue() {
            if (isWord("throw")) {
                into.formula.add(Formula.THROW);
            } else if (isWord("at")) {
                into.formula.add(Formula.AT);
            } else if (isWord("last")) {
                into.formula.add(Formula.LAST);
            } else if (isWord("exits")) {
                into.formula.add(Formula.EXITS);
            } else {
                return fail(NO_VALUE);
            }
            readOn();
            return true;
        }
    }

    /** Where one goes from each SQUARE by each FACE (and by 0, which ONE LESS asks for). */
    private static final class Paths {
        static final int STEPS = FACES + 1;

        private final int[] headAt = new int[MOST_SQUARES];
        private final int[] far = new int[MOST_SQUARES * STEPS];
        final int[] leads = new int[MOST_SQUARES * STEPS];

        void takeFeet(Rules rules) {
            Arrays.fill(headAt, 0);
            for (int exit = 0; exit < rules.exits; exit++) {
                putFoot(rules.footOf(exit), rules.headOf(exit));
            }
        }

        /** Head 0: the SQUARE is no FOOT. */
        void putFoot(int foot, int head) {
            if (foot >= 0 && foot < headAt.length) {
                headAt[foot] = head;
            }
        }

        void measure(Rules rules) {
            int above = 0;
            for (int square = Math.min(rules.last, MOST_LAST); square >= 0; square--) {
                for (int thrown = 0; thrown < STEPS; thrown++) {
                    far[square * STEPS + thrown] = rules.formula.howFar(thrown, square, rules.last, above);
                }
                if (headAt[square] != 0) {
                    above++;
                }
            }
        }

        void lay(Rules rules, int end) {
            int last = Math.min(rules.last, MOST_LAST);
            for (int square = 0; square <= last; square++) {
                for (int thrown = 0; thrown < STEPS; thrown++) {
                    int i = square * STEPS + thrown;
                    leads[i] = square == last ? last : landing(square, far[i], last, end);
                }
            }
        }

        private int landing(int square, int onward, int last, int end) {
            int to = Math.max(0, square + onward);
            if (to > last) {
                if (end == STAY) {
                    return square;
                }
                to = end == BACK ? Math.max(0, 2 * last - to) : last;
            }
            if (to >= headAt.length || headAt[to] == 0) {
                return to;
            }
            return headAt[to];
        }

        int to(int square, int thrown) {
            int i = square * STEPS + thrown;
            return i >= 0 && i < leads.length ? leads[i] : 0;
        }
    }

    /** What an IMAGE keeps: the GAME, what is NOTED, the STATUS. */
    private static final class State {
        int turn;
        int thrown;
        int noted;
        private int pieces;
        private final int[] places = new int[MOST_PIECES];
        private final int[] log = new int[MOST_THROWS * PARTS_OF_A_THROW];
        private final int[] noteRow = new int[MOST_NOTED];
        private final int[] refused = new int[STATUSES];

        void begin(int many) {
            pieces = Math.max(0, Math.min(many, MOST_PIECES));
            Arrays.fill(places, 0);
            turn = 0;
            thrown = 0;
            noted = 0;
        }

        void takeFrom(State other) {
            turn = other.turn;
            thrown = other.thrown;
            noted = other.noted;
            pieces = other.pieces;
            System.arraycopy(other.places, 0, places, 0, MOST_PIECES);
            System.arraycopy(other.log, 0, log, 0, MOST_THROWS * PARTS_OF_A_THROW);
            System.arraycopy(other.noteRow, 0, noteRow, 0, MOST_NOTED);
            System.arraycopy(other.refused, 0, refused, 0, STATUSES);
        }

        void refuse(int which) {
            if (which >= 0 && which < refused.length) {
                refused[which]++;
            }
        }

        int refusedOf(int which) {
            return which >= 0 && which < refused.length ? refused[which] : 0;
        }

        int placeOf(int piece) {
            return piece >= 0 && piece < places.length ? places[piece] : 0;
        }

        private void place(int piece, int square) {
            if (piece >= 0 && piece < places.length) {
                places[piece] = square;
            }
        }

        int logged(int i, int part) {
            int at = i * PARTS_OF_A_THROW + part;
            return at >= 0 && at < log.length ? log[at] : 0;
        }

        private void putLog(int part, int value) {
            int at = thrown * PARTS_OF_A_THROW + part;
            if (at >= 0 && at < log.length) {
                log[at] = value;
            }
        }

        boolean canMove() {
            return turn != NONE && thrown < MOST_THROWS;
        }

        /** Where the PIECE comes; NONE, if there can be no THROW. */
        int move(Rules rules, Paths paths, int face) {
            if (!canMove()) {
                return NONE;
            }
            int from = placeOf(turn);
            int to = paths.to(from, face);
            place(turn, to);
            putLog(0, turn);
            putLog(1, face);
            putLog(2, from);
            putLog(3, to);
            putLog(4, rules.meet && to != 0 && to != rules.last ? sendBack(to) : 0);
            thrown++;
            turn = nextTurn(rules, face);
            return to;
        }

        private int sendBack(int square) {
            int sent = 0;
            for (int piece = 0; piece < pieces; piece++) {
                if (piece != turn && placeOf(piece) == square) {
                    place(piece, 0);
                    sent |= 1 << piece;
                }
            }
            return sent;
        }

        private int nextTurn(Rules rules, int face) {
            if (face == rules.again && placeOf(turn) != rules.last) {
                return turn;
            }
            int next = turn;
            for (int i = 0; i < pieces; i++) {
                next = next + 1 >= pieces ? 0 : next + 1;
                if (placeOf(next) != rules.last) {
                    return next;
                }
            }
            return NONE;
        }

        /** How many THROWS are left; NONE, if there is none to undo. */
        int takeBack() {
            if (thrown <= 0) {
                return NONE;
            }
            thrown--;
            turn = logged(thrown, 0);
            place(turn, logged(thrown, 2));
            int sent = logged(thrown, 4);
            for (int piece = 0; piece < pieces; piece++) {
                if ((sent & (1 << piece)) != 0) {
                    place(piece, logged(thrown, 3));
                }
            }
            return thrown;
        }

        int timesThrown(int face) {
            int times = 0;
            for (int i = 0; i < thrown; i++) {
                if (logged(i, 1) == face) {
                    times++;
                }
            }
            return times;
        }

        void putNote(int square) {
            if (noted >= 0 && noted < noteRow.length) {
                noteRow[noted] = square;
                noted++;
            }
        }

        int noteOf(int i) {
            return i >= 0 && i < noteRow.length ? noteRow[i] : NONE;
        }
    }

    /** How few throws lead where, and the row of FACES that is kept. */
    private static final class Ways {
        // NONE: no row is kept
        int keptLength = NONE;
        final int[] keptFaces = new int[MOST_SQUARES];
        private final int[] fewestThrows = new int[MOST_SQUARES];
        private final int[] queue = new int[MOST_SQUARES + 1];
        private int queued;

        int throwsOf(int square) {
            return square >= 0 && square < fewestThrows.length ? fewestThrows[square] : NONE;
        }

        private void reach(int square, int many) {
            if (throwsOf(square) == NONE && square >= 0 && square < fewestThrows.length) {
                fewestThrows[square] = many;
                enqueue(square);
            }
        }

        private void enqueue(int square) {
            if (queued >= 0 && queued < queue.length) {
                queue[queued] = square;
                queued++;
            }
        }

        /** For each SQUARE the fewest throws to be on it behind at least one, or NONE. */
        void findFrom(Rules rules, Paths paths, int from) {
            Arrays.fill(fewestThrows, NONE);
            queued = 0;
            enqueue(from);
            for (int i = 0; i < queued && i < queue.length; i++) {
                int square = queue[i];
                int many = i == 0 ? 1 : throwsOf(square) + 1;
                for (int face = 1; face <= FACES; face++) {
                    if (rules.oddsOf(face) > 0) {
                        reach(paths.to(square, face), many);
                    }
                }
            }
        }

        /** For each SQUARE the fewest throws from it HOME, or NONE. */
        void findHome(Rules rules, Paths paths) {
            Arrays.fill(fewestThrows, NONE);
            queued = 0;
            reach(rules.last, 0);
            for (int i = 0; i < queued && i < queue.length; i++) {
                int home = queue[i];
                for (int square = 0; square < rules.last; square++) {
                    if (throwsOf(square) == NONE && faceTo(rules, paths, square, home) != 0) {
                        reach(square, throwsOf(home) + 1);
                    }
                }
            }
        }

        /** The least FACE with ODDS from one SQUARE to another, or 0. */
        private static int faceTo(Rules rules, Paths paths, int from, int to) {
            for (int face = 1; face <= FACES; face++) {
                if (rules.oddsOf(face) > 0 && paths.to(from, face) == to) {
                    return face;
                }
            }
            return 0;
        }

        /** Needs findHome() ahead of it. */
        int keepFewest(Rules rules, Paths paths, int from) {
            int many = throwsOf(from);
            if (many == NONE) {
                return NONE;
            }
            keptLength = many;
            int square = from;
            for (int i = 0; i < many && i < keptFaces.length; i++) {
                int face = faceNearer(rules, paths, square);
                keptFaces[i] = face;
                square = paths.to(square, face);
            }
            return many;
        }

        private int faceNearer(Rules rules, Paths paths, int square) {
            for (int face = 1; face <= FACES; face++) {
                if (rules.oddsOf(face) > 0 && throwsOf(paths.to(square, face)) == throwsOf(square) - 1) {
                    return face;
                }
            }
            return FACES;
        }
    }

    /** GRAINS that are shared out throw by throw. */
    private static final class Sand {
        private int home;
        private long[] lying = new long[MOST_SQUARES];
        private long[] shared = new long[MOST_SQUARES];

        void pour(Rules rules, int square) {
            home = rules.last;
            Arrays.fill(lying, 0);
            add(lying, square, ALL_GRAINS);
        }

        private static void add(long[] row, int square, long many) {
            if (square >= 0 && square < row.length) {
                row[square] += many;
            }
        }

        long on(int square) {
            return square >= 0 && square < lying.length ? lying[square] : 0;
        }

        long out() {
            return ALL_GRAINS - on(home);
        }

        void share(Rules rules, Paths paths) {
            Arrays.fill(shared, 0);
            for (int square = 0; square < home && square < lying.length; square++) {
                if (lying[square] != 0) {
                    shareOut(rules, paths, square, lying[square]);
                }
            }
            add(shared, home, on(home));
            long[] old = lying;
            lying = shared;
            shared = old;
        }

        /** The dearest part of the class by far: it reads its rows without the small functions about them. */
        private void shareOut(Rules rules, Paths paths, int square, long here) {
            int[] odds = rules.odds;
            int[] leads = paths.leads;
            int row = square * Paths.STEPS;
            int all = rules.allOdds;
            int least = rules.leastFace;
            if (all <= 0 || least <= 0 || row < 0 || row + FACES >= leads.length) {
                return;
            }
            long left = here;
            for (int face = least + 1; face <= FACES && face < odds.length; face++) {
                int to = leads[row + face];
                if (odds[face] != 0 && to >= 0 && to < shared.length) {
                    long part = here * odds[face] / all;
                    left -= part;
                    shared[to] += part;
                }
            }
            add(shared, paths.to(square, least), left);
        }

        /** LONG by n throws from a SQUARE. */
        long sumOut(Rules rules, Paths paths, int square, int n) {
            pour(rules, square);
            long sum = 0;
            for (int i = 0; i < n && out() > 0; i++) {
                if (i > 0) {
                    share(rules, paths);
                }
                sum += out();
            }
            return sum;
        }
    }

    /** What is AHEAD of one, and TOGETHER of two, with so many throws to come. */
    private static final class Hopes {
        private static final int MOST_PAIRS = (SPENT_LAST + 1) * (SPENT_LAST + 2) / 2;

        private long[] now = new long[MOST_PAIRS];
        private long[] next = new long[MOST_PAIRS];

        long at(int i) {
            return i >= 0 && i < now.length ? now[i] : 0;
        }

        /** It is the same whichever of the two is called the first. */
        private static int pair(int one, int two) {
            int farther = Math.max(one, two);
            return farther * (farther + 1) / 2 + Math.min(one, two);
        }

        long atBoth(int one, int two) {
            return at(pair(one, two));
        }

        private void putNext(int i, long value) {
            if (i >= 0 && i < next.length) {
                next[i] = value;
            }
        }

        private void swap() {
            long[] old = now;
            now = next;
            next = old;
        }

        void lookAhead(Rules rules, Paths paths, int n) {
            long all = (long) rules.allOdds * rules.allOdds;
            Arrays.fill(now, 0);
            if (all <= 0) {
                return;
            }
            for (int i = 0; i < n; i++) {
                for (int square = 0; square < rules.last; square++) {
                    putNext(square, ALL_GRAINS + sumOfTwo(rules, paths, square) / all);
                }
                putNext(rules.last, 0);
                swap();
            }
        }

        private long sumOfTwo(Rules rules, Paths paths, int square) {
            long sum = 0;
            for (int one = 1; one <= FACES; one++) {
                long odds = rules.oddsOf(one);
                if (odds == 0) {
                    continue;
                }
                long byOne = at(paths.to(square, one));
                sum += odds * odds * byOne;
                for (int two = one + 1; two <= FACES; two++) {
                    long byTwo = at(paths.to(square, two));
                    sum += 2 * odds * rules.oddsOf(two) * Math.min(byOne, byTwo);
                }
            }
            return sum;
        }

        /** Only for a board that isn't SPENT: its pairs of SQUARES fit in the rows. */
        void lookTogether(Rules rules, Paths paths, int n) {
            int all = rules.allOdds;
            int home = rules.last;
            Arrays.fill(now, 0);
            if (all <= 0) {
                return;
            }
            for (int i = 0; i < n; i++) {
                for (int one = 0; one <= home; one++) {
                    for (int two = one; two <= home; two++) {
                        boolean over = one == home && two == home;
                        putNext(pair(one, two), over ? 0 : ALL_GRAINS + sumOfBoth(rules, paths, one, two) / all);
                    }
                }
                swap();
            }
        }

        /** Of two that aren't both HOME; if one is, it is the second. */
        private long sumOfBoth(Rules rules, Paths paths, int one, int two) {
            long sum = 0;
            for (int face = 1; face <= FACES; face++) {
                int odds = rules.oddsOf(face);
                if (odds == 0) {
                    continue;
                }
                long byOne = atBoth(paths.to(one, face), two);
                long byTwo = atBoth(one, paths.to(two, face));
                sum += odds * (two == rules.last ? byOne : Math.min(byOne, byTwo));
            }
            return sum;
        }
    }

    /** What NOTED squares tell of the FACES between them. */
    private static final class Notes {
        private static final long MOST_FITS = 1000000000000000000L;
        private static final int WORDS = MOST_SQUARES / 64 + 1;

        // by the SQUARE ahead, in how many ways what is NOTED from a place on could have been thrown
        private long[] now = new long[MOST_SQUARES];
        private long[] earlier = new long[MOST_SQUARES];
        // for each place a bit of each SQUARE ahead: whether there is such a way
        private final long[] open = new long[(MOST_NOTED + 1) * WORDS];

        /** Nothing is asked of a gap, nor of what has one ahead. */
        private static boolean isAsked(State state, int i) {
            return state.noteOf(i) != NONE && (i == 0 || state.noteOf(i - 1) != NONE);
        }

        private static boolean canCome(State state, Rules rules, Paths paths, int i, int lessened) {
            int from = i == 0 ? 0 : state.noteOf(i - 1);
            for (int face = 1; face <= FACES; face++) {
                if (rules.oddsOf(face) > 0 && paths.to(from, face - lessened) == state.noteOf(i)) {
                    return true;
                }
            }
            return false;
        }

        int firstThatCannotBe(State state, Rules rules, Paths paths) {
            for (int i = 0; i < state.noted; i++) {
                if (isAsked(state, i) && !canCome(state, rules, paths, i, 0)) {
                    return i;
                }
            }
            return NONE;
        }

        int countOneLess(State state, Rules rules, Paths paths) {
            int many = 0;
            for (int i = 0; i < state.noted; i++) {
                if (isAsked(state, i) && !canCome(state, rules, paths, i, 0)
                        && canCome(state, rules, paths, i, 1)) {
                    many++;
                }
            }
            return many;
        }

        private boolean isOpen(int i, int square) {
            int word = i * WORDS + square / 64;
            return square >= 0 && word >= 0 && word < open.length && (open[word] & (1L << (square % 64))) != 0;
        }

        private void setOpen(int i, int square) {
            int word = i * WORDS + square / 64;
            if (square >= 0 && word >= 0 && word < open.length) {
                open[word] |= 1L << (square % 64);
            }
        }

        long countFits(State state, Rules rules, Paths paths) {
            Arrays.fill(open, 0);
            for (int square = 0; square <= rules.last; square++) {
                putEarlier(state.noted, square, 1);
            }
            swap();
            for (int i = state.noted - 1; i >= 0; i--) {
                for (int square = 0; square <= rules.last; square++) {
                    putEarlier(i, square, sumOfFaces(state, rules, paths, i, square));
                }
                swap();
            }
            return ways(0);
        }

        private void putEarlier(int i, int square, long many) {
            if (square >= 0 && square < earlier.length) {
                earlier[square] = many;
            }
            if (many > 0) {
                setOpen(i, square);
            }
        }

        private void swap() {
            long[] old = now;
            now = earlier;
            earlier = old;
        }

        private long ways(int square) {
            return square >= 0 && square < now.length ? now[square] : 0;
        }

        private long sumOfFaces(State state, Rules rules, Paths paths, int i, int square) {
            long sum = 0;
            for (int face = 1; face <= FACES; face++) {
                int to = paths.to(square, face);
                if (rules.oddsOf(face) > 0 && isAsNoted(state, i, to)) {
                    sum += ways(to);
                }
            }
            return Math.min(sum, MOST_FITS);
        }

        private static boolean isAsNoted(State state, int i, int square) {
            int noted = state.noteOf(i);
            return noted == NONE || noted == square;
        }

        /** Needs countFits() ahead of it; answers how many FACES were put. */
        int putFirstFit(State state, Rules rules, Paths paths, int[] faces) {
            int square = 0;
            for (int i = 0; i < state.noted && i < faces.length; i++) {
                for (int face = 1; face <= FACES; face++) {
                    int to = paths.to(square, face);
                    if (rules.oddsOf(face) > 0 && isAsNoted(state, i, to) && isOpen(i + 1, to)) {
                        faces[i] = face;
                        square = to;
                        break;
                    }
                }
            }
            return state.noted;
        }
    }

    /** The board as a TEXT, of which one byte is wanted: it is short enough to be written anew for each. */
    private static final class Writer {
        int length = 0;
        char wanted = 0;
        private int wantedPlace = NONE;

        private void put(char sign) {
            if (length == wantedPlace) {
                wanted = sign;
            }
            length++;
        }

        private void putText(String text) {
            for (int i = 0; i < text.length(); i++) {
                put(text.charAt(i));
            }
        }

        private void putNumber(int number) {
            put(' ');
            if (number >= 100) {
                put((char) ('0' + number / 100 % 10));
            }
            if (number >= 10) {
                put((char) ('0' + number / 10 % 10));
            }
            put((char) ('0' + number % 10));
        }

        private void putLine(String word, int number) {
            putText(word);
            putNumber(number);
            put(';');
        }

        void write(Rules rules, int place) {
            length = 0;
            wantedPlace = place;
            putLine("last", rules.last);
            putText("die");
            for (int face = 1; face <= FACES; face++) {
                putNumber(rules.oddsOf(face));
            }
            put(';');
            for (int exit = 0; exit < rules.exits; exit++) {
                putText("exit");
                putNumber(rules.footOf(exit));
                putLine("", rules.headOf(exit));
            }
            putText(endLine(rules.end));
            if (rules.again != 0) {
                putLine("again", rules.again);
            }
            if (rules.meet) {
                putText("meet;");
            }
            putLine("pieces", rules.pieces);
            if (rules.formula.told) {
                putGoes(rules.formula);
            }
        }

        private static String endLine(int end) {
            if (end == STAY) {
                return "end stay;";
            }
            return end == BACK ? "end back;" : "end in;";
        }

        private void putGoes(Formula formula) {
            putText("goes ");
            for (int i = 0; i < formula.textLength && i < formula.text.length; i++) {
                put(formula.text[i]);
            }
            put(';');
        }
    }
}
