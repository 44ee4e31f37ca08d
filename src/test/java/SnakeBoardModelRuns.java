import java.math.BigInteger;
import java.util.ArrayList;
import java.util.Arrays;
import java.util.HashMap;
import java.util.HashSet;
import java.util.LinkedHashSet;
import java.util.List;
import java.util.Map;
import java.util.NoSuchElementException;
import java.util.Random;
import java.util.Set;
import java.util.TreeMap;
import java.util.concurrent.Callable;

/**
 * Random runs of calls on a SnakeBoard and on a slow model of the document beside it, which reads texts by a table of
 * the grammar's rules and weighs everything anew in each call. Every answer must be the same.
 */
public final class SnakeBoardModelRuns {
    private static final int RUNS = 260;
    // an object is used for at most 512 calls: a step takes at most forty, and what is read byte by byte is counted
    private static final int MOST_CALLS = 512;
    private static final int CALLS = 460;

    public static void main(String[] args) {
        int wrong = 0;
        long calls = 0;
        int runs = args.length > 0 ? Integer.parseInt(args[0]) : RUNS;
        int from = args.length > 1 ? Integer.parseInt(args[1]) : 0;
        for (int seed = from; seed < from + runs && wrong < 5; seed++) {
            Run run = new Run(seed);
            if (!run.agrees()) {
                wrong++;
            }
            calls += run.done;
        }
        System.out.println("model runs: " + calls + " calls, " + wrong + " runs differ");
        if (wrong != 0) {
            System.exit(1);
        }
    }

    /** One run: the same calls on both. */
    private static final class Run {
        final int seed;
        final Random random;
        final SnakeBoard real = new SnakeBoard();
        final Model model = new Model();
        final List<String> told = new ArrayList<>();
        final Texts texts;
        int done = 0;

        Run(int seed) {
            this.seed = seed;
            random = new Random(seed * 7919L + 13);
            texts = new Texts(random);
        }

        boolean agrees() {
            while (done < CALLS) {
                if (!step()) {
                    System.out.println("seed " + seed + ": the calls behind which it differs:");
                    for (int i = Math.max(0, told.size() - 30); i < told.size(); i++) {
                        System.out.println("  " + told.get(i));
                    }
                    return false;
                }
            }
            return true;
        }

        boolean same(String call, Callable<Object> ofReal, Callable<Object> ofModel) {
            done++;
            String one = answer(ofReal);
            String two = answer(ofModel);
            told.add(call + " -> " + one + (one.equals(two) ? "" : ", the model says " + two));
            return one.equals(two);
        }

        static String answer(Callable<Object> call) {
            try {
                return String.valueOf(call.call());
            } catch (NoSuchElementException | IllegalArgumentException e) {
                return e.getClass().getSimpleName();
            } catch (Exception e) {
                return "MACHINE " + e;
            }
        }

        int pick(int bound) {
            return random.nextInt(bound);
        }

        int square() {
            int kind = pick(20);
            if (kind == 0) {
                return pick(2) == 0 ? -1 - pick(3) : model.board.last + 1 + pick(3);
            }
            if (kind < 4) {
                return 0;
            }
            if (kind < 6) {
                return model.board.last - pick(4);
            }
            return pick(model.board.last + 1);
        }

        int face() {
            return pick(25) == 0 ? (pick(2) == 0 ? 0 : 7) : 1 + pick(6);
        }

        int toCome(int often) {
            int kind = pick(20);
            if (kind == 0) {
                return new int[] {-1, 0, 100, 101, 400, 401, Integer.MIN_VALUE, Integer.MAX_VALUE}[pick(8)];
            }
            return kind == 1 ? pick(405) : pick(often);
        }

        int what(int most) {
            return pick(25) == 0 ? (pick(2) == 0 ? -1 : most + 1) : pick(most + 1);
        }

        int someExit() {
            int many = model.board.exits.size();
            return pick(15) == 0 || many == 0 ? pick(27) - 1 : pick(many);
        }

        boolean feedText(String text) {
            byte[] bytes = new byte[(text.length() + 19) / 20 * 20];
            for (int i = 0; i < bytes.length; i++) {
                bytes[i] = i < text.length() ? (byte) text.charAt(i) : (byte) pick(256);
            }
            for (int at = 0; at < bytes.length; at += 20) {
                int[] five = new int[5];
                for (int i = 0; i < 5; i++) {
                    for (int k = 0; k < 4; k++) {
                        five[i] = five[i] << 8 | bytes[at + 4 * i + k] & 255;
                    }
                }
                if (!same("feed(..)", () -> real.feed(five[0], five[1], five[2], five[3], five[4]),
                        () -> model.feed(five))) {
                    return false;
                }
            }
            return true;
        }

        boolean newBoard() {
            if (pick(5) == 0) {
                int s = random.nextInt();
                int last = pick(12) == 0 ? pick(120) : 10 + pick(40);
                int exits = pick(12) == 0 ? pick(30) - 2 : pick(25);
                return same("draw(" + s + ", " + last + ", " + exits + ")", () -> real.draw(s, last, exits),
                        () -> model.draw(s, last, exits));
            }
            if (model.tape.length() > 0 && !same("board(0)", () -> real.board(0), () -> model.board(0))) {
                return false;
            }
            String text = texts.some();
            if (!feedText(text)) {
                return false;
            }
            int n = pick(15) == 0 ? pick(520) - 5 : text.length();
            return same("board(" + n + ") of " + text.replace("\n", "\\n"), () -> real.board(n), () -> model.board(n))
                    && same("fault()", () -> real.fault(), () -> model.faultPlace);
        }

        boolean allWritten() {
            String written = model.written();
            if (done + written.length() + 2 > MOST_CALLS) {
                return true;
            }
            if (!same("written(-1)", () -> real.written(-1), () -> written.length())) {
                return false;
            }
            StringBuilder got = new StringBuilder();
            for (int i = 0; i < written.length(); i++) {
                got.append((char) real.written(i));
            }
            done += written.length() - 1;
            return same("written(..)", () -> got.toString(), () -> written)
                    && same("written(length)", () -> real.written(written.length()), () -> {
                        throw new NoSuchElementException();
                    });
        }

        boolean step() {
            switch (pick(44)) {
                case 0: return pick(4) != 0 || newBoard();
                case 1: return stepOfThrows();
                case 2: return stepOfThrows();
                case 3: return stepOfThrows();
                case 4: return stepOfThrows();
                case 5: return stepOfLooks();
                case 6: return stepOfLooks();
                case 7: return stepOfLooks();
                case 8: return stepOfWays();
                case 9: return stepOfWays();
                case 10: return stepOfGrains();
                case 11: return stepOfGrains();
                case 12: return stepOfNotes();
                case 13: return stepOfNotes();
                case 14: return stepOfNotes();
                case 15: return pick(3) != 0 || stepOfHopes();
                case 16: return pick(6) != 0 || stepOfExits();
                case 17: return pick(8) != 0 || allWritten();
                case 18:
                    if (pick(6) == 0) {
                        return same("image()", () -> {
                            real.image();
                            return "";
                        }, () -> {
                            model.image();
                            return "";
                        });
                    }
                    return pick(4) != 0 || same("restore()", () -> real.restore(), () -> model.restore());
                default: return pick(3) == 0 ? stepOfLooks() : true;
            }
        }

        boolean stepOfThrows() {
            switch (pick(8)) {
                case 0: {
                    int s = random.nextInt();
                    int many = pick(20) == 0 ? pick(230) - 10 : pick(12);
                    return same("rolls(" + s + ", " + many + ")", () -> real.rolls(s, many), () -> model.rolls(s, many));
                }
                case 1: return same("undo()", () -> real.undo(), () -> model.undo());
                default: {
                    int f = face();
                    return same("roll(" + f + ")", () -> real.roll(f), () -> model.roll(f));
                }
            }
        }

        boolean stepOfLooks() {
            switch (pick(10)) {
                case 0: {
                    int w = what(27);
                    return same("count(" + w + ")", () -> real.count(w), () -> model.count(w));
                }
                case 1: {
                    int e = someExit();
                    int w = what(1);
                    return same("exit(" + e + ", " + w + ")", () -> real.exit(e, w), () -> model.exit(e, w));
                }
                case 2: {
                    int s = square();
                    int f = face();
                    return same("goes(" + s + ", " + f + ")", () -> real.goes(s, f), () -> model.goes(s, f));
                }
                case 3: {
                    int p = pick(6) - 1;
                    return same("piece(" + p + ")", () -> real.piece(p), () -> model.piece(p));
                }
                case 4: {
                    int i = pick(8) == 0 ? pick(203) - 1 : model.log.size() - 1 - pick(4);
                    int w = what(4);
                    return same("rolled(" + i + ", " + w + ")", () -> real.rolled(i, w), () -> model.rolled(i, w));
                }
                case 5: {
                    int f = face();
                    return same("often(" + f + ")", () -> real.often(f), () -> model.often(f));
                }
                case 6: {
                    int w = what(1);
                    return same("unlike(" + w + ")", () -> real.unlike(w), () -> model.unlike(w));
                }
                case 7: return same("worn()", () -> real.worn(), () -> model.worn());
                case 8: return same("fault()", () -> real.fault(), () -> model.faultPlace);
                default: {
                    int i = pick(model.row == null ? 3 : model.row.size() + 2) - 1;
                    return same("row(" + i + ")", () -> real.row(i), () -> model.rowAt(i));
                }
            }
        }

        boolean stepOfWays() {
            int s = square();
            switch (pick(4)) {
                case 0: return same("fewest(" + s + ")", () -> real.fewest(s), () -> model.fewest(s))
                        && (model.row == null || wholeRow());
                case 1: return same("never(" + s + ")", () -> real.never(s), () -> model.never(s));
                case 2: return same("lost(" + s + ")", () -> real.lost(s), () -> model.lost(s));
                default: return same("round(" + s + ")", () -> real.round(s), () -> model.round(s));
            }
        }

        boolean wholeRow() {
            for (int i = 0; i < model.row.size() && done < MOST_CALLS; i++) {
                int at = i;
                if (!same("row(" + i + ")", () -> real.row(at), () -> model.rowAt(at))) {
                    return false;
                }
            }
            return true;
        }

        boolean stepOfGrains() {
            int s = square();
            int t = square();
            int n = toCome(60);
            switch (pick(4)) {
                case 0: {
                    int w = what(2);
                    return same("grains(" + s + ", " + n + ", " + w + ")", () -> real.grains(s, n, w),
                            () -> model.grains(s, n, w));
                }
                case 1: return same("stood(" + s + ", " + t + ", " + n + ")", () -> real.stood(s, t, n),
                        () -> model.stood(s, t, n));
                case 2: return same("half(" + s + ")", () -> real.half(s), () -> model.half(s));
                default: {
                    int w = what(2);
                    return same("first(" + s + ", " + t + ", " + n + ", " + w + ")", () -> real.first(s, t, n, w),
                            () -> model.first(s, t, n, w));
                }
            }
        }

        boolean stepOfExits() {
            int n = toCome(40);
            switch (pick(5)) {
                case 0:
                case 1: {
                    int e = someExit();
                    return same("matters(" + e + ", " + n + ")", () -> real.matters(e, n), () -> model.matters(e, n));
                }
                case 2: return same("most(" + n + ")", () -> real.most(n), () -> model.most(n));
                case 3: {
                    int e = what(2);
                    return same("ended(" + e + ", " + n + ")", () -> real.ended(e, n), () -> model.ended(e, n));
                }
                default: {
                    int few = pick(10) == 0 ? n : pick(12);
                    long wish = pick(15) == 0 ? pick(3) - 2 : (long) (random.nextDouble() * few * 1.1e9);
                    if (model.board.last > 20 && model.board.last <= 40 && few > 6 && few <= 60) {
                        return true;
                    }
                    return same("wanted(" + wish + ", " + few + ")", () -> real.wanted(wish, few),
                            () -> model.wanted(wish, few));
                }
            }
        }

        boolean stepOfHopes() {
            int s = square();
            int t = square();
            int f = face();
            int g = face();
            int n = toCome(25);
            switch (pick(4)) {
                case 0: return same("ahead(" + s + ", " + n + ")", () -> real.ahead(s, n), () -> model.ahead(s, n));
                case 1: return same("choose(" + s + ", " + f + ", " + g + ", " + n + ")",
                        () -> real.choose(s, f, g, n), () -> model.choose(s, f, g, n));
                case 2: return same("together(" + s + ", " + t + ", " + n + ")", () -> real.together(s, t, n),
                        () -> model.together(s, t, n));
                default: return same("whom(" + s + ", " + t + ", " + f + ", " + n + ")",
                        () -> real.whom(s, t, f, n), () -> model.whom(s, t, f, n));
            }
        }

        boolean stepOfNotes() {
            switch (pick(9)) {
                case 0: return same("forget()", () -> real.forget(), () -> model.forget());
                case 1: return same("cannot()", () -> real.cannot(), () -> model.cannot());
                case 2: return same("less()", () -> real.less(), () -> model.less());
                case 3: return same("fits()", () -> real.fits(), () -> model.fits())
                        && (model.row == null || wholeRow());
                default: {
                    int s = square();
                    int kind = pick(10);
                    if (kind == 0) {
                        s = -1;
                    } else if (kind < 8) {
                        int many = model.notes.size();
                        int ahead = many == 0 ? 0 : Math.max(0, model.notes.get(many - 1));
                        s = model.board.go(ahead, Math.max(1, 1 + pick(6) - (kind == 1 ? 1 : 0)));
                    }
                    int square = s;
                    return same("note(" + s + ")", () -> real.note(square), () -> model.note(square));
                }
            }
        }
    }

    /** Texts of boards, most of them right, some bent. */
    private static final class Texts {
        private static final String[] ODD_TOKENS = {"last", "die", "exit", "end", "again", "meet", "pieces", "goes", "or",
            "and", "not", "throw", "at", "exits", "stay", "back", "in", "x", "0", "1", "6", "7", "10", "100", "101", "9999",
            "00001", "12345", ";", "(", ")", "+", "-", "*", "/", "<", "=", "#", "A", "{", "`"};
        final Random random;

        Texts(Random random) {
            this.random = random;
        }

        int pick(int bound) {
            return random.nextInt(bound);
        }

        String some() {
            int last = pick(5) == 0 ? 36 : (pick(6) == 0 ? 10 + pick(91) : 10 + pick(16));
            List<String> tokens = new ArrayList<>();
            if (last != 36 || pick(2) == 0) {
                add(tokens, "last", last + "", ";");
            }
            List<List<String>> lines = lines(last);
            for (List<String> line : lines) {
                tokens.addAll(line);
            }
            int bends = pick(3) == 0 ? 1 + pick(2) : 0;
            for (int i = 0; i < bends && !tokens.isEmpty(); i++) {
                bend(tokens);
            }
            String text = joined(tokens);
            if (bends > 0 && pick(4) == 0) {
                text = text.substring(0, pick(text.length() + 1));
            }
            return text.length() > 500 ? text.substring(0, 500) : text;
        }

        static void add(List<String> tokens, String... more) {
            tokens.addAll(Arrays.asList(more));
        }

        List<List<String>> lines(int last) {
            List<List<String>> lines = new ArrayList<>();
            Set<Integer> feet = new HashSet<>();
            int exits = pick(8) == 0 ? 20 + pick(7) : pick(8);
            for (int i = 0; i < exits; i++) {
                int foot = 1 + pick(last - 1);
                int head = 1 + pick(last);
                if (pick(60) == 0 || head != foot && feet.add(foot)) {
                    lines.add(Arrays.asList("exit", "" + foot, "" + head, ";"));
                }
            }
            if (pick(2) == 0) {
                List<String> die = new ArrayList<>();
                add(die, "die");
                boolean sparse = pick(2) == 0;
                for (int face = 1; face <= 6; face++) {
                    add(die, "" + (sparse && pick(2) == 0 ? 0 : pick(10)));
                }
                add(die, ";");
                insert(lines, die);
            }
            if (pick(2) == 0) {
                insert(lines, Arrays.asList("end", new String[] {"stay", "back", "in"}[pick(3)], ";"));
            }
            if (pick(2) == 0) {
                insert(lines, Arrays.asList("again", "" + (1 + pick(6)), ";"));
            }
            if (pick(2) == 0) {
                insert(lines, Arrays.asList("meet", ";"));
            }
            if (pick(2) == 0) {
                insert(lines, Arrays.asList("pieces", "" + (1 + pick(4)), ";"));
            }
            if (pick(2) == 0) {
                List<String> goes = new ArrayList<>();
                add(goes, "goes");
                if (pick(3) == 0) {
                    add(goes, "throw", "+");
                }
                expr(goes, pick(8), 0);
                add(goes, ";");
                insert(lines, goes);
            }
            return lines;
        }

        void insert(List<List<String>> lines, List<String> line) {
            lines.add(pick(lines.size() + 1), line);
        }

        void expr(List<String> to, int size, int depth) {
            int kind = size <= 0 ? 0 : pick(12);
            if (kind < 2) {
                part(to, depth, size);
            } else if (kind < 6) {
                part(to, depth, size / 2);
                add(to, new String[] {"+", "-", "*", "/"}[pick(4)]);
                part(to, depth, size / 2);
            } else if (kind < 8) {
                part(to, depth, size / 2);
                add(to, pick(2) == 0 ? "<" : "=");
                part(to, depth, size / 2);
            } else if (kind == 8) {
                int many = pick(15) == 0 ? 5 + pick(3) : 1 + pick(2);
                for (int i = 0; i < many; i++) {
                    add(to, "not");
                }
                part(to, depth, size - 1);
            } else {
                expr(to, size / 2, depth);
                add(to, kind == 9 ? "or" : "and");
                expr(to, size / 2, depth);
            }
        }

        void part(List<String> to, int depth, int size) {
            int kind = pick(8);
            if (size > 0 && kind < 4) {
                int many = pick(25) == 0 ? 3 + pick(4) : 1;
                for (int i = 0; i < many; i++) {
                    add(to, "(");
                }
                expr(to, size - 1, depth + many);
                for (int i = 0; i < many; i++) {
                    add(to, ")");
                }
            } else if (kind < 5) {
                int number = pick(6) == 0 ? pick(10000) : pick(12);
                add(to, (pick(20) == 0 ? "0" : "") + (number < 1000 ? "" + number : "" + number % 10000));
            } else {
                add(to, new String[] {"throw", "throw", "at", "last", "exits"}[pick(5)]);
            }
        }

        void bend(List<String> tokens) {
            int at = pick(tokens.size());
            switch (pick(4)) {
                case 0:
                    tokens.remove(at);
                    break;
                case 1:
                    tokens.add(at, ODD_TOKENS[pick(ODD_TOKENS.length)]);
                    break;
                case 2:
                    tokens.add(at, tokens.get(pick(tokens.size())));
                    break;
                default:
                    tokens.set(at, ODD_TOKENS[pick(ODD_TOKENS.length)]);
            }
        }

        String joined(List<String> tokens) {
            StringBuilder text = new StringBuilder();
            int loose = pick(3);
            String before = ";";
            for (String token : tokens) {
                boolean bothWords = isWord(before) && isWord(token);
                boolean bothNumbers = isNumber(before) && isNumber(token);
                if (bothWords || bothNumbers || loose == 1 || loose == 2 && pick(4) == 0) {
                    text.append(pick(6) == 0 ? "\n" : " ");
                }
                text.append(token);
                before = token;
            }
            return text.toString();
        }
    }

    static boolean isWord(String token) {
        return token.matches("[a-z]+");
    }

    static boolean isNumber(String token) {
        return token.matches("[0-9]+");
    }

    /** The grammar as a table of rules, and all ways to read a text by it, token by token. */
    private static final class Grammar {
        private static final String[][] RULES = {
            {"BOARD", "LINES"}, {"BOARD", "last", "#", ";", "LINES"}, {"LINES"}, {"LINES", "LINES", "LINE"},
            {"LINE", "die", "#", "#", "#", "#", "#", "#", ";"}, {"LINE", "exit", "#", "#", ";"},
            {"LINE", "end", "stay", ";"}, {"LINE", "end", "back", ";"}, {"LINE", "end", "in", ";"},
            {"LINE", "again", "#", ";"}, {"LINE", "meet", ";"}, {"LINE", "pieces", "#", ";"}, {"LINE", "goes", "EXPR", ";"},
            {"EXPR", "AND"}, {"EXPR", "EXPR", "or", "AND"}, {"AND", "NOT"}, {"AND", "AND", "and", "NOT"},
            {"NOT", "not", "NOT"}, {"NOT", "SUM"}, {"NOT", "SUM", "<", "SUM"}, {"NOT", "SUM", "=", "SUM"},
            {"SUM", "PRODUCT"}, {"SUM", "SUM", "+", "PRODUCT"}, {"SUM", "SUM", "-", "PRODUCT"},
            {"PRODUCT", "PART"}, {"PRODUCT", "PRODUCT", "*", "PART"}, {"PRODUCT", "PRODUCT", "/", "PART"},
            {"PART", "#"}, {"PART", "throw"}, {"PART", "at"}, {"PART", "last"}, {"PART", "exits"}, {"PART", "(", "EXPR", ")"}};

        // an item: a rule, how much of it is read, where it began
        final List<Set<List<Integer>>> sets = new ArrayList<>();

        Grammar() {
            Set<List<Integer>> first = new LinkedHashSet<>();
            first.add(List.of(0, 1, 0));
            first.add(List.of(1, 1, 0));
            sets.add(first);
            close();
        }

        private static String next(List<Integer> item) {
            String[] rule = RULES[item.get(0)];
            return item.get(1) < rule.length ? rule[item.get(1)] : null;
        }

        private void close() {
            int at = sets.size() - 1;
            Set<List<Integer>> set = sets.get(at);
            boolean grows = true;
            while (grows) {
                Set<List<Integer>> more = new LinkedHashSet<>();
                for (List<Integer> item : set) {
                    String next = next(item);
                    if (next == null) {
                        String whole = RULES[item.get(0)][0];
                        for (List<Integer> waiting : sets.get(item.get(2))) {
                            if (whole.equals(next(waiting))) {
                                more.add(List.of(waiting.get(0), waiting.get(1) + 1, waiting.get(2)));
                            }
                        }
                    } else {
                        for (int r = 0; r < RULES.length; r++) {
                            if (RULES[r][0].equals(next)) {
                                more.add(List.of(r, 1, at));
                            }
                        }
                    }
                }
                grows = set.addAll(more);
            }
        }

        private boolean awaits(String symbol) {
            for (List<Integer> item : sets.get(sets.size() - 1)) {
                if (symbol.equals(next(item))) {
                    return true;
                }
            }
            return false;
        }

        boolean takes(String token) {
            return awaits(isNumber(token) ? "#" : token);
        }

        /** Not the 'throw' of a rule that begins with it: only PART does. */
        boolean awaitsPart() {
            return awaits("throw");
        }

        void read(String token) {
            String symbol = isNumber(token) ? "#" : token;
            Set<List<Integer>> after = new LinkedHashSet<>();
            for (List<Integer> item : sets.get(sets.size() - 1)) {
                if (symbol.equals(next(item))) {
                    after.add(List.of(item.get(0), item.get(1) + 1, item.get(2)));
                }
            }
            sets.add(after);
            close();
        }

        boolean isWhole() {
            for (List<Integer> item : sets.get(sets.size() - 1)) {
                if (item.get(0) < 2 && next(item) == null) {
                    return true;
                }
            }
            return false;
        }
    }

    private static final class Board {
        int last = 36;
        int[] odds = {0, 1, 1, 1, 1, 1, 1};
        List<int[]> exits = new ArrayList<>();
        int end = 0;
        int again = 0;
        boolean meet = false;
        int pieces = 2;
        List<String> goes = null;
        private final Map<Integer, Integer> known = new HashMap<>();

        Board copy() {
            Board other = new Board();
            other.last = last;
            other.odds = odds.clone();
            other.exits = new ArrayList<>(exits);
            other.end = end;
            other.again = again;
            other.meet = meet;
            other.pieces = pieces;
            other.goes = goes;
            return other;
        }

        int all() {
            return Arrays.stream(odds).sum();
        }

        List<Integer> faces() {
            List<Integer> faces = new ArrayList<>();
            for (int face = 1; face <= 6; face++) {
                if (odds[face] > 0) {
                    faces.add(face);
                }
            }
            return faces;
        }

        boolean hasFoot(int square) {
            return exits.stream().anyMatch(e -> e[0] == square);
        }

        int go(int square, int thrown) {
            return known.computeIfAbsent(square * 10 + thrown, k -> gone(square, thrown));
        }

        private int gone(int square, int thrown) {
            if (square == last) {
                return last;
            }
            int far = goes == null ? thrown : value(goes, square, thrown);
            far = far > 200 ? 200 : far < -200 ? -200 : far;
            int to = square + far;
            if (to > last) {
                if (end == 0) {
                    return square;
                }
                to = end == 2 ? last : last - (to - last);
            }
            to = to < 0 ? 0 : to;
            for (int[] exit : exits) {
                if (exit[0] == to) {
                    return exit[1];
                }
            }
            return to;
        }

        /** The place of the last of some tokens outside all parentheses, or -1. */
        private static int lastOf(List<String> tokens, String... some) {
            int depth = 0;
            int place = -1;
            for (int i = 0; i < tokens.size(); i++) {
                String token = tokens.get(i);
                depth += token.equals("(") ? 1 : token.equals(")") ? -1 : 0;
                if (depth == 0 && Arrays.asList(some).contains(token)) {
                    place = i;
                }
            }
            return place;
        }

        private int value(List<String> tokens, int at, int thrown) {
            String first = tokens.get(0);
            String[][] kinds = {{"or"}, {"and"}, {"not"}, {"<", "="}, {"+", "-"}, {"*", "/"}};
            for (String[] kind : kinds) {
                if (kind[0].equals("not")) {
                    if (first.equals("not")) {
                        return value(tokens.subList(1, tokens.size()), at, thrown) == 0 ? 1 : 0;
                    }
                    continue;
                }
                int i = lastOf(tokens, kind);
                if (i >= 0) {
                    int left = value(tokens.subList(0, i), at, thrown);
                    int right = value(tokens.subList(i + 1, tokens.size()), at, thrown);
                    return by(tokens.get(i), left, right);
                }
            }
            if (first.equals("(")) {
                return value(tokens.subList(1, tokens.size() - 1), at, thrown);
            }
            switch (first) {
                case "throw": return thrown;
                case "at": return at;
                case "last": return last;
                case "exits": return (int) exits.stream().filter(e -> e[0] > at).count();
                default: return Integer.parseInt(first);
            }
        }

        private static int by(String sign, int left, int right) {
            switch (sign) {
                case "or": return left != 0 || right != 0 ? 1 : 0;
                case "and": return left != 0 && right != 0 ? 1 : 0;
                case "<": return left < right ? 1 : 0;
                case "=": return left == right ? 1 : 0;
                case "+": return BigInteger.valueOf(left).add(BigInteger.valueOf(right)).intValue();
                case "-": return BigInteger.valueOf(left).subtract(BigInteger.valueOf(right)).intValue();
                case "*": return BigInteger.valueOf(left).multiply(BigInteger.valueOf(right)).intValue();
                default: return right == 0 ? 0 : BigInteger.valueOf(left).divide(BigInteger.valueOf(right)).intValue();
            }
        }

        /** The grains on each square behind 0, 1 .. n throws. */
        List<long[]> grains(int from, int n) {
            List<long[]> all = new ArrayList<>();
            long[] now = new long[last + 1];
            now[from] = 1000000000L;
            all.add(now);
            for (int k = 1; k <= n; k++) {
                long[] next = new long[last + 1];
                for (int s = 0; s <= last; s++) {
                    if (s == last) {
                        next[s] += now[s];
                        continue;
                    }
                    long given = 0;
                    for (int face : faces()) {
                        long share = now[s] * odds[face] / all();
                        next[go(s, face)] += share;
                        given += share;
                    }
                    next[go(s, faces().get(0))] += now[s] - given;
                }
                now = next;
                all.add(now);
            }
            return all;
        }

        /** OUT behind 0, 1 .. n throws. */
        long[] out(int from, int n) {
            List<long[]> grains = grains(from, n);
            long[] out = new long[n + 1];
            for (int k = 0; k <= n; k++) {
                for (int s = 0; s < last; s++) {
                    out[k] += grains.get(k)[s];
                }
            }
            return out;
        }

        long sumOut(int from, int n) {
            long[] out = out(from, n);
            long sum = 0;
            for (int k = 0; k < n; k++) {
                sum += out[k];
            }
            return sum;
        }
    }

    /** A GAME's state behind some throws. */
    private static final class Stand {
        int[] places;
        int turn;
    }

    private static final class Model {
        Board board = new Board();
        StringBuilder tape = new StringBuilder();
        int faultPlace = -1;
        List<Stand> stands = new ArrayList<>();
        List<int[]> log = new ArrayList<>();
        List<Integer> notes = new ArrayList<>();
        int[] status = new int[3];
        List<Integer> row = null;
        Object[] image = null;

        Model() {
            anew();
        }

        void anew() {
            stands.clear();
            log.clear();
            notes.clear();
            row = null;
            image = null;
            Stand stand = new Stand();
            stand.places = new int[board.pieces];
            stands.add(stand);
        }

        Stand stand() {
            return stands.get(stands.size() - 1);
        }

        static void none() {
            throw new NoSuchElementException();
        }

        static void bad() {
            throw new IllegalArgumentException();
        }

        void needSquare(int square) {
            if (square < 0 || square > board.last) {
                none();
            }
        }

        static void needIn(int value, int least, int most) {
            if (value < least || value > most) {
                none();
            }
        }

        static void needN(int n, int least, int most) {
            if (n < least || n > most) {
                bad();
            }
        }

        int feed(int[] five) {
            if (tape.length() + 20 > 500) {
                return -1;
            }
            for (int number : five) {
                for (byte b : java.nio.ByteBuffer.allocate(4).putInt(number).array()) {
                    tape.append((char) (b & 255));
                }
            }
            return tape.length();
        }

        int board(int n) {
            if (n < 0 || n > tape.length()) {
                bad();
            }
            String text = tape.substring(0, n);
            tape.setLength(0);
            Board read = new Board();
            int[] fault = faultOf(text, read);
            if (fault != null) {
                faultPlace = fault[1];
                status[0]++;
                return fault[0];
            }
            faultPlace = -1;
            board = read;
            anew();
            return 0;
        }

        /** What the first FAULT is and where; null without. What is read goes into the board. */
        private static int[] faultOf(String text, Board read) {
            Grammar grammar = new Grammar();
            List<String> line = new ArrayList<>();
            Set<String> told = new HashSet<>();
            int i = 0;
            while (i < text.length()) {
                char c = text.charAt(i);
                if (c == ' ' || c == '\n') {
                    i++;
                    continue;
                }
                java.util.regex.Matcher m = java.util.regex.Pattern.compile("[a-z]+|[0-9]+|[-;()+*/<=]")
                        .matcher(text).region(i, text.length());
                if (!m.lookingAt()) {
                    return new int[] {1, i};
                }
                String token = m.group();
                int fault = faultOf(grammar, line, token, told, read);
                if (fault != 0) {
                    return new int[] {fault, i};
                }
                grammar.read(token);
                line.add(token);
                if (token.equals(";")) {
                    take(line, read);
                    told.add(line.get(0));
                    line.clear();
                }
                i = m.end();
            }
            return grammar.isWhole() ? null : new int[] {1, text.length()};
        }

        private static int faultOf(Grammar grammar, List<String> line, String token, Set<String> told, Board read) {
            boolean inGoes = !line.isEmpty() && line.get(0).equals("goes");
            boolean fitsWell = grammar.takes(token);
            boolean strange = !fitsWell && isWord(token) && inGoes && grammar.awaitsPart();
            if (!fitsWell && !strange) {
                return 1;
            }
            if (isNumber(token) && token.length() > 4) {
                return 2;
            }
            if (inGoes) {
                long open = line.stream().filter(t -> t.equals("(")).count() - line.stream().filter(t -> t.equals(")")).count();
                if (open == 6 && line.get(line.size() - 1).equals("(")) {
                    return 2;
                }
                int many = line.size();
                if (token.equals("not") && !strange && many > 6
                        && line.subList(many - 6, many).stream().allMatch(t -> t.equals("not"))) {
                    return 2;
                }
                return strange ? 3 : 0;
            }
            if (line.isEmpty()) {
                if (token.equals("exit")) {
                    return read.exits.size() == 24 ? 2 : 0;
                }
                return told.contains(token) ? 5 : 0;
            }
            return isNumber(token) ? faultOfNumber(line, Integer.parseInt(token), read) : 0;
        }

        private static int faultOfNumber(List<String> line, int number, Board read) {
            switch (line.get(0)) {
                case "last": return number < 10 || number > 100 ? 2 : 0;
                case "die":
                    if (number > 9) {
                        return 2;
                    }
                    return line.size() == 6 && number == 0
                            && line.subList(1, 6).stream().allMatch(t -> Integer.parseInt(t) == 0) ? 2 : 0;
                case "exit":
                    if (line.size() == 1) {
                        return number < 1 || number >= read.last ? 2 : read.hasFoot(number) ? 4 : 0;
                    }
                    return number < 1 || number > read.last || number == Integer.parseInt(line.get(1)) ? 2 : 0;
                case "again": return number < 1 || number > 6 ? 2 : 0;
                default: return number < 1 || number > 4 ? 2 : 0;
            }
        }

        private static void take(List<String> line, Board read) {
            switch (line.get(0)) {
                case "last":
                    read.last = Integer.parseInt(line.get(1));
                    break;
                case "die":
                    for (int face = 1; face <= 6; face++) {
                        read.odds[face] = Integer.parseInt(line.get(face));
                    }
                    break;
                case "exit":
                    read.exits.add(new int[] {Integer.parseInt(line.get(1)), Integer.parseInt(line.get(2))});
                    break;
                case "end":
                    read.end = List.of("stay", "back", "in").indexOf(line.get(1));
                    break;
                case "again":
                    read.again = Integer.parseInt(line.get(1));
                    break;
                case "meet":
                    read.meet = true;
                    break;
                case "pieces":
                    read.pieces = Integer.parseInt(line.get(1));
                    break;
                default:
                    read.goes = new ArrayList<>(line.subList(1, line.size() - 1));
            }
        }

        int count(int what) {
            if (what >= 21 && what <= 26) {
                return board.odds[what - 20];
            }
            needIn(what, 0, 12);
            return new int[] {board.last, board.exits.size(), board.pieces, board.end, board.again, board.meet ? 1 : 0,
                log.size(), stand().turn, notes.size(), tape.length(), status[0], status[1], status[2]}[what];
        }

        int exit(int exit, int what) {
            needIn(exit, 0, board.exits.size() - 1);
            needIn(what, 0, 1);
            return board.exits.get(exit)[what];
        }

        int goes(int square, int face) {
            needSquare(square);
            needIn(face, 1, 6);
            return board.go(square, face);
        }

        int roll(int face) {
            needIn(face, 1, 6);
            Stand before = stand();
            if (before.turn < 0 || log.size() == 200) {
                status[1]++;
                return -1;
            }
            Stand after = new Stand();
            after.places = before.places.clone();
            int mover = before.turn;
            int to = board.go(before.places[mover], face);
            after.places[mover] = to;
            int met = 0;
            if (board.meet && to > 0 && to < board.last) {
                for (int p = 0; p < board.pieces; p++) {
                    if (p != mover && after.places[p] == to) {
                        after.places[p] = 0;
                        met += 1 << p;
                    }
                }
            }
            after.turn = -1;
            for (int k = board.pieces; k >= 1; k--) {
                int p = (mover + k) % board.pieces;
                if (after.places[p] != board.last) {
                    after.turn = p;
                }
            }
            if (face == board.again && to != board.last) {
                after.turn = mover;
            }
            stands.add(after);
            log.add(new int[] {mover, face, before.places[mover], to, met});
            return to;
        }

        int rolls(int seed, int many) {
            needN(many, 0, 200);
            int[] state = {seed};
            int done = 0;
            while (done < many && stand().turn >= 0 && log.size() < 200) {
                int draw = draw(state, board.all());
                int face = 0;
                int sum = 0;
                while (sum <= draw) {
                    face++;
                    sum += board.odds[face];
                }
                roll(face);
                done++;
            }
            return done;
        }

        private static int draw(int[] seed, int n) {
            BigInteger next = BigInteger.valueOf(seed[0]).multiply(BigInteger.valueOf(1103515245))
                    .add(BigInteger.valueOf(12345));
            seed[0] = next.intValue();
            return next.shiftRight(16).and(BigInteger.valueOf(0x7fff)).intValue() % n;
        }

        int undo() {
            if (log.isEmpty()) {
                return -1;
            }
            log.remove(log.size() - 1);
            stands.remove(stands.size() - 1);
            return log.size();
        }

        int piece(int piece) {
            needIn(piece, 0, board.pieces - 1);
            return stand().places[piece];
        }

        int rolled(int i, int what) {
            needIn(i, 0, log.size() - 1);
            needIn(what, 0, 4);
            return log.get(i)[what];
        }

        /** Level by level the squares that can be come to, each with the least row of faces. */
        private int fewestRow(int from, int to, boolean atOnce, List<Integer> into) {
            Map<Integer, List<Integer>> level = new TreeMap<>();
            level.put(from, new ArrayList<>());
            if (atOnce && from == to) {
                return 0;
            }
            for (int many = 1; many <= board.last + 2; many++) {
                Map<Integer, List<Integer>> next = new TreeMap<>();
                for (Map.Entry<Integer, List<Integer>> entry : level.entrySet()) {
                    for (int face : board.faces()) {
                        List<Integer> faces = new ArrayList<>(entry.getValue());
                        faces.add(face);
                        next.merge(board.go(entry.getKey(), face), faces, (a, b) -> before(a, b) ? a : b);
                    }
                }
                if (next.containsKey(to)) {
                    into.addAll(next.get(to));
                    return many;
                }
                level = next;
            }
            return -1;
        }

        private static boolean before(List<Integer> one, List<Integer> two) {
            for (int i = 0; i < one.size(); i++) {
                if (!one.get(i).equals(two.get(i))) {
                    return one.get(i) < two.get(i);
                }
            }
            return true;
        }

        int fewest(int square) {
            needSquare(square);
            List<Integer> faces = new ArrayList<>();
            int many = fewestRow(square, board.last, true, faces);
            if (many >= 0) {
                row = faces;
            }
            return many;
        }

        int rowAt(int i) {
            needIn(i, 0, row == null ? -1 : row.size() - 1);
            return row.get(i);
        }

        boolean never(int square) {
            needSquare(square);
            return fewestRow(0, square, true, new ArrayList<>()) < 0;
        }

        boolean lost(int square) {
            needSquare(square);
            return fewestRow(square, board.last, true, new ArrayList<>()) < 0;
        }

        int round(int square) {
            needSquare(square);
            return fewestRow(square, square, false, new ArrayList<>());
        }

        long grains(int square, int n, int what) {
            needSquare(square);
            needIn(what, 0, 2);
            needN(n, 0, 400);
            long[] out = board.out(square, n);
            if (what == 0) {
                return out[n];
            }
            return what == 1 ? board.sumOut(square, n) : n == 0 ? 0 : out[n - 1] - out[n];
        }

        long stood(int from, int square, int n) {
            needSquare(from);
            needSquare(square);
            needN(n, 0, 400);
            List<long[]> grains = board.grains(from, n);
            return grains.subList(1, n + 1).stream().mapToLong(g -> g[square]).sum();
        }

        int half(int square) {
            needSquare(square);
            long[] out = board.out(square, 400);
            for (int n = 0; n <= 400; n++) {
                if (2 * out[n] <= 1000000000L) {
                    return n;
                }
            }
            return -1;
        }

        long first(int one, int two, int n, int what) {
            needSquare(one);
            needSquare(two);
            needIn(what, 0, 2);
            needN(n, 0, 400);
            long[] outOne = board.out(one, n);
            long[] outTwo = board.out(two, n);
            BigInteger a = BigInteger.ZERO;
            BigInteger b = BigInteger.ZERO;
            for (int k = 1; k <= n; k++) {
                a = a.add(BigInteger.valueOf(outOne[k - 1] - outOne[k]).multiply(BigInteger.valueOf(outTwo[k - 1])));
                b = b.add(BigInteger.valueOf(outTwo[k - 1] - outTwo[k]).multiply(BigInteger.valueOf(outOne[k])));
            }
            BigInteger all = BigInteger.valueOf(1000000000L);
            BigInteger[] three = {a.divide(all), b.divide(all), all.subtract(a.divide(all)).subtract(b.divide(all))};
            return three[what].longValueExact();
        }

        long matters(int exit, int n) {
            needIn(exit, 0, board.exits.size() - 1);
            needN(n, 0, 400);
            Board without = board.copy();
            without.exits.remove(exit);
            return without.sumOut(0, n) - board.sumOut(0, n);
        }

        int most(int n) {
            needN(n, 0, 400);
            int best = -1;
            for (int e = 0; e < board.exits.size(); e++) {
                if (best < 0 || Math.abs(matters(e, n)) > Math.abs(matters(best, n))) {
                    best = e;
                }
            }
            return best;
        }

        int wanted(long wish, int n) {
            needN(n, 0, 400);
            if (wish < 0) {
                bad();
            }
            if (board.last > 40 || n > 60) {
                return -2;
            }
            if (board.exits.size() == 24) {
                return -1;
            }
            long best = Long.MAX_VALUE;
            int answer = -1;
            for (int foot = 1; foot < board.last; foot++) {
                for (int head = 1; head <= board.last; head++) {
                    if (foot != head && !board.hasFoot(foot)) {
                        Board with = board.copy();
                        with.exits.add(new int[] {foot, head});
                        long gap = Math.abs(with.sumOut(0, n) - wish);
                        if (gap < best || answer < 0) {
                            best = gap;
                            answer = (board.last + 1) * foot + head;
                        }
                    }
                }
            }
            return answer;
        }

        private long aheadOf(int square, int n, Map<Integer, Long> known) {
            if (square == board.last || n == 0) {
                return 0;
            }
            Long old = known.get(n * 1000 + square);
            if (old != null) {
                return old;
            }
            BigInteger sum = BigInteger.ZERO;
            for (int f = 1; f <= 6; f++) {
                for (int g = 1; g <= 6; g++) {
                    if (board.odds[f] * board.odds[g] > 0) {
                        long less = Math.min(aheadOf(board.go(square, f), n - 1, known),
                                aheadOf(board.go(square, g), n - 1, known));
                        sum = sum.add(BigInteger.valueOf(less).multiply(BigInteger.valueOf(board.odds[f] * board.odds[g])));
                    }
                }
            }
            long value = 1000000000L + sum.divide(BigInteger.valueOf(board.all() * board.all())).longValueExact();
            known.put(n * 1000 + square, value);
            return value;
        }

        long ahead(int square, int n) {
            needSquare(square);
            needN(n, 0, 100);
            return aheadOf(square, n, new HashMap<>());
        }

        int choose(int square, int one, int two, int n) {
            needSquare(square);
            needIn(one, 1, 6);
            needIn(two, 1, 6);
            needN(n, 1, 100);
            Map<Integer, Long> known = new HashMap<>();
            return aheadOf(board.go(square, two), n - 1, known) < aheadOf(board.go(square, one), n - 1, known) ? two : one;
        }

        int often(int face) {
            needIn(face, 1, 6);
            return (int) log.stream().filter(t -> t[1] == face).count();
        }

        long unlike(int what) {
            needIn(what, 0, 1);
            if (log.isEmpty()) {
                return what;
            }
            BigInteger upper = BigInteger.ZERO;
            BigInteger lower = BigInteger.ONE;
            for (int face : board.faces()) {
                BigInteger odds = BigInteger.valueOf(board.odds[face]);
                BigInteger more = BigInteger.valueOf(often(face) * board.all() - log.size() * board.odds[face]);
                upper = upper.multiply(odds).add(more.multiply(more).multiply(lower));
                lower = lower.multiply(odds);
            }
            lower = lower.multiply(BigInteger.valueOf((long) log.size() * board.all()));
            BigInteger divisor = upper.gcd(lower);
            return (what == 0 ? upper : lower).divide(divisor).longValueExact();
        }

        int worn() {
            int best = -1;
            int most = 0;
            for (int face = 1; face <= 6 && !log.isEmpty(); face++) {
                int more = often(face) * board.all() - log.size() * board.odds[face];
                if (best < 0 || more > most) {
                    best = face;
                    most = more;
                }
            }
            return best;
        }

        int note(int square) {
            if (notes.size() == 40 || square < -1 || square > board.last) {
                status[2]++;
                return -1;
            }
            notes.add(square);
            return notes.size();
        }

        int forget() {
            if (notes.isEmpty()) {
                return -1;
            }
            notes.remove(notes.size() - 1);
            return notes.size();
        }

        /** Whether a noted one, of which it is asked, can come, were 'throw' so much less; null where nothing is asked. */
        private Boolean canCome(int i, int less) {
            int ahead = i == 0 ? 0 : notes.get(i - 1);
            if (ahead < 0 || notes.get(i) < 0) {
                return null;
            }
            return board.faces().stream().anyMatch(f -> board.go(ahead, f - less) == notes.get(i));
        }

        int cannot() {
            for (int i = 0; i < notes.size(); i++) {
                if (canCome(i, 0) == Boolean.FALSE) {
                    return i;
                }
            }
            return -1;
        }

        int less() {
            int many = 0;
            for (int i = 0; i < notes.size(); i++) {
                if (canCome(i, 0) == Boolean.FALSE && canCome(i, 1) == Boolean.TRUE) {
                    many++;
                }
            }
            return many;
        }

        /** In how many ways the faces so far lead to each square. */
        private BigInteger waysOn(int from, int i) {
            Map<Integer, BigInteger> now = new TreeMap<>();
            now.put(from, BigInteger.ONE);
            for (int k = i; k < notes.size(); k++) {
                Map<Integer, BigInteger> next = new TreeMap<>();
                for (int s : now.keySet()) {
                    for (int face : board.faces()) {
                        int to = board.go(s, face);
                        if (notes.get(k) < 0 || notes.get(k) == to) {
                            next.merge(to, now.get(s), BigInteger::add);
                        }
                    }
                }
                now = next;
            }
            return now.values().stream().reduce(BigInteger.ZERO, BigInteger::add);
        }

        long fits() {
            BigInteger ways = waysOn(0, 0);
            if (ways.signum() > 0) {
                row = new ArrayList<>();
                int square = 0;
                for (int i = 0; i < notes.size(); i++) {
                    for (int face : board.faces()) {
                        int to = board.go(square, face);
                        if ((notes.get(i) < 0 || notes.get(i) == to) && waysOn(to, i + 1).signum() > 0) {
                            row.add(face);
                            square = to;
                            break;
                        }
                    }
                }
            }
            return ways.min(BigInteger.TEN.pow(18)).longValueExact();
        }

        int draw(int seed, int last, int exits) {
            needN(last, 10, 100);
            needN(exits, 0, 24);
            Board drawn = new Board();
            drawn.odds = board.odds;
            drawn.last = last;
            int[] state = {seed};
            for (int i = 0; i < exits; i++) {
                int foot = draw(state, last - 1) + 1;
                int head = draw(state, last) + 1;
                if (foot != head && !drawn.hasFoot(foot)) {
                    drawn.exits.add(new int[] {foot, head});
                }
            }
            board = drawn;
            anew();
            return drawn.exits.size();
        }

        long ended(int end, int n) {
            needIn(end, 0, 2);
            needN(n, 0, 400);
            Board other = board.copy();
            other.end = end;
            return other.sumOut(0, n);
        }

        private long togetherOf(int one, int two, int n, Map<Integer, Long> known) {
            if (n == 0 || one == board.last && two == board.last) {
                return 0;
            }
            int key = (n * 200 + one) * 200 + two;
            Long old = known.get(key);
            if (old != null) {
                return old;
            }
            long sum = 0;
            for (int face : board.faces()) {
                List<Long> ways = new ArrayList<>();
                if (one != board.last) {
                    ways.add(togetherOf(board.go(one, face), two, n - 1, known));
                }
                if (two != board.last) {
                    ways.add(togetherOf(one, board.go(two, face), n - 1, known));
                }
                sum += board.odds[face] * ways.stream().mapToLong(w -> w).min().getAsLong();
            }
            long value = 1000000000L + sum / board.all();
            known.put(key, value);
            return value;
        }

        long together(int one, int two, int n) {
            needSquare(one);
            needSquare(two);
            needN(n, 0, 100);
            if (board.last > 40 || n > 60) {
                return -2;
            }
            return togetherOf(one, two, n, new HashMap<>());
        }

        int whom(int one, int two, int face, int n) {
            needSquare(one);
            needSquare(two);
            needIn(face, 1, 6);
            needN(n, 1, 100);
            if (board.last > 40 || n > 60) {
                return -2;
            }
            if (one == board.last || two == board.last) {
                return one != board.last ? 0 : two != board.last ? 1 : -1;
            }
            Map<Integer, Long> known = new HashMap<>();
            return togetherOf(one, board.go(two, face), n - 1, known)
                    < togetherOf(board.go(one, face), two, n - 1, known) ? 1 : 0;
        }

        String written() {
            StringBuilder text = new StringBuilder("last " + board.last + ";die");
            for (int face = 1; face <= 6; face++) {
                text.append(" ").append(board.odds[face]);
            }
            text.append(";");
            for (int[] exit : board.exits) {
                text.append("exit ").append(exit[0]).append(" ").append(exit[1]).append(";");
            }
            text.append("end ").append(new String[] {"stay", "back", "in"}[board.end]).append(";");
            text.append(board.again > 0 ? "again " + board.again + ";" : "").append(board.meet ? "meet;" : "");
            text.append("pieces ").append(board.pieces).append(";");
            if (board.goes != null) {
                String before = ";";
                text.append("goes ");
                for (String token : board.goes) {
                    text.append(token.matches("\\w+") && before.matches("\\w+") ? " " : "").append(token);
                    before = token;
                }
                text.append(";");
            }
            return text.toString();
        }

        void image() {
            image = new Object[] {new ArrayList<>(stands), new ArrayList<>(log), new ArrayList<>(notes), status.clone()};
        }

        @SuppressWarnings("unchecked")
        boolean restore() {
            if (image == null) {
                return false;
            }
            stands = new ArrayList<>((List<Stand>) image[0]);
            log = new ArrayList<>((List<int[]>) image[1]);
            notes = new ArrayList<>((List<Integer>) image[2]);
            status = ((int[]) image[3]).clone();
            return true;
        }
    }
}
