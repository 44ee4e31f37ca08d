import java.io.IOException;
import java.nio.charset.StandardCharsets;
import java.nio.file.Files;
import java.nio.file.Path;
import java.util.ArrayList;
import java.util.List;
import java.util.NoSuchElementException;
import java.util.Set;
import java.util.TreeSet;
import java.util.concurrent.Callable;

/**
 * A test for each sentence of the document that names a boundary, by the sentence and the promise that it binds: too
 * small, too large, empty, full, a wrap-around, a refused call. A sentence that the document hasn't is a fault too.
 */
public final class SnakeBoardEdges {
    private static final long GRAINS = 1000000000L;
    private static final String NONE_SUCH = "NoSuchElementException";
    private static final String BAD = "IllegalArgumentException";
    private static final int MIN = Integer.MIN_VALUE;
    private static final int MAX = Integer.MAX_VALUE;
    // a die of which only the 6 comes
    private static final String SIXES = "die 0 0 0 0 0 1;";
    // a die of which the 1 and the 2 come, half the throws each
    private static final String COIN = "last 10;die 1 1 0 0 0 0;";
    private static final Set<Integer> TESTED = new TreeSet<>();
    private static String document = "";
    private static String now = "";
    private static int tests = 0;
    private static int checks = 0;
    private static int wrong = 0;

    private interface Body {
        void run() throws Exception;
    }

    public static void main(String[] args) throws IOException {
        document = plain(Files.readString(Path.of("../shared/DOC.md"), StandardCharsets.UTF_8));
        newObject();
        tape();
        boards();
        tokens();
        numbersOfLines();
        lines();
        exprs();
        faultsOfLines();
        faultsOfExprs();
        faultPlace();
        counts();
        exits();
        goes();
        values();
        rolls();
        turns();
        rollsByASeed();
        undone();
        pieces();
        fewest();
        neverLostRound();
        grains();
        stoodAndHalf();
        first();
        mattering();
        wanted();
        ahead();
        lookedAt();
        noted();
        cannotFitsLess();
        drawn();
        ended();
        pairs();
        written();
        images();
        for (int promise = 1; promise <= 41; promise++) {
            if (!TESTED.contains(promise)) {
                fail("no test of promise " + promise);
            }
        }
        System.out.println("edges: " + tests + " tests, " + checks + " checks, " + wrong + " wrong");
        if (wrong != 0) {
            System.exit(1);
        }
    }

    private static String plain(String text) {
        return text.replaceAll("\\s+", " ");
    }

    private static void fail(String what) {
        wrong++;
        System.out.println(now + ": " + what);
    }

    /** One test, named by its promise and the document's own words. */
    private static void test(int promise, String sentence, Body body) {
        now = "promise " + promise + ", \"" + sentence + "\"";
        tests++;
        TESTED.add(promise);
        if (!document.contains(sentence)) {
            fail("the document doesn't say so");
        }
        int before = checks;
        try {
            body.run();
        } catch (Exception e) {
            fail("broke off with " + e);
        }
        if (checks == before) {
            fail("nothing was looked at");
        }
    }

    private static void due(Object want, Callable<Object> call) {
        checks++;
        String got;
        try {
            got = String.valueOf(call.call());
        } catch (NoSuchElementException | IllegalArgumentException e) {
            got = e.getClass().getSimpleName();
        } catch (Exception e) {
            got = "the machine's " + e;
        }
        if (!got.equals(String.valueOf(want))) {
            int line = 0;
            for (StackTraceElement at : new Throwable().getStackTrace()) {
                if (line == 0 && !at.getMethodName().equals("due")) {
                    line = at.getLineNumber();
                }
            }
            fail("line " + line + " got " + got + ", due is " + want);
        }
    }

    /** The bytes behind the text are letters: who reads too far reads them. */
    private static void feed(SnakeBoard x, String text) {
        for (int at = 0; at < text.length(); at += 20) {
            int[] five = new int[5];
            for (int i = 0; i < 20; i++) {
                int sign = at + i < text.length() ? text.charAt(at + i) : 'x';
                five[i / 4] = five[i / 4] << 8 | sign;
            }
            x.feed(five[0], five[1], five[2], five[3], five[4]);
        }
    }

    private static int read(SnakeBoard x, String text) {
        x.board(0);
        return readOn(x, text);
    }

    /** Without an empty board ahead of it. */
    private static int readOn(SnakeBoard x, String text) {
        feed(x, text);
        return x.board(text.length());
    }

    private static SnakeBoard on(String text) {
        SnakeBoard x = new SnakeBoard();
        int fault = readOn(x, text);
        if (fault != 0) {
            throw new IllegalStateException("no board: " + text + " has fault " + fault + " at " + x.fault());
        }
        return x;
    }

    /** A text is read to its FAULT at a place (0 at -1: it has none). */
    private static void text(String text, int fault, int place) {
        SnakeBoard x = new SnakeBoard();
        due(fault + " at " + place, () -> readOn(x, text) + " at " + x.fault());
        due(fault == 0 ? 0 : 1, () -> x.count(10));
    }

    private static void fine(String text) {
        text(text, 0, -1);
    }

    private static String writtenOf(SnakeBoard x) {
        StringBuilder text = new StringBuilder();
        int many = x.written(SnakeBoard.NONE);
        for (int i = 0; i < many; i++) {
            text.append((char) x.written(i));
        }
        return text.toString();
    }

    private static String row(SnakeBoard x) {
        List<Integer> faces = new ArrayList<>();
        for (int i = 0; i <= 100; i++) {
            try {
                faces.add(x.row(i));
            } catch (NoSuchElementException e) {
                return faces.toString();
            }
        }
        return faces.toString();
    }

    private static String game(SnakeBoard x) {
        StringBuilder text = new StringBuilder();
        for (int p = 0; p < 4; p++) {
            try {
                text.append(x.piece(p)).append(' ');
            } catch (NoSuchElementException e) {
                break;
            }
        }
        return text.append("turn ").append(x.count(7)).append(" throws ").append(x.count(6)).toString();
    }

    private static String status(SnakeBoard x) {
        return x.count(10) + " " + x.count(11) + " " + x.count(12);
    }

    /** All of a short board and its short game but STATUS, tape and FAULT. */
    private static String all(SnakeBoard x) {
        StringBuilder text = new StringBuilder(game(x));
        for (int what : new int[] {0, 1, 2, 3, 4, 5, 8, 21, 22, 23, 24, 25, 26}) {
            text.append(' ').append(x.count(what));
        }
        for (int exit = 0; exit < x.count(1); exit++) {
            text.append(" exit ").append(x.exit(exit, 0)).append(' ').append(x.exit(exit, 1));
        }
        for (int i = 0; i < x.count(6); i++) {
            for (int what = 0; what <= 4; what++) {
                text.append(' ').append(x.rolled(i, what));
            }
        }
        for (int face = 1; face <= 6; face++) {
            text.append(' ').append(x.goes(0, face)).append(' ').append(x.goes(5, face));
        }
        return text.append(" row ").append(row(x)).append(' ').append(x.cannot()).append(' ').append(x.less()).toString();
    }

    private static void newObject() {
        test(1, "SQUARES 1 to LAST (10 to 100; 36 without)", () -> {
            due(36, () -> new SnakeBoard().count(0));
            due(36, () -> on("meet;").count(0));
            SnakeBoard x = on("last 20;");
            read(x, "meet;");
            due(36, () -> x.count(0));
        });
        test(1, "ODDS (0 to 9 each, 1 without) of the FACES 1 to 6", () -> {
            SnakeBoard x = new SnakeBoard();
            SnakeBoard y = on("die 2 3 4 5 6 7;");
            read(y, "meet;");
            for (int what : new int[] {21, 22, 23, 24, 25, 26}) {
                due(1, () -> x.count(what));
                due(1, () -> y.count(what));
            }
        });
        test(1, "THE END: 0 stay, 1 back, 2 in (0 without)", () -> {
            due(0, () -> new SnakeBoard().count(3));
            SnakeBoard x = on("end in;");
            read(x, "meet;");
            due(0, () -> x.count(3));
        });
        test(1, "AGAIN: a FACE, or none", () -> {
            due(0, () -> new SnakeBoard().count(4));
            SnakeBoard x = on("again 6;");
            read(x, "meet;");
            due(0, () -> x.count(4));
        });
        test(1, "MEET: told or not", () -> {
            due(0, () -> new SnakeBoard().count(5));
            SnakeBoard x = on("meet;");
            due(1, () -> x.count(5));
            read(x, "last 20;");
            due(0, () -> x.count(5));
        });
        test(1, "PIECES (1 to 4; 2 without)", () -> {
            SnakeBoard x = new SnakeBoard();
            due(2, () -> x.count(2));
            due("0 0 turn 0 throws 0", () -> game(x));
            SnakeBoard y = on("pieces 4;");
            read(y, "meet;");
            due("0 0 turn 0 throws 0", () -> game(y));
        });
        test(1, "GOES: an EXPR ('throw' without)", () -> {
            SnakeBoard x = new SnakeBoard();
            SnakeBoard y = on("goes throw*0;");
            read(y, "meet;");
            for (int face : new int[] {1, 2, 3, 4, 5, 6}) {
                due(face, () -> x.goes(0, face));
                due(20 + face, () -> y.goes(20, face));
            }
        });
        test(1, "`SnakeBoard()`: All as without, a GAME of 2 PIECES.", () -> {
            SnakeBoard x = new SnakeBoard();
            due("0 0 turn 0 throws 0 36 0 2 0 0 0 0 1 1 1 1 1 1 1 6 2 7 3 8 4 9 5 10 6 11 row [] -1 0", () -> all(x));
            due("0 0 0", () -> status(x));
            due(0, () -> x.count(9));
            due(-1, () -> x.fault());
            due(NONE_SUCH, () -> x.row(0));
            due(false, () -> x.restore());
            due("last 36;die 1 1 1 1 1 1;end stay;pieces 2;", () -> writtenOf(x));
        });
        test(1, "`NONE = -1`: There is none.", () -> due(-1, () -> SnakeBoard.NONE));
        test(1, "An object is used for at most 512 calls after it has been made", () -> {
            SnakeBoard x = on("last 10;pieces 1;goes 0;");
            for (int i = 3; i <= 200; i++) {
                x.roll(1 + i % 6);
            }
            for (int i = 201; i <= 510; i++) {
                x.note(11);
            }
            due(310, () -> x.count(12));
            SnakeBoard y = new SnakeBoard();
            for (int i = 1; i <= 510; i += 2) {
                y.feed(0x23000000, 0, 0, 0, 0);
                y.board(20);
            }
            due(255, () -> y.count(10));
        });
    }

    private static void tape() {
        test(2, "Twenty bytes come behind the tape, of each number the highest first: how many it has", () -> {
            SnakeBoard x = new SnakeBoard();
            // "meet;end in;last" and what isn't a TOKEN
            due(20, () -> x.feed(0x6d656574, 0x3b656e64, 0x20696e3b, 0xff202020, -1));
            due(40, () -> x.feed(MIN, MAX, 0, -1, 1));
            due(0, () -> x.board(12));
            due("1 2", () -> x.count(5) + " " + x.count(3));
            // the bytes behind the first twenty: "last 20;exit 3 4;mee" "t;"
            x.feed(0x6c617374, 0x2032303b, 0x65786974, 0x20332034, 0x3b6d6565);
            x.feed(0x743b2323, 0x23232323, 0x23232323, 0x23232323, 0x23232323);
            due(0, () -> x.board(22));
            due("20 3 4 1", () -> x.count(0) + " " + x.exit(0, 0) + " " + x.exit(0, 1) + " " + x.count(5));
        });
        test(2, "Twenty bytes come behind the tape, of each number the highest first", () -> {
            // each of the twenty in turn is the first that isn't a TOKEN, by its highest bit
            for (int at = 0; at < 20; at++) {
                int[] five = {0x20202020, 0x20202020, 0x20202020, 0x20202020, 0x20202020};
                five[at / 4] ^= 0xa0 << 24 - at % 4 * 8;
                SnakeBoard x = new SnakeBoard();
                x.feed(five[0], five[1], five[2], five[3], five[4]);
                due("1 at " + at, () -> x.board(20) + " at " + x.fault());
            }
        });
        test(2, "NONE, and none come, if it would have more than 500", () -> {
            SnakeBoard x = new SnakeBoard();
            feed(x, "last 20;");
            for (int many = 40; many <= 500; many += 20) {
                due(many, () -> x.feed(0x20202020, 0x20202020, 0x20202020, 0x20202020, 0x20202023));
            }
            due(-1, () -> x.feed(0x6d656574, 0x3b6d6565, 0x743b6d65, 0x65743b6d, 0x6565743b));
            due(-1, () -> x.feed(0, 0, 0, 0, 0));
            due(500, () -> x.count(9));
            due("0 0 0", () -> status(x));
            due(0, () -> x.board(8));
            due(20, () -> x.count(0));
            due(20, () -> x.feed(0x6d656574, 0x3b000000, 0, 0, 0));
        });
        test(2, "A TEXT of at most 500 bytes tells it", () -> {
            SnakeBoard x = new SnakeBoard();
            String text = "last 20;" + " ".repeat(487) + "meet;";
            due(0, () -> readOn(x, text));
            due("20 1", () -> x.count(0) + " " + x.count(5));
            due("1 at 499", () -> readOn(x, " ".repeat(499) + "#") + " at " + x.fault());
            due("1 at 500", () -> readOn(x, " ".repeat(496) + "meet") + " at " + x.fault());
        });
    }

    /** A board, a game, notes, a row and an image that can all be lost, on at most some hundred calls. */
    private static SnakeBoard busy() {
        SnakeBoard x = on("last 12;exit 3 9;exit 8 2;die 1 2 1 0 1 1;end back;again 2;meet;pieces 3;goes throw;");
        x.roll(1);
        x.roll(1);
        x.note(1);
        x.note(3);
        x.fits();
        x.fewest(0);
        x.image();
        x.roll(2);
        return x;
    }

    private static void boards() {
        test(3, "The tape's first n bytes (it is empty then) are a BOARD", () -> {
            SnakeBoard x = new SnakeBoard();
            feed(x, "meet;end in;");
            due(0, () -> x.board(5));
            due("1 0", () -> x.count(5) + " " + x.count(3));
            due(0, () -> x.count(9));
            due(BAD, () -> x.board(1));
            feed(x, "meet;end in;pieces 1");
            due("1 at 20", () -> x.board(20) + " at " + x.fault());
            due(0, () -> x.count(9));
            due(BAD, () -> x.board(1));
            due(0, () -> x.board(0));
        });
        test(3, "all anew, a new GAME: 0 (STATUS stays)", () -> {
            SnakeBoard x = busy();
            x.note(13);
            x.feed(0, 0, 0, 0, 0);
            x.board(1);
            due(0, () -> x.board(0));
            due("1 0 1", () -> status(x));
            due("0 0 turn 0 throws 0", () -> game(x));
            due("last 36;die 1 1 1 1 1 1;end stay;pieces 2;", () -> writtenOf(x));
            due(9, () -> x.goes(3, 6));
            due(NONE_SUCH, () -> x.rolled(0, 0));
        });
        test(3, "or the FAULT (all else stays, but STATUS)", () -> {
            SnakeBoard x = busy();
            String before = all(x);
            String text = "last 20;exit 1 2;die 2 2 2 2 2 2;end in;again 3;pieces 1;goes 0;meet;meet;";
            due("5 at 69", () -> readOn(x, text) + " at " + x.fault());
            due("1 0 0", () -> status(x));
            due(before, () -> all(x));
            due(true, () -> x.restore());
            due(2, () -> x.count(6));
            due("0 0 0", () -> status(x));
        });
        test(39, "or the FAULT (all else stays, but STATUS)", () -> {
            SnakeBoard x = busy();
            String before = writtenOf(x);
            readOn(x, "last 20;goes 1;?");
            due(before, () -> writtenOf(x));
        });
        test(3, "What is NOTED, rows that are kept, the image are gone. IllegalArgumentException: the tape", () -> {
            SnakeBoard x = busy();
            readOn(x, "last 12;pieces 3;");
            due(0, () -> x.count(8));
            due(NONE_SUCH, () -> x.row(0));
            due(false, () -> x.restore());
            due("0 0 0 turn 0 throws 0", () -> game(x));
            due(-1, () -> x.forget());
            due(-1, () -> x.undo());
        });
        test(3, "IllegalArgumentException: the tape has not so many, n below 0 (nothing changes)", () -> {
            SnakeBoard x = busy();
            readOn(x, "#");
            feed(x, "last 20;");
            String before = all(x);
            for (int n : new int[] {-1, 21, 500, 501, MIN, MAX}) {
                due(BAD, () -> x.board(n));
            }
            due(before, () -> all(x));
            due("1 0 0 tape 20 fault 0", () -> status(x) + " tape " + x.count(9) + " fault " + x.fault());
            due(true, () -> x.restore());
            SnakeBoard y = new SnakeBoard();
            due(BAD, () -> y.board(1));
            due(0, () -> y.board(0));
            feed(y, " ".repeat(20));
            due(0, () -> y.board(20));
        });
    }

    private static void tokens() {
        test(3, "words (a .. z, the longest row)", () -> {
            text("meetx;", 1, 0);
            text("mee;", 1, 0);
            text("meet meet;", 1, 5);
            text("end iin;", 1, 4);
            text("end inn;", 1, 4);
            text("end i n;", 1, 4);
            text("goes throwat;", 3, 5);
            text("goes a;", 3, 5);
            text("goes z;", 3, 5);
            text("goes `;", 1, 5);
            text("goes {;", 1, 5);
            text("goes Throw;", 1, 5);
            text("meetZ;", 1, 4);
        });
        test(3, "In quotes is what stands there", () -> {
            String[] lines = {"last 20;", "die 1 1 1 1 1 1;", "exit 1 2;", "end stay;", "end back;", "end in;", "again 1;",
                "meet;", "pieces 1;", "goes 1 or 2;", "goes 1 and 2;", "goes not 2;", "goes throw;", "goes at;", "goes last;",
                "goes exits;"};
            for (String line : lines) {
                fine(line);
                for (int i = 0; i < line.length(); i++) {
                    char sign = line.charAt(i);
                    if (sign >= 'a' && sign <= 'z') {
                        String other = line.substring(0, i) + (sign == 'q' ? 'w' : 'q') + line.substring(i + 1);
                        due(true, () -> readOn(new SnakeBoard(), other) % 2 == 1);
                    }
                }
            }
        });
        test(3, "NUMBERS (1 to 4 digits)", () -> {
            fine("goes 0;");
            fine("goes 9;");
            fine("goes 9999;");
            fine("last 0036;");
            fine("die 0000 0001 0009 1 1 1;");
            text("last 00036;", 2, 5);
            text("goes 00000;", 2, 5);
            text("goes 99999999999999999999;", 2, 5);
            text("goes 4294967296;", 2, 5);
            text("last 1 2;", 2, 5);
            text("last 12 0;", 1, 8);
            text("goes :;", 1, 5);
            text("goes /;", 1, 5);
        });
        test(3, "signs ; ( ) + - * / < =", () -> {
            fine("goes (1+2-3*4/5<6);");
            fine("goes 1=2;");
            for (char sign : "!\"#$%&',.:>?@[\\]^_|~".toCharArray()) {
                text("goes 1" + sign + "2;", 1, 6);
            }
            for (char sign : "+-*/<=)".toCharArray()) {
                text("goes " + sign + ";", 1, 5);
                text("meet" + sign, 1, 4);
            }
            text("goes <=1;", 1, 5);
            text("goes 1<=2;", 1, 7);
        });
        test(3, "blanks (32, 10) between them count for nothing", () -> {
            fine(" \n last\n20 ; \n\nmeet ; ");
            fine("die1 1\n1 1 1 1;exit3 4;");
            fine("goes\n(\n1 )\n+ 2\n;");
            text("last 2 0;", 2, 5);
            for (int sign : new int[] {0, 9, 11, 12, 13, 31, 127, 128, 160, 255}) {
                text("meet" + (char) sign + ";", 1, 4);
                text((char) sign + "meet;", 1, 0);
                text("meet;" + (char) sign, 1, 5);
            }
        });
        test(3, "BOARD: ['last' NUMBER ';'] LINE*", () -> {
            fine("");
            fine(" \n");
            fine("last 10;");
            fine("meet;");
            fine("last 10;meet;end in;");
            text(";", 1, 0);
            text("last 10;;", 1, 8);
            text("20;", 1, 0);
        });
    }

    private static void numbersOfLines() {
        test(3, "SQUARES 1 to LAST (10 to 100; 36 without)", () -> {
            text("last 9;", 2, 5);
            fine("last 10;");
            fine("last 100;");
            text("last 101;", 2, 5);
            text("last 0;", 2, 5);
            text("last 9999;", 2, 5);
            due(10, () -> on("last 10;").count(0));
            due(100, () -> on("last 100;").count(0));
        });
        test(3, "a FOOT (1 to LAST less 1)", () -> {
            text("last 20;exit 0 5;", 2, 13);
            fine("last 20;exit 1 5;");
            fine("last 20;exit 19 5;");
            text("last 20;exit 20 5;", 2, 13);
            text("last 20;exit 21 5;", 2, 13);
            fine("last 100;exit 99 5;");
            text("last 100;exit 100 5;", 2, 14);
            fine("exit 35 5;");
            text("exit 36 5;", 2, 5);
        });
        test(3, "a HEAD (1 to LAST, another one)", () -> {
            text("last 20;exit 5 0;", 2, 15);
            fine("last 20;exit 5 1;");
            fine("last 20;exit 5 20;");
            text("last 20;exit 5 21;", 2, 15);
            fine("last 20;exit 5 4;");
            text("last 20;exit 5 5;", 2, 15);
            fine("last 20;exit 5 6;");
            fine("last 100;exit 99 100;");
            text("last 100;exit 99 101;", 2, 17);
            fine("exit 5 36;");
            text("exit 5 37;", 2, 7);
        });
        test(3, "a FOOT is of one EXIT alone", () -> {
            text("exit 5 6;exit 5 7;", 4, 14);
            text("exit 35 6;exit 35 7;", 4, 15);
            text("exit 1 6;exit 2 6;exit 1 6;", 4, 23);
            fine("exit 5 6;exit 6 5;");
            fine("exit 5 6;exit 7 6;");
        });
        test(3, "THE DIE: ODDS (0 to 9 each, 1 without) of the FACES 1 to 6, some above 0", () -> {
            fine("die 9 9 9 9 9 9;");
            fine("die 1 0 0 0 0 0;");
            fine("die 0 0 0 0 0 1;");
            text("die 10 1 1 1 1 1;", 2, 4);
            text("die 1 1 1 1 1 10;", 2, 14);
            text("die 0 0 0 0 0 0;", 2, 14);
            text("die 0 0 0 0 0 10;", 2, 14);
            text("die 0 0 0 0 0;", 1, 13);
        });
        test(3, "PIECES (1 to 4; 2 without)", () -> {
            text("pieces 0;", 2, 7);
            due("0 turn 0 throws 0", () -> game(on("pieces 1;")));
            due("0 0 0 0 turn 0 throws 0", () -> game(on("pieces 4;")));
            text("pieces 5;", 2, 7);
        });
        test(3, "AGAIN: a FACE, or none", () -> {
            text("again 0;", 2, 6);
            due(1, () -> on("again 1;").count(4));
            due(6, () -> on("again 6;").count(4));
            text("again 7;", 2, 6);
        });
        test(3, "EXITS 0, 1 .. (at most 24)", () -> {
            StringBuilder text = new StringBuilder();
            for (int foot = 1; foot <= 24; foot++) {
                text.append("exit ").append(foot).append(' ').append(36 - foot / 24).append(';');
            }
            SnakeBoard x = on(text.toString());
            due(24, () -> x.count(1));
            due("24 35", () -> x.exit(23, 0) + " " + x.exit(23, 1));
            due(35, () -> x.goes(18, 6));
            due(36, () -> x.goes(17, 6));
            fine(text + "meet;");
        });
    }

    private static void lines() {
        test(3, "'die' ODDS ODDS ODDS ODDS ODDS ODDS", () -> {
            text("die;", 1, 3);
            text("die 1 1 1 1 1;", 1, 13);
            text("die 1 1 1 1 1 1 1;", 1, 16);
            text("die 1 1 x 1 1 1;", 1, 8);
            text("die 1 1 1 1 1 1", 1, 15);
            SnakeBoard x = on("die 1 2 3 4 5 9;");
            due("1 2 3 4 5 9", () -> x.count(21) + " " + x.count(22) + " " + x.count(23) + " " + x.count(24) + " "
                    + x.count(25) + " " + x.count(26));
        });
        test(3, "'exit' FOOT HEAD", () -> {
            text("exit;", 1, 4);
            text("exit 5;", 1, 6);
            text("exit 5 6 7;", 1, 9);
            text("exit x 6;", 1, 5);
            text("exit 5 x;", 1, 7);
            text("exit 5 6", 1, 8);
        });
        test(3, "'end' ('stay' | 'back' | 'in')", () -> {
            due(0, () -> on("end stay;").count(3));
            due(1, () -> on("end back;").count(3));
            due(2, () -> on("end in;").count(3));
            text("end;", 1, 3);
            text("end last;", 1, 4);
            text("end 0;", 1, 4);
            text("end in", 1, 6);
            text("end in stay;", 1, 7);
        });
        test(3, "'again' FACE | 'meet' | 'pieces' NUMBER | 'goes' EXPR) ';'", () -> {
            text("again;", 1, 5);
            text("again x;", 1, 6);
            text("again 1", 1, 7);
            text("again 1 2;", 1, 8);
            text("meet", 1, 4);
            text("meet 1;", 1, 5);
            text("meet;;", 1, 5);
            text("pieces;", 1, 6);
            text("pieces x;", 1, 7);
            text("pieces 1", 1, 8);
            text("goes", 1, 4);
            text("goes;", 1, 4);
            text("goes 1", 1, 6);
            text("goes 1 meet;", 1, 7);
        });
    }

    private static void exprs() {
        test(3, "NOT: 'not' NOT | SUM [('<' | '=') SUM]", () -> {
            fine("goes 1<2;");
            text("goes 1<2<3;", 1, 8);
            text("goes 1<2=3;", 1, 8);
            text("goes 1=2=3;", 1, 8);
            fine("goes (1<2)=(3=4);");
            fine("goes not 1<2;");
            text("goes 1 not 2;", 1, 7);
            text("goes not;", 1, 8);
            text("goes 1<;", 1, 7);
            text("goes not", 1, 8);
        });
        test(3, "EXPR: AND ('or' AND)*. AND: NOT ('and' NOT)*", () -> {
            fine("goes 1 or 2 and 3 or not 4 and 5;");
            text("goes 1 or;", 1, 9);
            text("goes 1 and;", 1, 10);
            text("goes 1 or", 1, 9);
            text("goes 1 or 2 3;", 1, 12);
        });
        test(3, "SUM: PRODUCT (('+' | '-') PRODUCT)*. PRODUCT: PART (('*' | '/') PART)*", () -> {
            fine("goes 1+2-3+4*5/6*7;");
            text("goes 1++2;", 1, 7);
            text("goes 1*-2;", 1, 7);
            text("goes 1*;", 1, 7);
            text("goes 1/", 1, 7);
            text("goes +1;", 1, 5);
        });
        test(3, "PART: NUMBER | VALUE | '(' EXPR ')'", () -> {
            fine("goes ((at));");
            text("goes ();", 1, 6);
            text("goes (1;", 1, 7);
            text("goes (1", 1, 7);
            text("goes 1);", 1, 6);
            text("goes (1));", 1, 8);
            text("goes (1 2);", 1, 8);
            text("goes 1(2);", 1, 6);
            text("goes (1)2;", 1, 8);
            text("goes (1)at;", 1, 8);
            text("goes at throw;", 1, 8);
        });
    }

    private static void faultsOfLines() {
        test(4, "FAULTS, the first along the text, at a TOKEN's first byte, of one TOKEN the least", () -> {
            text("  meet;meet;#", 5, 7);
            text("last 9;#", 2, 5);
            text("#last 9;", 1, 0);
            text("meet;  exit  00000 0;", 2, 13);
            // one that can't stand there, whatever else it is
            text("meet 12345;", 1, 5);
            text("die 1 1 1 1 1 1 99999;", 1, 16);
            text("exit 5 6;exit 5 6;meet;meet;", 4, 14);
            text("exit 5 6;exit 00005 6;", 2, 14);
            text("meet;last 12;", 1, 5);
            text("last 12;last 9;", 1, 8);
        });
        test(4, "1 a TOKEN that can't stand there", () -> {
            text("1", 1, 0);
            text("in;", 1, 0);
            text("throw;", 1, 0);
            text("die meet;", 1, 4);
            text("exit ;", 1, 5);
            text("exit 5 (;", 1, 7);
            text("end (", 1, 4);
            text("again back;", 1, 6);
            text("pieces at;", 1, 7);
            text("last ;", 1, 5);
            text("last last 10;", 1, 5);
            text("last 10 20;", 1, 8);
            text("last 10 meet;", 1, 8);
            text("goes 1 in;", 1, 7);
            text("goes 1=;", 1, 7);
            text("goes (;", 1, 6);
            text("goes 1 die", 1, 7);
            text("goes not+1;", 1, 8);
            text("goes 1 or<1;", 1, 9);
        });
        test(4, "2 one that can, but is too much", () -> {
            text("last 1000;", 2, 5);
            text("exit 36 36;", 2, 5);
            text("exit 37 1;", 2, 5);
            text("exit 9999 1;", 2, 5);
            text("exit 1 9999;", 2, 7);
            text("die 1 1 1 1 9999 1;", 2, 12);
            text("again 9999;", 2, 6);
            text("pieces 9999;", 2, 7);
            fine("goes 9999*9999*9999;");
            fine("last 0100;exit 0099 0100;die 0009 0 0 0 0 0;again 0006;pieces 0004;goes 0000;");
        });
        test(4, "or is none (the text's length where it ends too soon", () -> {
            text("last", 1, 4);
            text("last 10", 1, 7);
            text("last 10 \n ", 1, 10);
            text("exit 5", 1, 6);
            text("exit 5 6 ", 1, 9);
            text("die 1 1 1 1 1 ", 1, 14);
            text("end ", 1, 4);
            text("again\n", 1, 6);
            text("meet ", 1, 5);
            text("pieces 2 ", 1, 9);
            text("goes ", 1, 5);
            text("goes (1+2 ", 1, 10);
            text("goes ((((((", 1, 11);
            text("goes not not not not not not ", 1, 29);
            text("m", 1, 0);
        });
        test(4, "'last' but at the beginning", () -> {
            text("meet;last 10;", 1, 5);
            text("last 10;last 10;", 1, 8);
            text("meet last;", 1, 5);
            text("exit last 5;", 1, 5);
            fine("\n last 10;");
            fine("last 10;goes last;");
        });
        test(4, "a NUMBER of 5 digits or more, or (not in an EXPR) not as told", () -> {
            text("last 00012;", 2, 5);
            text("exit 00005 6;", 2, 5);
            text("exit 5 00006;", 2, 7);
            text("die 1 1 1 00001 1 1;", 2, 10);
            text("again 00001;", 2, 6);
            text("pieces 00001;", 2, 7);
            text("goes 00001;", 2, 5);
            text("goes 1+(10000);", 2, 8);
            fine("goes 9999;");
            fine("goes 0;");
        });
        test(4, "(a HEAD that is the FOOT; the sixth ODDS, if all are 0)", () -> {
            text("exit 5 5;", 2, 7);
            text("exit 5 0005;", 2, 7);
            text("die 0 0 0 0 0 0;", 2, 14);
            text("die 0 0 0 0 0 0", 2, 14);
            text("die 0 0 0 0 0 ;", 1, 14);
        });
        test(4, "the first TOKEN of the 25th EXIT", () -> {
            StringBuilder text = new StringBuilder("last 40;");
            for (int foot = 1; foot <= 24; foot++) {
                text.append("exit ").append(foot).append(" 40;");
            }
            int at = text.length();
            fine(text.toString());
            text(text + "exit 25 40;", 2, at);
            text(text + "exit", 2, at);
            text(text + "  exit 1 40;", 2, at + 2);
            text(text + "meet;exit 25 40;", 2, at + 5);
            text(text + "exits 25 40;", 1, at);
        });
        test(4, "4 a FOOT that is one already", () -> {
            text("exit 5 6;exit 5 6;", 4, 14);
            text("exit 5 6;exit 0005 5;", 4, 14);
            text("exit 5 6;exit 5", 4, 14);
            fine("exit 5 6;exit 6 7;");
        });
        test(4, "5 a second 'die', 'end', 'again', 'meet', 'pieces', 'goes'", () -> {
            text("die 1 1 1 1 1 1;die", 5, 16);
            text("end in;end", 5, 7);
            text("again 1;meet;again", 5, 13);
            text("meet;meet", 5, 5);
            text("pieces 1;pieces 9;", 5, 9);
            text("goes 1;goes;", 5, 7);
            fine("die 1 1 1 1 1 1;end in;again 1;meet;pieces 1;goes 1;exit 1 2;exit 2 3;");
            fine("goes 1;pieces 1;meet;again 1;end in;die 1 1 1 1 1 1;");
        });
    }

    private static void faultsOfExprs() {
        test(4, "of an EXPR within 6 others (a NUMBER, any word, a parenthesis)", () -> {
            fine("goes (((((1)))));");
            fine("goes (((((1)))))+(((((1)))));");
            fine("goes (((((not not not not not not 1)))));");
            text("goes ((((((1))))));", 2, 11);
            text("goes ((((((12345))))));", 2, 11);
            text("goes ((((((throw))))));", 2, 11);
            text("goes ((((((not 1))))));", 2, 11);
            text("goes ((((((foo))))));", 2, 11);
            text("goes ((((((or))))));", 2, 11);
            text("goes (((((((1)))))));", 2, 11);
            text("goes 1*(((((2-((1))))))));", 2, 15);
            text("goes ((((((", 1, 11);
            text("goes (((((();", 1, 11);
            text("goes ((((((;", 1, 11);
            text("goes ((((((+1", 1, 11);
            text("goes ((((((?", 1, 11);
        });
        test(4, "the seventh 'not' side by side", () -> {
            fine("goes not not not not not not 1;");
            text("goes not not not not not not not 1;", 2, 29);
            text("goes not not not not not not not", 2, 29);
            text("goes not not not not not not nots 1;", 3, 29);
            fine("goes not not not not not not(not not not not not not 1);");
            fine("goes not not not not not not 1 and not not not not not not 1;");
            text("goes 1 or not not not not not not not 1;", 2, 34);
        });
        test(4, "3 any word where a PART must stand that is no VALUE", () -> {
            text("goes foo;", 3, 5);
            text("goes or 1;", 3, 5);
            text("goes and;", 3, 5);
            text("goes meet;", 3, 5);
            text("goes 1+not 1;", 3, 7);
            text("goes 1*not 1;", 3, 7);
            text("goes 1<not 1;", 3, 7);
            text("goes 1=end;", 3, 7);
            text("goes 1 or or 1;", 3, 10);
            text("goes not and;", 3, 9);
            text("goes (exit);", 3, 6);
            text("goes 1-foo;", 3, 7);
            text("goes 1/foo;", 3, 7);
            // behind a PART none must stand
            text("goes 1 foo;", 1, 7);
            text("goes (1 foo);", 1, 8);
            text("goes (1)foo;", 1, 8);
        });
    }

    private static void faultPlace() {
        test(4, "The place of the latest board()'s FAULT; NONE without.", () -> {
            SnakeBoard x = new SnakeBoard();
            due(-1, () -> x.fault());
            readOn(x, "meet;meet;");
            due(5, () -> x.fault());
            readOn(x, "meet#");
            due(4, () -> x.fault());
            x.image();
            due(BAD, () -> x.board(1));
            x.draw(1, 10, 1);
            x.restore();
            due(4, () -> x.fault());
            readOn(x, "#");
            due(0, () -> x.fault());
            x.board(0);
            due(-1, () -> x.fault());
        });
    }

    private static void counts() {
        test(5, "0 LAST, 1 EXITS, 2 PIECES, 3 THE END, 4 AGAIN (0: none), 5 MEET (1), 6 THROWS", () -> {
            SnakeBoard x = on("last 20;exit 3 9;exit 4 2;exit 5 1;end back;again 5;meet;pieces 4;");
            x.rolls(5, 9);
            due("20 3 4 1 5 1 9", () -> x.count(0) + " " + x.count(1) + " " + x.count(2) + " " + x.count(3) + " "
                    + x.count(4) + " " + x.count(5) + " " + x.count(6));
        });
        test(5, "7 whose turn it is (NONE: the GAME is over)", () -> {
            SnakeBoard x = on("last 12;" + SIXES);
            due(0, () -> x.count(7));
            x.roll(6);
            due(1, () -> x.count(7));
            x.rolls(1, 2);
            due(1, () -> x.count(7));
            x.roll(6);
            due(-1, () -> x.count(7));
        });
        test(5, "8 how many are NOTED, 9 bytes of the tape", () -> {
            SnakeBoard x = new SnakeBoard();
            x.note(-1);
            x.note(36);
            x.feed(0, 0, 0, 0, 0);
            due("2 20", () -> x.count(8) + " " + x.count(9));
        });
        test(5, "10 to 12 STATUS 0 to 2", () -> {
            SnakeBoard x = on("last 12;pieces 1;" + SIXES);
            x.rolls(1, 5);
            for (int i = 0; i < 3; i++) {
                readOn(x, "#");
                x.note(99);
                x.note(-2);
                x.roll(1);
            }
            x.roll(6);
            due("3 4 6", () -> status(x));
        });
        test(5, "(not counted where an exception tells it)", () -> {
            SnakeBoard x = new SnakeBoard();
            due(BAD, () -> x.board(1));
            due(NONE_SUCH, () -> x.roll(0));
            due(NONE_SUCH, () -> x.roll(7));
            due(BAD, () -> x.rolls(1, 201));
            due("0 0 0", () -> status(x));
        });
        test(5, "STATUS: how many calls were refused: 0 TEXTS with a FAULT, 1 THROWS, 2 SQUARES that are NOTED", () -> {
            SnakeBoard x = on("last 12;pieces 1;" + SIXES);
            x.undo();
            x.forget();
            x.restore();
            x.rolls(1, 200);
            x.rolls(1, 200);
            x.most(1);
            x.note(-1);
            due("0 0 0", () -> status(x));
        });
        test(5, "21 to 26 ODDS of FACES. NoSuchElementException: another what", () -> {
            SnakeBoard x = on("die 9 0 3 4 5 8;");
            due("9 8", () -> x.count(21) + " " + x.count(26));
            for (int what : new int[] {-1, 13, 14, 19, 20, 27, 28, MIN, MAX}) {
                due(NONE_SUCH, () -> x.count(what));
            }
        });
    }

    private static void exits() {
        test(6, "Of an EXIT: 0 FOOT, 1 HEAD. NoSuchElementException: no such EXIT (as everywhere), another what", () -> {
            SnakeBoard x = on("exit 3 9;exit 35 36;exit 1 2;");
            due("3 9 35 36 1 2", () -> x.exit(0, 0) + " " + x.exit(0, 1) + " " + x.exit(1, 0) + " " + x.exit(1, 1) + " "
                    + x.exit(2, 0) + " " + x.exit(2, 1));
            for (int exit : new int[] {-1, 3, 24, MIN, MAX}) {
                due(NONE_SUCH, () -> x.exit(exit, 0));
                due(NONE_SUCH, () -> x.matters(exit, 1));
            }
            for (int what : new int[] {-1, 2, MIN, MAX}) {
                due(NONE_SUCH, () -> x.exit(0, what));
            }
            due(NONE_SUCH, () -> new SnakeBoard().exit(0, 0));
            due(NONE_SUCH, () -> new SnakeBoard().matters(0, 1));
        });
    }

    private static void answers(Callable<Object> call) {
        checks++;
        try {
            call.call();
        } catch (Exception e) {
            fail("line " + e.getStackTrace()[0].getLineNumber() + " of the class: " + e);
        }
    }

    private static void noSuch(Callable<Object> call) {
        due(NONE_SUCH, call);
    }

    private static void bad(Callable<Object> call) {
        due(BAD, call);
    }

    private static void goes() {
        test(7, "0 is ahead of the board, LAST is HOME", () -> {
            SnakeBoard x = on("last 10;");
            due("1 6 10 10", () -> x.goes(0, 1) + " " + x.goes(0, 6) + " " + x.goes(4, 6) + " " + x.goes(9, 1));
        });
        test(7, "that many SQUARES on, 0 at least", () -> {
            SnakeBoard x = on("last 20;goes 0-throw;");
            due("1 0 0 0", () -> x.goes(6, 5) + " " + x.goes(5, 5) + " " + x.goes(4, 5) + " " + x.goes(0, 1));
            SnakeBoard y = on("last 20;goes 0-9999*9999;end in;");
            due("0 0", () -> y.goes(19, 1) + " " + y.goes(0, 1));
        });
        test(7, "HOW FAR is the value of GOES (kept to -200 to 200)", () -> {
            // the greatest int there is and one more: without the bound where one stands would wrap around
            due(100, () -> on("last 100;end in;goes 2048*1024*1024-1;").goes(5, 1));
            due(5, () -> on("last 100;goes 2048*1024*1024-1;").goes(5, 1));
            due(0, () -> on("last 100;end back;goes 2048*1024*1024-1;").goes(99, 1));
            due(0, () -> on("last 100;end back;goes 2048*1024*1024-1;").goes(0, 1));
            due("1 0 0", () -> on("last 100;end back;goes 199;").goes(0, 1) + " "
                    + on("last 100;end back;goes 200;").goes(0, 1) + " " + on("last 100;end back;goes 201;").goes(0, 1));
            due(0, () -> on("last 100;end in;goes 2048*1024*1024;").goes(99, 1));
            due(10, () -> on("last 10;end in;goes 200;").goes(9, 1));
            due(0, () -> on("last 100;goes 0-100;").goes(99, 1));
            due(99, () -> on("last 100;goes 99;").goes(0, 1));
            due(100, () -> on("last 100;goes 100;").goes(0, 1));
        });
        test(7, "beyond LAST one stays where one was (stay: whatever there is)", () -> {
            SnakeBoard x = on("last 10;exit 9 2;exit 8 9;");
            due("10 9", () -> x.goes(9, 1) + " " + x.goes(9, 2));
            due("10 8", () -> x.goes(8, 2) + " " + x.goes(8, 3));
            due("10 7", () -> x.goes(7, 3) + " " + x.goes(7, 4));
            due(0, () -> on("last 10;goes 11;").goes(0, 1));
        });
        test(7, "comes as far back from LAST as it is too much, 0 at least (back)", () -> {
            SnakeBoard x = on("last 10;end back;exit 8 3;");
            due("10 9 3 7", () -> x.goes(9, 1) + " " + x.goes(9, 2) + " " + x.goes(9, 3) + " " + x.goes(9, 4));
            due("9 9", () -> x.goes(5, 6) + " " + x.goes(6, 5));
            due(1, () -> on("last 10;end back;goes 19;").goes(0, 1));
            due(0, () -> on("last 10;end back;goes 20;").goes(0, 1));
            due(0, () -> on("last 10;end back;goes 21;").goes(0, 1));
            due(2, () -> on("last 10;end back;exit 1 2;goes 19;").goes(0, 1));
        });
        test(7, "or is HOME (in)", () -> {
            SnakeBoard x = on("last 10;end in;exit 9 2;");
            due("10 10 10 2", () -> x.goes(9, 1) + " " + x.goes(9, 2) + " " + x.goes(9, 6) + " " + x.goes(8, 1));
        });
        test(7, "who comes to a FOOT (also by 0 SQUARES on) goes on to its HEAD (once: not on from there)", () -> {
            SnakeBoard x = on("last 10;exit 3 7;exit 7 1;exit 1 10;exit 9 3;goes throw-1;");
            due("7 1 10 3", () -> x.goes(3, 1) + " " + x.goes(7, 1) + " " + x.goes(1, 1) + " " + x.goes(9, 1));
            due("10 7 1", () -> x.goes(0, 2) + " " + x.goes(0, 4) + " " + x.goes(2, 6));
            due("0 2", () -> x.goes(0, 1) + " " + x.goes(2, 1));
        });
        test(7, "Who is HOME goes nowhere", () -> {
            for (String end : new String[] {"stay", "back", "in"}) {
                due(10, () -> on("last 10;end " + end + ";").goes(10, 6));
                due(10, () -> on("last 10;end " + end + ";goes 0-throw;").goes(10, 6));
            }
        });
        test(7, "NoSuchElementException: no such SQUARE (0 to LAST, as everywhere)", () -> {
            for (int s : new int[] {-1, 13, 36, 100, 101, MIN, MAX}) {
                SnakeBoard x = on("last 12;");
                noSuch(() -> x.goes(s, 1));
                noSuch(() -> x.fewest(s));
                noSuch(() -> x.never(s));
                noSuch(() -> x.lost(s));
                noSuch(() -> x.round(s));
                noSuch(() -> x.grains(s, 1, 0));
                noSuch(() -> x.stood(s, 1, 1));
                noSuch(() -> x.stood(1, s, 1));
                noSuch(() -> x.half(s));
                noSuch(() -> x.first(s, 1, 1, 0));
                noSuch(() -> x.first(1, s, 1, 0));
                noSuch(() -> x.ahead(s, 1));
                noSuch(() -> x.choose(s, 1, 1, 1));
                noSuch(() -> x.together(s, 1, 1));
                noSuch(() -> x.together(1, s, 1));
                noSuch(() -> x.whom(s, 1, 1, 1));
                noSuch(() -> x.whom(1, s, 1, 1));
            }
            for (int s : new int[] {0, 12}) {
                SnakeBoard x = on("last 12;");
                answers(() -> x.goes(s, 1));
                answers(() -> x.fewest(s));
                answers(() -> x.never(s));
                answers(() -> x.lost(s));
                answers(() -> x.round(s));
                answers(() -> x.grains(s, 1, 0));
                answers(() -> x.stood(s, s, 1));
                answers(() -> x.half(s));
                answers(() -> x.first(s, s, 1, 0));
                answers(() -> x.ahead(s, 1));
                answers(() -> x.choose(s, 1, 1, 1));
                answers(() -> x.together(s, s, 1));
                answers(() -> x.whom(s, s, 1, 1));
            }
            due(100, () -> on("last 100;").goes(100, 1));
            noSuch(() -> on("last 100;").goes(101, 1));
        });
        test(7, "FACE (1 to 6, as everywhere)", () -> {
            SnakeBoard x = on("last 12;");
            for (int face : new int[] {-1, 0, 7, MIN, MAX}) {
                noSuch(() -> x.goes(0, face));
                noSuch(() -> x.roll(face));
                noSuch(() -> x.choose(0, face, 1, 1));
                noSuch(() -> x.choose(0, 1, face, 1));
                noSuch(() -> x.often(face));
                noSuch(() -> x.whom(0, 0, face, 1));
            }
            for (int face : new int[] {1, 6}) {
                answers(() -> x.goes(0, face));
                answers(() -> x.roll(face));
                answers(() -> x.choose(0, face, face, 1));
                answers(() -> x.often(face));
                answers(() -> x.whom(0, 0, face, 1));
            }
        });
    }

    /** The value of an EXPR on the SQUARE 50 of 100 by a 3; FEET are 49, 50, 60 and 70. It is less than 10. */
    private static void value(String expr, int want) {
        SnakeBoard x = new SnakeBoard();
        due(0, () -> readOn(x, "last 100;exit 49 1;exit 50 2;exit 60 1;exit 70 1;goes 20+(" + expr + ")-19;"));
        due(51 + want, () -> x.goes(50, 3));
    }

    private static void values() {
        test(7, "From the left; ints that wrap", () -> {
            value("9-3-2", 4);
            value("9-(3-2)", 8);
            value("8/4*2", 4);
            value("8/4/2", 1);
            value("2+3*2", 8);
            value("2048*1024*1024<0", 1);
            value("2048*1024*1024-1<0", 0);
            value("0-2048*1024*1024<0", 1);
            value("0-2048*1024*1024-1<0", 0);
            value("4096*1024*1024", 0);
            value("4096*1024*1024+5", 5);
            value("2048*1024*1024<1", 1);
            value("1<2048*1024*1024", 0);
            // 999700029999 wraps to -1027349969
            value("9999*9999*9999/9999/9999", -10);
        });
        test(7, "/ cut down to 0, by 0 gives 0", () -> {
            value("7/2", 3);
            value("(0-7)/2", -3);
            value("7/(0-2)", -3);
            value("(0-7)/(0-2)", 3);
            value("1/2", 0);
            value("(0-1)/2", 0);
            value("5/0", 0);
            value("0/0", 0);
            value("(0-5)/0", 0);
            value("5/(throw-3)+1", 1);
            value("2048*1024*1024/(0-1)<0", 1);
        });
        test(7, "tests, not, and, or are 1 or 0 (what isn't 0 holds)", () -> {
            value("1<2", 1);
            value("2<2", 0);
            value("3<2", 0);
            value("2=2", 1);
            value("2=3", 0);
            value("(0-1)<0", 1);
            value("not 0", 1);
            value("not 1", 0);
            value("not 7", 0);
            value("not(0-1)", 0);
            value("not not 7", 1);
            value("5 and 7", 1);
            value("(0-5) and (0-7)", 1);
            value("5 and 0", 0);
            value("0 and 5", 0);
            value("2 and 1", 1);
            value("5 or 7", 1);
            value("0 or (0-7)", 1);
            value("7 or 0", 1);
            value("0 or 0", 0);
            value("not 1<0", 1);
            value("not 0 and 0", 0);
            value("1 or 1 and 0", 1);
            value("0 and 0 or 1", 1);
            value("1<2+3", 1);
            value("not not not not not not 5", 1);
        });
        test(7, "'exits' (how many FEET are greater than that SQUARE)", () -> {
            value("exits", 2);
            due(49 + 4, () -> on("last 100;exit 49 1;exit 50 1;exit 60 1;goes exits+2;").goes(49, 1));
            due(48 + 4, () -> on("last 100;exit 49 1;exit 99 1;goes exits+2;").goes(48, 1));
            due(98 + 1, () -> on("last 100;exit 49 1;exit 98 1;goes exits+1;").goes(98, 1));
            due(3, () -> on("last 100;exit 1 2;exit 50 1;exit 99 1;goes exits;").goes(0, 1));
            due(0, () -> on("goes exits;").goes(0, 1));
        });
        test(7, "'throw' (the FACE), 'at' (the SQUARE where one is), 'last'", () -> {
            value("throw", 3);
            value("at-45", 5);
            value("last-92", 8);
            value("0-throw", -3);
            due(0, () -> on("goes at;").goes(0, 1));
            due(35, () -> on("goes last-at-at*2+1;").goes(2 - 1, 1));
        });
        test(7, "of an EXPR within 6 others", () -> {
            // as deep as can be, with as many values open as can be
            String open = "1 or 1 and 0<2+3*(";
            String deep = open.repeat(5) + "0 or 1 and 0=1-1*1" + ")".repeat(5);
            due(1, () -> on("goes " + deep + ";").goes(0, 1));
            value("9-(8-(7-(6-(5))))", 7);
        });
    }

    private static void rolls() {
        test(8, "A GAME: all PIECES are on 0, PIECE 0 begins", () -> {
            due("0 turn 0 throws 0", () -> game(on("pieces 1;")));
            due("0 0 0 0 turn 0 throws 0", () -> game(on("pieces 4;")));
        });
        test(8, "A THROW (at most 200)", () -> {
            SnakeBoard x = on("last 10;pieces 1;goes 0;");
            due(199, () -> x.rolls(1, 199));
            due(0, () -> x.roll(1));
            due("0 turn 0 throws 200", () -> game(x));
            due(-1, () -> x.roll(1));
            due("0 turn 0 throws 200", () -> game(x));
            due("0 1 0", () -> status(x));
            due(199, () -> x.undo());
            due(0, () -> x.roll(6));
            due(6, () -> x.rolled(199, 1));
            due(-1, () -> x.roll(6));
        });
        test(8, "with MEET all others that stand where it comes (not on 0, not HOME) are put on 0", () -> {
            SnakeBoard x = on("last 10;meet;pieces 3;exit 2 4;");
            x.roll(4);
            due("4 0 0 turn 1 throws 1", () -> game(x));
            due(4, () -> x.roll(2));
            due("0 4 0 turn 2 throws 2", () -> game(x));
            x.roll(3);
            x.roll(3);
            due("3 4 0 turn 1 throws 4", () -> game(x));
            due("0 1 0 4", () -> x.rolled(0, 4) + " " + x.rolled(1, 4) + " " + x.rolled(2, 4) + " " + x.rolled(3, 4));
            SnakeBoard without = on("last 10;pieces 2;");
            without.roll(4);
            without.roll(4);
            due("4 4 turn 0 throws 2", () -> game(without));
            due(0, () -> without.rolled(1, 4));
        });
        test(12, "(not on 0, not HOME) are put on 0", () -> {
            SnakeBoard on0 = on("last 10;meet;pieces 4;goes 0;");
            on0.roll(1);
            on0.roll(1);
            due("0 0", () -> on0.rolled(0, 4) + " " + on0.rolled(1, 4));
            SnakeBoard home = on("last 12;meet;pieces 3;end in;goes 12;");
            home.roll(1);
            home.roll(1);
            home.roll(1);
            due("12 12 12 turn -1 throws 3", () -> game(home));
            due("0 0", () -> home.rolled(1, 4) + " " + home.rolled(2, 4));
            SnakeBoard back = on("last 12;meet;pieces 2;exit 5 1;goes (1-2*(at=3))*throw;");
            back.roll(3);
            back.roll(3);
            due("0 3 turn 0 throws 2", () -> game(back));
            back.roll(4);
            due(0, () -> back.roll(3));
            due(0, () -> back.rolled(3, 4));
        });
        test(8, "all others that stand where it comes", () -> {
            // who stays isn't put on 0 by itself
            SnakeBoard x = on("last 10;meet;pieces 2;");
            x.roll(6);
            x.roll(5);
            due(6, () -> x.roll(5));
            due("6 5 turn 1 throws 3", () -> game(x));
            due(0, () -> x.rolled(2, 4));
            // by the head of an EXIT
            SnakeBoard y = on("last 10;meet;pieces 4;exit 3 6;");
            y.roll(6);
            y.roll(5);
            y.roll(4);
            y.roll(3);
            due("0 5 4 6 turn 0 throws 4", () -> game(y));
            y.roll(6);
            due("6 5 4 0 turn 1 throws 5", () -> game(y));
            due(8, () -> y.rolled(4, 4));
        });
        test(8, "NONE (STATUS 1): the GAME is over, there are 200. NoSuchElementException (ahead): no such FACE", () -> {
            SnakeBoard x = on("last 12;pieces 1;" + SIXES);
            x.rolls(1, 9);
            due(-1, () -> x.roll(6));
            due("0 1 0", () -> status(x));
            noSuch(() -> x.roll(0));
            noSuch(() -> x.roll(7));
            due("0 1 0", () -> status(x));
            due("12 turn -1 throws 2", () -> game(x));
        });
    }

    private static void turns() {
        test(8, "the next PIECE that isn't HOME, round about (its own, if no other is out)", () -> {
            SnakeBoard x = on("last 12;pieces 4;" + SIXES);
            x.rolls(1, 5);
            due("12 6 6 6 turn 1 throws 5", () -> game(x));
            x.roll(1);
            x.roll(6);
            x.roll(1);
            due("12 7 12 7 turn 1 throws 8", () -> game(x));
            x.roll(1);
            due(3, () -> x.count(7));
            x.roll(5);
            due("12 8 12 12 turn 1 throws 10", () -> game(x));
            x.roll(1);
            due("12 9 12 12 turn 1 throws 11", () -> game(x));
            due(0, () -> on("pieces 1;goes 0;").count(7));
            SnakeBoard one = on("pieces 1;");
            one.roll(3);
            due("3 turn 0 throws 1", () -> game(one));
        });
        test(8, "but of the same one, if the FACE is AGAIN, and it isn't HOME", () -> {
            SnakeBoard x = on("last 12;again 6;");
            x.roll(6);
            due("6 0 turn 0 throws 1", () -> game(x));
            x.roll(6);
            due("12 0 turn 1 throws 2", () -> game(x));
            x.roll(6);
            x.roll(5);
            due("12 11 turn 1 throws 4", () -> game(x));
            // who only stays throws again too
            x.roll(6);
            due("12 11 turn 1 throws 5", () -> game(x));
            SnakeBoard ones = on("last 12;again 1;");
            ones.roll(1);
            ones.roll(2);
            due("3 0 turn 1 throws 2", () -> game(ones));
        });
        test(8, "The GAME is over when all are HOME", () -> {
            SnakeBoard x = on("last 12;again 6;pieces 2;");
            for (int i = 0; i < 4; i++) {
                x.roll(6);
            }
            due("12 12 turn -1 throws 4", () -> game(x));
            due(-1, () -> x.roll(6));
            SnakeBoard one = on("last 12;again 6;pieces 1;");
            one.roll(6);
            due(0, () -> one.count(7));
            one.roll(6);
            due(-1, () -> one.count(7));
        });
        test(8, "A THROW: where the PIECE comes", () -> {
            SnakeBoard x = on("last 10;pieces 1;exit 3 9;exit 9 2;exit 4 10;");
            due(9, () -> x.roll(3));
            due(9, () -> x.roll(2));
            due(10, () -> x.roll(1));
            // a FACE without ODDS can be thrown too
            due(3, () -> on(SIXES).roll(3));
        });
    }

    private static String faces(SnakeBoard x, int many) {
        StringBuilder text = new StringBuilder();
        for (int i = 0; i < many; i++) {
            text.append(x.rolled(i, 1));
        }
        return text.toString();
    }

    /** The seed that becomes this one: each round doubles how many bits of the inverse of 1103515245 are right. */
    private static int seedAhead(int next) {
        int by = 1;
        for (int i = 0; i < 5; i++) {
            by *= 2 - 1103515245 * by;
        }
        return (next - 12345) * by;
    }

    private static void rollsByASeed() {
        test(9, "a DRAW of all ODDS together, the first FACE by which ODDS together are more", () -> {
            SnakeBoard x = on("last 100;pieces 1;goes 1;");
            due(12, () -> x.rolls(7, 12));
            due("533166136662", () -> faces(x, 12));
            // 19564, 9806, 10868, 22674, 32531, 3365 MOD 3 are 1, 2, 2, 0, 2, 2
            SnakeBoard worn = on("last 100;pieces 1;goes 1;die 0 2 0 1 0 0;");
            worn.rolls(7, 6);
            due("244244", () -> faces(worn, 6));
            SnakeBoard last = on("last 100;pieces 1;goes 1;die 1 0 0 0 0 8;");
            last.rolls(0, 200);
            due(true, () -> last.often(1) > 0 && last.often(6) > 0 && last.often(1) + last.often(6) == last.count(6));
        });
        test(9, "A seed becomes itself times 1103515245 and 12345 (an int that wraps)", () -> {
            SnakeBoard x = on("last 100;pieces 1;goes 1;die 9 9 9 9 9 9;");
            x.rolls(-1, 8);
            due("64453515", () -> faces(x, 8));
            SnakeBoard least = on("last 100;pieces 1;goes 1;");
            least.rolls(MIN, 4);
            // 0, 21468, 9988, 22117
            due("1152", () -> faces(least, 4));
            SnakeBoard most = on("last 100;pieces 1;goes 1;");
            most.rolls(MAX, 4);
            // 15929, 4409, 9862, 26718
            due("6651", () -> faces(most, 4));
        });
        test(9, "a DRAW of n is its bits 16 to 30 MOD n then", () -> {
            SnakeBoard x = on("last 100;pieces 1;goes 0;die 9 9 9 9 9 9;");
            for (int drawn : new int[] {0, 1, 8, 9, 53, 54, 16383, 16384, 32766, 32767}) {
                for (int high : new int[] {0, MIN}) {
                    // the seed behind which the next one is this
                    int next = drawn << 16 | high | 0x1234;
                    x.rolls(seedAhead(next), 1);
                    due(1 + drawn % 54 / 9, () -> x.rolled(x.count(6) - 1, 1));
                }
            }
        });
        test(9, "THROWS BY A SEED (0 to 200, as long as they can be): how many were done", () -> {
            SnakeBoard x = on("last 10;goes 0;");
            due(0, () -> x.rolls(1, 0));
            due("0 0 turn 0 throws 0", () -> game(x));
            due(1, () -> x.rolls(1, 1));
            due(199, () -> x.rolls(1, 200));
            due(200, () -> x.count(6));
            due(0, () -> x.rolls(1, 200));
            due(0, () -> x.rolls(1, 0));
            SnakeBoard y = on("last 10;goes 0;");
            due(200, () -> y.rolls(1, 200));
            SnakeBoard six = on("last 12;" + SIXES);
            due(4, () -> six.rolls(3, 200));
            due(0, () -> six.rolls(3, 1));
            due("0 0 0", () -> status(six));
        });
        test(9, "IllegalArgumentException: how many", () -> {
            SnakeBoard x = on("last 10;goes 0;");
            for (int many : new int[] {-1, 201, MIN, MAX}) {
                bad(() -> x.rolls(1, many));
            }
            due("0 0 turn 0 throws 0", () -> game(x));
            due("0 0 0", () -> status(x));
            x.rolls(1, 200);
            bad(() -> x.rolls(1, 201));
        });
    }

    private static void undone() {
        test(10, "The last THROW is UNDONE: how many are left. NONE: there is none", () -> {
            SnakeBoard x = on("last 10;");
            due(-1, () -> x.undo());
            x.roll(1);
            x.roll(2);
            due(1, () -> x.undo());
            due("1 0 turn 1 throws 1", () -> game(x));
            noSuch(() -> x.rolled(1, 0));
            due(0, () -> x.undo());
            due("0 0 turn 0 throws 0", () -> game(x));
            due(-1, () -> x.undo());
            due("0 0 0", () -> status(x));
            SnakeBoard full = on("last 10;goes 0;");
            full.rolls(1, 200);
            due(199, () -> full.undo());
            due(1, () -> full.rolls(1, 5));
        });
        test(10, "THROWS are UNDONE, the last one first", () -> {
            SnakeBoard met = on("last 10;meet;pieces 4;exit 3 6;again 6;");
            for (int face : new int[] {5, 6, 3, 5, 3, 6}) {
                met.roll(face);
            }
            due("6 9 5 0 turn 0 throws 6", () -> game(met));
            String[] behind = {"0 9 5 6 turn 0 throws 5", "0 9 5 0 turn 3 throws 4", "5 9 0 0 turn 2 throws 3",
                "5 6 0 0 turn 1 throws 2", "5 0 0 0 turn 1 throws 1", "0 0 0 0 turn 0 throws 0"};
            for (String game : behind) {
                met.undo();
                due(game, () -> game(met));
            }
            SnakeBoard over = on("last 12;pieces 1;" + SIXES);
            over.rolls(1, 5);
            over.undo();
            due("6 turn 0 throws 1", () -> game(over));
            due(12, () -> over.roll(6));
        });
    }

    private static void pieces() {
        test(11, "Where a PIECE is. NoSuchElementException: no such PIECE (as everywhere)", () -> {
            for (int many = 1; many <= 4; many++) {
                SnakeBoard x = on("pieces " + many + ";");
                int count = many;
                due(0, () -> x.piece(0));
                due(0, () -> x.piece(count - 1));
                for (int piece : new int[] {-1, count, 4, MIN, MAX}) {
                    noSuch(() -> x.piece(piece));
                }
            }
        });
        test(12, "4 which PIECES it put on 0 (bits). NoSuchElementException: there is none, another what", () -> {
            SnakeBoard x = on("last 10;meet;exit 2 4;pieces 2;");
            noSuch(() -> x.rolled(0, 0));
            x.roll(4);
            x.roll(2);
            due("0 4 0 4 0", () -> x.rolled(0, 0) + " " + x.rolled(0, 1) + " " + x.rolled(0, 2) + " " + x.rolled(0, 3)
                    + " " + x.rolled(0, 4));
            due("1 2 0 4 1", () -> x.rolled(1, 0) + " " + x.rolled(1, 1) + " " + x.rolled(1, 2) + " " + x.rolled(1, 3)
                    + " " + x.rolled(1, 4));
            for (int i : new int[] {-1, 2, 200, MIN, MAX}) {
                noSuch(() -> x.rolled(i, 0));
            }
            for (int what : new int[] {-1, 5, MIN, MAX}) {
                noSuch(() -> x.rolled(0, what));
            }
            SnakeBoard full = on("last 10;goes 0;");
            full.rolls(1, 200);
            answers(() -> full.rolled(199, 4));
            noSuch(() -> full.rolled(200, 0));
        });
    }

    private static void fewest() {
        test(13, "THE FEWEST throws HOME from a SQUARE by FACES that have ODDS; the first such row of FACES", () -> {
            SnakeBoard x = on("last 12;die 1 1 0 0 0 0;exit 4 9;exit 10 1;");
            // 2, 4 to 9, 11, 12
            due("4 [2, 2, 2, 1]", () -> x.fewest(0) + " " + row(x));
            due("1 [1]", () -> x.fewest(11) + " " + row(x));
            SnakeBoard all = on("last 12;");
            due("2 [6, 6]", () -> all.fewest(0) + " " + row(all));
            due("2 [5, 6]", () -> all.fewest(1) + " " + row(all));
            due("1 [6]", () -> all.fewest(6) + " " + row(all));
            due("2 [1, 6]", () -> all.fewest(5) + " " + row(all));
            SnakeBoard third = on("last 10;goes 5;die 0 0 1 0 1 0;");
            due("2 [3, 3]", () -> third.fewest(0) + " " + row(third));
            SnakeBoard ones = on("last 100;die 1 0 0 0 0 0;");
            due(100, () -> ones.fewest(0));
            due("1 1", () -> ones.row(0) + " " + ones.row(99));
            noSuch(() -> ones.row(100));
        });
        test(13, "THE FEWEST; it is kept. NONE: there is no way (what is kept stays)", () -> {
            SnakeBoard x = on("last 12;die 0 0 1 0 0 1;");
            due("-1 []", () -> x.fewest(1) + " " + row(x));
            due("2 [6, 6]", () -> x.fewest(0) + " " + row(x));
            due("-1 [6, 6]", () -> x.fewest(1) + " " + row(x));
            noSuch(() -> x.fewest(13));
            due("[6, 6]", () -> row(x));
            due("0 []", () -> x.fewest(12) + " " + row(x));
        });
        test(14, "The i-th FACE of the row that is kept by fewest() or fits(). NoSuchElementException: none is kept, there is none",
                () -> {
            SnakeBoard x = on("last 12;");
            for (int i : new int[] {-1, 0, 1, MIN, MAX}) {
                noSuch(() -> x.row(i));
            }
            x.fewest(0);
            due("6 6", () -> x.row(0) + " " + x.row(1));
            for (int i : new int[] {-1, 2, 100, 101, MIN, MAX}) {
                noSuch(() -> x.row(i));
            }
            x.note(3);
            x.fits();
            due("[3]", () -> row(x));
            x.forget();
            due("[3]", () -> row(x));
            x.fits();
            noSuch(() -> x.row(0));
            x.fewest(6);
            due("[6]", () -> row(x));
        });
    }

    private static void neverLostRound() {
        test(15, "SQUARES 1 to LAST (10 to 100", () -> {
            // one stands on all there are, one behind the other, and stays on each
            SnakeBoard x = on("last 100;die 1 1 0 0 0 0;goes throw=1;");
            due("false false false", () -> x.never(1) + " " + x.never(99) + " " + x.never(100));
            due("100 [1]", () -> x.fewest(0) + " " + row(x).replace("1, ", ""));
            due("false 1 1", () -> x.lost(0) + " " + x.round(0) + " " + x.round(99));
            SnakeBoard round = on("last 100;exit 99 1;die 1 0 0 0 0 0;");
            due("true 98 98 -1", () -> round.never(100) + " " + round.round(1) + " " + round.round(98) + " " + round.round(0));
        });
        test(16, "LOST: SQUARES from which there is no way HOME", () -> {
            // whatever was asked ahead of it
            SnakeBoard x = on("last 12;" + SIXES);
            for (int i = 0; i < 2; i++) {
                due("false 2 -1 false", () -> x.never(6) + " " + x.fewest(0) + " " + x.round(0) + " " + x.lost(6));
                due("true true true -1", () -> x.never(5) + " " + x.lost(5) + " " + x.never(11) + " " + x.fewest(11));
            }
        });
        test(15, "Whether a SQUARE is one of NEVER (0 isn't)", () -> {
            due(false, () -> on("last 10;").never(0));
            due(false, () -> on("last 10;goes 1;").never(0));
            due(false, () -> on("last 10;goes 0;").never(0));
        });
        test(15, "NEVER: SQUARES at which nobody can stand who begins on 0, however it is thrown", () -> {
            SnakeBoard x = on("last 12;exit 3 5;exit 5 7;exit 9 1;");
            // 5 is a FOOT, but a HEAD too; 3 and 9 are FEET alone
            due("false true false true false", () -> x.never(1) + " " + x.never(3) + " " + x.never(5) + " " + x.never(9)
                    + " " + x.never(12));
            SnakeBoard six = on("last 12;" + SIXES);
            due("true false true false", () -> six.never(5) + " " + six.never(6) + " " + six.never(11) + " "
                    + six.never(12));
            due("true true", () -> on("last 12;goes 0;").never(1) + " " + on("last 12;goes 0;").never(12));
            due("true", () -> on("last 12;goes 7;").never(12) + "");
        });
        test(16, "LOST: SQUARES from which there is no way HOME", () -> {
            SnakeBoard six = on("last 12;" + SIXES);
            due("false true false true false", () -> six.lost(0) + " " + six.lost(1) + " " + six.lost(6) + " "
                    + six.lost(11) + " " + six.lost(12));
            due("true false", () -> on("goes 0;").lost(0) + " " + on("goes 0;").lost(36));
            due("false", () -> on("last 12;end in;" + SIXES).lost(11) + "");
        });
        test(17, "ROUND: the fewest throws (1 or more) by which one can be again on a SQUARE (1 of HOME); none", () -> {
            SnakeBoard x = on("last 12;exit 8 2;" + SIXES);
            due("-1 1 1", () -> x.round(0) + " " + x.round(2) + " " + x.round(12));
            due("1 1 -1", () -> x.round(7) + " " + x.round(11) + " " + x.round(6));
            // 2, 5, 2 ..; nobody comes to the FOOT 8
            SnakeBoard threes = on("last 12;exit 8 2;die 0 0 1 0 0 0;");
            due("2 2 -1", () -> threes.round(2) + " " + threes.round(5) + " " + threes.round(8));
            SnakeBoard long12 = on("last 12;die 1 0 0 0 0 0;exit 11 1;");
            due("10 10 -1 -1", () -> long12.round(1) + " " + long12.round(10) + " " + long12.round(0) + " "
                    + long12.round(11));
            SnakeBoard back = on("last 100;die 1 0 0 0 0 0;exit 99 1;");
            due(98, () -> back.round(50));
        });
    }

    private static void grains() {
        test(18, "From a SQUARE by n throws (0 to 400, as everywhere)", () -> {
            SnakeBoard x = on("last 12;exit 5 2;");
            for (int n : new int[] {-1, 401, MIN, MAX}) {
                bad(() -> x.grains(0, n, 0));
                bad(() -> x.grains(0, n, 1));
                bad(() -> x.grains(0, n, 2));
                bad(() -> x.stood(0, 0, n));
                bad(() -> x.first(0, 0, n, 0));
                bad(() -> x.matters(0, n));
                bad(() -> x.most(n));
                bad(() -> x.wanted(0, n));
                bad(() -> x.ended(0, n));
            }
            for (int n : new int[] {0, 400}) {
                answers(() -> x.grains(0, n, 0));
                answers(() -> x.stood(0, 0, n));
                answers(() -> x.first(0, 0, n, 0));
                answers(() -> x.matters(0, n));
                answers(() -> x.most(n));
                answers(() -> x.wanted(0, n));
                answers(() -> x.ended(0, n));
            }
        });
        test(18, "NoSuchElementException: another what. IllegalArgumentException (behind that): n", () -> {
            SnakeBoard x = on("last 12;");
            for (int what : new int[] {-1, 3, MIN, MAX}) {
                noSuch(() -> x.grains(0, 1, what));
                noSuch(() -> x.grains(0, 401, what));
            }
            noSuch(() -> x.grains(13, 401, 0));
            bad(() -> x.grains(12, 401, 2));
        });
        test(18, "OUT (what 0), LONG (1), HOME IN the n-th (2; by 0: 0)", () -> {
            SnakeBoard x = on("last 12;" + SIXES);
            due(GRAINS + " 0 0", () -> x.grains(0, 0, 0) + " " + x.grains(0, 0, 1) + " " + x.grains(0, 0, 2));
            due(GRAINS + " " + GRAINS + " 0", () -> x.grains(0, 1, 0) + " " + x.grains(0, 1, 1) + " " + x.grains(0, 1, 2));
            due("0 " + 2 * GRAINS + " " + GRAINS, () -> x.grains(0, 2, 0) + " " + x.grains(0, 2, 1) + " "
                    + x.grains(0, 2, 2));
            due("0 " + 2 * GRAINS + " 0", () -> x.grains(0, 3, 0) + " " + x.grains(0, 3, 1) + " " + x.grains(0, 3, 2));
            due("0 0 0", () -> x.grains(12, 0, 0) + " " + x.grains(12, 400, 1) + " " + x.grains(12, 1, 2));
            due(GRAINS + " " + 400 * GRAINS + " 0", () -> x.grains(7, 400, 0) + " " + x.grains(7, 400, 1) + " "
                    + x.grains(7, 400, 2));
        });
        test(18, "LONG by n throws: OUT behind 0, 1 .. n - 1, together", () -> {
            // half of it stays in each throw, cut down, to the last one: 1000000000 has 13 bits
            SnakeBoard x = on(COIN);
            due(2 * GRAINS - 13, () -> x.grains(9, 400, 1));
            due("1 0 1", () -> x.grains(9, 29, 0) + " " + x.grains(9, 30, 0) + " " + x.grains(9, 30, 2));
            due("1 0", () -> x.grains(9, 30, 1) - x.grains(9, 29, 1) + " " + (x.grains(9, 31, 1) - x.grains(9, 30, 1)));
        });
        test(18, "all by its ODDS, by all ODDS, cut down; to that of the least such FACE what is left of them", () -> {
            SnakeBoard x = on("last 20;die 0 0 2 0 3 2;");
            // 285714285.7, 428571428.5, 285714285.7
            due("285714287 428571428 285714285", () -> x.stood(0, 3, 1) + " " + x.stood(0, 5, 1) + " " + x.stood(0, 6, 1));
            SnakeBoard only = on("last 20;" + SIXES);
            due(GRAINS, () -> only.stood(0, 6, 1));
            // a half stays, cut up: of the last one nothing goes HOME, it stays for ever
            SnakeBoard few = on("last 10;die 1 1 0 0 0 0;goes throw=2;");
            due("2 1 1 0", () -> few.grains(9, 29, 0) + " " + few.grains(9, 30, 0) + " " + few.grains(9, 400, 0) + " "
                    + few.grains(9, 400, 2));
            // cut down it were 13 less than 2000000000; from the 10th to the 399th throw it is one more each
            due(2 * GRAINS - 13 + 390, () -> few.grains(9, 400, 1));
        });
        test(18, "OUT behind n throws: those that aren't HOME", () -> {
            SnakeBoard x = on("last 10;");
            // ahead of the board, on it, in a place from which there is no way
            due(GRAINS + " " + GRAINS + " 0", () -> x.grains(0, 0, 0) + " " + x.grains(9, 0, 0) + " " + x.grains(10, 0, 0));
            due(GRAINS - 166666670L, () -> x.grains(9, 1, 0));
            due(GRAINS - 166666666L, () -> x.grains(4, 1, 0));
            due(GRAINS, () -> on("last 12;" + SIXES).grains(7, 400, 0));
        });
        test(18, "those of each SQUARE but HOME are shared out", () -> {
            SnakeBoard x = on("last 12;goes 0-1;");
            due(5 * GRAINS, () -> x.stood(12, 12, 5));
            due(0, () -> x.grains(12, 5, 0));
        });
    }

    private static void stoodAndHalf() {
        test(19, "STOOD on a SQUARE by n throws: GRAINS there behind 1, 2 .. n, together", () -> {
            SnakeBoard x = on("last 12;" + SIXES);
            due("0 0 0", () -> x.stood(0, 0, 0) + " " + x.stood(0, 0, 1) + " " + x.stood(12, 12, 0));
            due("0 " + GRAINS + " " + GRAINS, () -> x.stood(0, 6, 0) + " " + x.stood(0, 6, 1) + " " + x.stood(0, 6, 400));
            due("0 " + GRAINS + " " + 399 * GRAINS, () -> x.stood(0, 12, 1) + " " + x.stood(0, 12, 2) + " "
                    + x.stood(0, 12, 400));
            due(400 * GRAINS, () -> x.stood(7, 7, 400));
            due(400 * GRAINS, () -> x.stood(12, 12, 400));
        });
        test(19, "STOOD on a SQUARE, from another one on", () -> {
            SnakeBoard x = on("last 12;");
            noSuch(() -> x.stood(13, 0, 401));
            noSuch(() -> x.stood(0, -1, 401));
            bad(() -> x.stood(0, 12, 401));
            due("166666670 166666666", () -> x.stood(3, 4, 1) + " " + x.stood(3, 9, 1));
        });
        test(20, "HALF: the least n (0 to 400) behind which OUT is no more than half of all; none", () -> {
            // behind one throw exactly half is HOME
            SnakeBoard coin = on(COIN);
            due("0 1", () -> coin.half(10) + " " + coin.half(9));
            // 555555555 and 308641975
            due(2, () -> on("last 10;die 4 5 0 0 0 0;").half(9));
            due(1, () -> on("last 10;die 5 4 0 0 0 0;").half(9));
            SnakeBoard six = on("last 12;" + SIXES);
            due("2 1 0 -1", () -> six.half(0) + " " + six.half(6) + " " + six.half(12) + " " + six.half(7));
            due(400, () -> on("last 60;die 1 9 9 5 0 0;goes throw=1;").half(43));
            due(-1, () -> on("last 60;die 2 9 9 7 0 0;goes throw=1;").half(30));
            due(-1, () -> on("goes 0;").half(0));
        });
    }

    private static void first() {
        test(21, "WHO IS FIRST: of the first one (what 0), the second (1), neither (2)", () -> {
            SnakeBoard x = on(COIN);
            due("500000000 250000000 250000000", () -> x.first(9, 9, 1, 0) + " " + x.first(9, 9, 1, 1) + " "
                    + x.first(9, 9, 1, 2));
            due("0 0 " + GRAINS, () -> x.first(9, 9, 0, 0) + " " + x.first(9, 9, 0, 1) + " " + x.first(9, 9, 0, 2));
            due("0 0 " + GRAINS, () -> x.first(10, 10, 9, 0) + " " + x.first(10, 10, 9, 1) + " "
                    + x.first(10, 10, 9, 2));
            due("0 0 " + GRAINS, () -> x.first(9, 10, 9, 0) + " " + x.first(10, 9, 9, 1) + " " + x.first(10, 9, 9, 2));
            SnakeBoard six = on("last 12;" + SIXES);
            due(GRAINS + " 0 0", () -> six.first(0, 0, 2, 0) + " " + six.first(0, 0, 2, 1) + " " + six.first(0, 0, 2, 2));
            due("0 " + GRAINS + " 0", () -> six.first(0, 6, 2, 0) + " " + six.first(0, 6, 2, 1) + " "
                    + six.first(0, 6, 2, 2));
            due("0 " + GRAINS, () -> six.first(0, 6, 400, 0) + " " + six.first(7, 6, 1, 1));
        });
        test(21, "of the second one likewise by those of the first OUT behind k; neither: what is left", () -> {
            SnakeBoard six = on("last 18;" + SIXES);
            // both need three: the first one is HOME when the second throws
            due("0 0 1000000000", () -> six.first(0, 0, 2, 0) + " " + six.first(0, 0, 2, 1) + " " + six.first(0, 0, 2, 2));
            due("1000000000 0 0", () -> six.first(0, 0, 3, 0) + " " + six.first(0, 0, 3, 1) + " " + six.first(0, 0, 3, 2));
            due("0 1000000000 0", () -> six.first(0, 6, 3, 0) + " " + six.first(0, 6, 3, 1) + " " + six.first(0, 6, 3, 2));
            due("0 0 1000000000", () -> six.first(7, 1, 400, 0) + " " + six.first(7, 1, 400, 1) + " "
                    + six.first(7, 1, 400, 2));
        });
        test(21, "of all k from 1 to n, together, by 1000000000, cut down", () -> {
            SnakeBoard x = on("last 10;die 1 1 1 0 0 0;");
            // 333333334 and 222222222 come HOME, 666666666 and 444444444 are OUT behind it
            due("333333334 222222222 444444444", () -> x.first(9, 9, 1, 0) + " " + x.first(9, 9, 1, 1) + " "
                    + x.first(9, 9, 1, 2));
            due("481481481 320987654 197530865", () -> x.first(9, 9, 2, 0) + " " + x.first(9, 9, 2, 1) + " "
                    + x.first(9, 9, 2, 2));
        });
        test(21, "NoSuchElementException: another what. IllegalArgumentException (behind that): n", () -> {
            SnakeBoard x = on(COIN);
            for (int what : new int[] {-1, 3, MIN, MAX}) {
                noSuch(() -> x.first(9, 9, 1, what));
                noSuch(() -> x.first(9, 9, 401, what));
            }
            noSuch(() -> x.first(11, 9, 401, 0));
            noSuch(() -> x.first(9, 11, -1, 0));
            bad(() -> x.first(9, 9, -1, 2));
        });
    }

    private static void mattering() {
        test(22, "how much LONG by n throws from 0 would be more without it (below 0: less)", () -> {
            // 0, 12 (from 6), 13 (from 18), 19, 25, HOME
            SnakeBoard x = on("last 30;" + SIXES + "end in;exit 6 12;exit 18 13;exit 5 9;");
            due(GRAINS + " " + -GRAINS + " 0", () -> x.matters(0, 9) + " " + x.matters(1, 9) + " " + x.matters(2, 9));
            due("0 0", () -> x.matters(0, 0) + " " + x.matters(1, 0));
            due("0 0", () -> x.matters(0, 5) + " " + x.matters(1, 4));
            due(-GRAINS, () -> x.matters(1, 5));
            noSuch(() -> x.matters(3, 401));
            noSuch(() -> x.matters(-1, -1));
            bad(() -> x.matters(2, 401));
        });
        test(22, "how much LONG by n throws from 0 would be more without it", () -> {
            // a FOOT less is counted by 'exits' too: without it one stands still
            due(3 * GRAINS, () -> on("last 12;exit 11 1;goes exits*6;").matters(0, 5));
        });
        test(23, "THE MOST: that of which it is farthest from 0, of like ones the least", () -> {
            due(0, () -> on("last 30;" + SIXES + "end in;exit 6 12;exit 18 13;").most(9));
            due(0, () -> on("last 30;" + SIXES + "end in;exit 18 13;exit 6 12;").most(9));
            due(2, () -> on("last 30;" + SIXES + "end in;exit 5 4;exit 6 12;exit 18 7;").most(9));
            due(1, () -> on("last 30;" + SIXES + "end in;exit 18 13;exit 6 30;").most(9));
            due(0, () -> on("last 30;" + SIXES + "exit 5 4;exit 4 5;").most(9));
            due(0, () -> on("last 30;" + SIXES + "exit 5 4;exit 6 12;").most(0));
        });
        test(23, "THE MOST: the EXIT; NONE: there are none", () -> {
            due(-1, () -> new SnakeBoard().most(5));
            due(-1, () -> new SnakeBoard().most(0));
            due(0, () -> on("exit 1 2;").most(5));
            bad(() -> new SnakeBoard().most(401));
            bad(() -> new SnakeBoard().most(-1));
        });
    }

    private static void wanted() {
        test(24, "is nearest to it, of as near ones the least FOOT, then the least HEAD", () -> {
            SnakeBoard x = on("last 12;" + SIXES);
            // LONG is one by the EXIT 6 to 12, five by those from 6 that go round, else two
            due(13 + 2, () -> x.wanted(2 * GRAINS, 5));
            due(13 * 6 + 12, () -> x.wanted(GRAINS, 5));
            due(13 * 6 + 12, () -> x.wanted(0, 5));
            due(13 * 6 + 12, () -> x.wanted(GRAINS + GRAINS / 2 - 1, 5));
            due(13 + 2, () -> x.wanted(GRAINS + GRAINS / 2, 5));
            due(13 + 2, () -> x.wanted(GRAINS + GRAINS / 2 + 1, 5));
            due(13 * 6 + 1, () -> x.wanted(Long.MAX_VALUE, 5));
            due(13 + 2, () -> x.wanted(7, 0));
        });
        test(24, "all EXITS that could be laid (a FOOT that is none yet, a HEAD that isn't it; none, if there are 24)", () -> {
            // 0, 11, HOME
            SnakeBoard last = on("last 12;end in;goes 11;");
            due(13 * 11 + 12, () -> last.wanted(GRAINS, 5));
            due(13 * 2 + 1, () -> on("last 12;exit 1 3;" + SIXES).wanted(2 * GRAINS, 5));
            due(13 + 2, () -> on("last 12;exit 6 12;" + SIXES).wanted(2 * GRAINS, 5));
            StringBuilder text = new StringBuilder("last 40;" + SIXES);
            for (int foot = 1; foot <= 23; foot++) {
                text.append("exit ").append(foot).append(" 40;");
            }
            due(41 * 24 + 1, () -> on(text.toString()).wanted(0, 1));
            due(-1, () -> on(text + "exit 39 40;").wanted(0, 1));
        });
        test(24, "of all EXITS that could be laid", () -> {
            // each alone: 0, 6, 12 to 1, 7, 13, 19, HOME
            due(21 * 12 + 1, () -> on("last 20;end in;" + SIXES).wanted(6 * GRAINS, 10));
            // beside those that are, whatever was asked ahead of it: 0, 6 to 1, 7 to HOME
            SnakeBoard x = on("last 12;end in;exit 6 1;" + SIXES);
            due(-GRAINS, () -> x.matters(0, 9));
            due(13 * 7 + 12, () -> x.wanted(2 * GRAINS, 9));
            due("0 " + 3 * GRAINS, () -> x.most(9) + " " + x.ended(2, 9));
            due(13 * 7 + 12, () -> x.wanted(2 * GRAINS, 9));
            // the FOOT that is laid is counted by 'exits'
            due(13 * 7 + 1, () -> on("last 12;goes exits*6;").wanted(2 * GRAINS, 3));
        });
        test(24, "it is told as LAST and 1 by FOOT, and HEAD", () -> {
            due(41 + 2, () -> on("last 40;").wanted(0, 0));
            due(37 + 2, () -> new SnakeBoard().wanted(0, 0));
            due(11 + 2, () -> on("last 10;").wanted(0, 0));
        });
        test(24, "SPENT: LAST is above 40, n above 60", () -> {
            due(41 + 2, () -> on("last 40;").wanted(0, 1));
            due(-2, () -> on("last 41;").wanted(0, 1));
            due(-2, () -> on("last 100;").wanted(0, 0));
            SnakeBoard x = on("last 12;" + SIXES);
            due(13 + 2, () -> x.wanted(2 * GRAINS, 60));
            due(-2, () -> x.wanted(2 * GRAINS, 61));
            due(-2, () -> x.wanted(2 * GRAINS, 400));
        });
        test(24, "WANTED; -2: SPENT; NONE: none can be laid. IllegalArgumentException: also the LONG is below 0", () -> {
            SnakeBoard x = on("last 12;");
            bad(() -> x.wanted(-1, 5));
            bad(() -> x.wanted(Long.MIN_VALUE, 5));
            bad(() -> x.wanted(-1, 401));
            bad(() -> x.wanted(-1, 61));
            bad(() -> x.wanted(5, 401));
            bad(() -> on("last 41;").wanted(-1, 5));
            bad(() -> on("last 41;").wanted(5, -1));
        });
    }

    private static void ahead() {
        test(25, "AHEAD with n throws to come: 0 on HOME, or if n is 0; else 1000000000", () -> {
            SnakeBoard x = on(COIN);
            due("0 0 0", () -> x.ahead(10, 0) + " " + x.ahead(10, 1) + " " + x.ahead(10, 100));
            due("0 0", () -> x.ahead(0, 0) + " " + x.ahead(9, 0));
            due(GRAINS + " " + GRAINS, () -> x.ahead(0, 1) + " " + x.ahead(9, 1));
            due("1250000000 1312500000", () -> x.ahead(9, 2) + " " + x.ahead(9, 3));
            due(1333333333L, () -> x.ahead(9, 100));
            due(100 * GRAINS, () -> on("goes 0;").ahead(0, 100));
        });
        test(25, "their ODDS multiplied by the less of what is AHEAD with n - 1 from where both lead, together, by the square"
                + " of all ODDS, cut down", () -> {
            SnakeBoard x = on("last 10;die 2 1 0 0 0 0;");
            // of nine pairs only the two 2 don't lead HOME from 9
            due("1111111111 1123456790", () -> x.ahead(9, 2) + " " + x.ahead(9, 3));
            SnakeBoard worn = on("last 10;die 0 9 0 0 0 9;end in;");
            due("1250000000 1000000000", () -> worn.ahead(6, 3) + " " + worn.ahead(9, 9));
            due(100 * GRAINS, () -> on("die 3 0 2 0 9 9;goes 0;").ahead(0, 100));
            // from 8 by 2, 3 and 4: the 2 leads HOME, the 3 and 4 stay; 9 by 9 pairs, 16 of them and 24 and 9 stay
            due(GRAINS + 49 * GRAINS / 81, () -> on("last 10;die 0 2 4 3 0 0;").ahead(8, 2));
        });
        test(25, "IllegalArgumentException (behind NoSuchElementException): n is not 0 to 100", () -> {
            SnakeBoard x = on(COIN);
            for (int n : new int[] {-1, 101, 400, MIN, MAX}) {
                bad(() -> x.ahead(0, n));
                bad(() -> x.together(0, 0, n));
                noSuch(() -> x.ahead(11, n));
                noSuch(() -> x.together(11, 0, n));
                noSuch(() -> x.together(0, -1, n));
            }
        });
        test(25, "0 on HOME, or if n is 0", () -> {
            // on another board behind one on which much is AHEAD of all, and TOGETHER of all pairs
            SnakeBoard x = on("last 20;goes 0;");
            due(100 * GRAINS + " " + 60 * GRAINS, () -> x.ahead(0, 100) + " " + x.together(0, 0, 60));
            readOn(x, COIN);
            due("0 1250000000 0 1333333333", () -> x.ahead(10, 1) + " " + x.ahead(9, 2) + " " + x.ahead(9, 0) + " "
                    + x.ahead(9, 100));
            readOn(x, "last 20;goes 0;");
            due(60 * GRAINS, () -> x.together(0, 0, 60));
            readOn(x, "last 12;" + SIXES);
            due("0 " + 4 * GRAINS + " 0", () -> x.together(12, 12, 1) + " " + x.together(0, 0, 60) + " "
                    + x.together(0, 0, 0));
        });
        test(26, "the first one, unless the second leads to where less is AHEAD with n - 1", () -> {
            SnakeBoard x = on(COIN);
            due("1 1", () -> x.choose(9, 1, 2, 2) + " " + x.choose(9, 2, 1, 2));
            // with none to come behind it all is alike
            due("1 2", () -> x.choose(9, 1, 2, 1) + " " + x.choose(9, 2, 1, 1));
            due("3 6", () -> x.choose(9, 3, 6, 9) + " " + x.choose(9, 6, 3, 9));
            due("3 6", () -> x.choose(10, 3, 6, 9) + " " + x.choose(10, 6, 3, 9));
            due("5 5", () -> x.choose(5, 5, 2, 100) + " " + x.choose(5, 2, 5, 100));
        });
        test(26, "THE CHOICE between two FACES with n throws to come (this one too)", () -> {
            // a 6 leads from 0 to 6, from which one throw more leads HOME, a 1 to where there is no way
            SnakeBoard x = on("last 12;" + SIXES);
            due("1 1 6 6", () -> x.choose(0, 1, 6, 1) + " " + x.choose(0, 1, 6, 2) + " " + x.choose(0, 1, 6, 3) + " "
                    + x.choose(0, 1, 6, 100));
            due("6 6 6", () -> x.choose(0, 6, 1, 1) + " " + x.choose(0, 6, 1, 2) + " " + x.choose(0, 6, 1, 3));
            due("1 6", () -> x.choose(6, 1, 6, 1) + " " + x.choose(6, 1, 6, 2));
        });
        test(26, "IllegalArgumentException (behind NoSuchElementException): n is not 1 to 100", () -> {
            SnakeBoard x = on(COIN);
            for (int n : new int[] {-1, 0, 101, MIN, MAX}) {
                bad(() -> x.choose(0, 1, 1, n));
                bad(() -> x.whom(0, 0, 1, n));
                noSuch(() -> x.choose(11, 1, 1, n));
                noSuch(() -> x.choose(0, 0, 1, n));
                noSuch(() -> x.choose(0, 1, 7, n));
                noSuch(() -> x.whom(11, 0, 1, n));
                noSuch(() -> x.whom(0, -1, 1, n));
                noSuch(() -> x.whom(0, 0, 7, n));
            }
            answers(() -> x.choose(0, 1, 1, 1));
            answers(() -> x.choose(0, 1, 1, 100));
        });
    }

    private static void lookedAt() {
        test(27, "THE DIE is looked at by FACES that were thrown in the GAME: how often each was", () -> {
            // of all PIECES, FACES without ODDS too; a new GAME begins at 0
            SnakeBoard x = on("last 10;goes 0;pieces 4;die 0 0 0 0 0 1;");
            x.roll(1);
            x.roll(1);
            x.rolls(1, 3);
            due("2 3", () -> x.often(1) + " " + x.often(6));
            readOn(x, "last 10;");
            due("0 0 -1 0 1", () -> x.often(1) + " " + x.often(6) + " " + x.worn() + " " + x.unlike(0) + " " + x.unlike(1));
        });
        test(27, "How often a FACE was thrown in the GAME", () -> {
            SnakeBoard x = on("last 10;goes 0;");
            due(0, () -> x.often(1));
            for (int i = 0; i < 100; i++) {
                x.roll(1);
                x.roll(6);
            }
            due("100 0 100", () -> x.often(1) + " " + x.often(2) + " " + x.often(6));
            x.undo();
            due("100 99", () -> x.often(1) + " " + x.often(6));
        });
        test(28, "as a fraction in lowest terms (0 by 1 without throws)", () -> {
            SnakeBoard x = on("last 10;goes 0;die 1 9 9 9 9 9;");
            due("0 1", () -> x.unlike(0) + " " + x.unlike(1));
            for (int i = 0; i < 200; i++) {
                x.roll(1);
            }
            // 200 by 46, less 1
            due("9000 1", () -> x.unlike(0) + " " + x.unlike(1));
            SnakeBoard true2 = on("last 10;goes 0;die 0 1 0 0 1 0;");
            true2.roll(2);
            true2.roll(5);
            due("0 1", () -> true2.unlike(0) + " " + true2.unlike(1));
            true2.undo();
            due("1 1", () -> true2.unlike(0) + " " + true2.unlike(1));
            true2.undo();
            due("0 1", () -> true2.unlike(0) + " " + true2.unlike(1));
        });
        test(28, "of all FACES with ODDS the squares", () -> {
            // 2: 5 - 8 is -3, 3: 10 - 12 is -2; 9 by 2 and 4 by 3 are 35 by 6, by 20
            SnakeBoard worn = on("die 0 2 3 0 0 0;");
            for (int face : new int[] {3, 3, 2, 1}) {
                worn.roll(face);
            }
            due("7 24", () -> worn.unlike(0) + " " + worn.unlike(1));
            // ODDS 5 to 9: (35 - 5)^2 by 5, 6, 7, 8 and 9: 180 and 35, by 35
            SnakeBoard high = on("die 5 6 7 8 9 0;");
            high.roll(1);
            due("6 1", () -> high.unlike(0) + " " + high.unlike(1));
            high.roll(5);
            // (35 - 10)^2 by 5, 12^2 by 6, 14^2 by 7, 16^2 by 8, (35 - 18)^2 by 9, by 70
            due("31 9", () -> high.unlike(0) + " " + high.unlike(1));
        });
        test(28, "HOW UNLIKE: the upper part (what 0), the lower one (1). NoSuchElementException: another what", () -> {
            SnakeBoard x = new SnakeBoard();
            for (int what : new int[] {-1, 2, MIN, MAX}) {
                noSuch(() -> x.unlike(what));
            }
            x.roll(1);
            noSuch(() -> x.unlike(2));
        });
        test(29, "WORN; NONE: nothing was thrown", () -> {
            SnakeBoard x = new SnakeBoard();
            due(-1, () -> x.worn());
            x.roll(6);
            due(6, () -> x.worn());
            x.undo();
            due(-1, () -> x.worn());
        });
        test(29, "how often by all ODDS, less all throws by its ODDS, greatest, of like ones the least FACE", () -> {
            SnakeBoard even = on("goes 0;die 1 1 0 0 0 0;");
            even.roll(1);
            due(1, () -> even.worn());
            even.roll(2);
            due(1, () -> even.worn());
            even.roll(2);
            due(2, () -> even.worn());
            SnakeBoard x = on("goes 0;die 1 2 1 1 1 2;");
            x.roll(2);
            x.roll(6);
            due(2, () -> x.worn());
            x.roll(5);
            // 8 less 3 is more than 8 less 6
            due(5, () -> x.worn());
            x.roll(3);
            due(3, () -> x.worn());
            x.roll(6);
            // 8 - 5 and 16 - 10
            due(6, () -> x.worn());
        });
    }

    private static void noted() {
        test(30, "NOTED: a SQUARE (NONE: a gap): how many are. NONE (STATUS 2): there are 40, it is none", () -> {
            SnakeBoard x = on("last 10;");
            due("1 2 3", () -> x.note(0) + " " + x.note(10) + " " + x.note(-1));
            for (int square : new int[] {11, -2, 36, MIN, MAX}) {
                due(-1, () -> x.note(square));
            }
            due("0 0 5", () -> status(x));
            due(3, () -> x.count(8));
            for (int many = 4; many <= 40; many++) {
                due(many, () -> x.note(0));
            }
            due("-1 -1 -1", () -> x.note(0) + " " + x.note(-1) + " " + x.note(11));
            due("0 0 8", () -> status(x));
            due(40, () -> x.count(8));
            due(39, () -> x.forget());
            due(40, () -> x.note(-1));
        });
        test(30, "NOTED are SQUARES (at most 40) of one PIECE, from 0 on, behind each throw one, or a gap", () -> {
            // they hang on no GAME: one may be noted behind any throw
            SnakeBoard x = on("last 10;");
            x.note(6);
            x.roll(1);
            due(2, () -> x.note(10));
            x.undo();
            due("2 -1", () -> x.count(8) + " " + x.cannot());
            due(0, () -> noting("last 10;", 7).cannot());
            due("-1 -1", () -> noting("last 10;", 1).cannot() + " " + noting("last 10;", 6).cannot());
        });
        test(31, "What was NOTED last is forgotten: how many are left. NONE: there is none", () -> {
            SnakeBoard x = on("last 10;");
            due(-1, () -> x.forget());
            x.note(1);
            x.note(9);
            due(1, () -> x.cannot());
            due("1 -1", () -> x.forget() + " " + x.cannot());
            due("0 -1", () -> x.forget() + " " + x.forget());
            due("0 0 0", () -> status(x));
            for (int i = 0; i < 40; i++) {
                x.note(0);
            }
            due(39, () -> x.forget());
        });
    }

    private static SnakeBoard noting(String text, int... squares) {
        SnakeBoard x = on(text);
        for (int square : squares) {
            x.note(square);
        }
        return x;
    }

    private static void cannotFitsLess() {
        test(32, "CAN'T BE: the first (0 on); NONE: all can", () -> {
            due(-1, () -> noting("last 10;").cannot());
            due(-1, () -> noting("last 10;", 6, 7, 10, 10).cannot());
            due(0, () -> noting("last 10;", 7).cannot());
            due(0, () -> noting("last 10;", 0, 0).cannot());
            due(1, () -> noting("last 10;", 6, 5, 4).cannot());
            due(2, () -> noting("last 10;", 6, 10, 9).cannot());
            int[] ones = new int[40];
            for (int i = 0; i < 39; i++) {
                ones[i] = i + 1;
            }
            ones[39] = 39;
            due(39, () -> noting("last 100;", ones).cannot());
        });
        test(32, "by any FACE with ODDS (asked of those without a gap ahead)", () -> {
            due(-1, () -> noting("last 10;", -1, 0).cannot());
            due(-1, () -> noting("last 10;", 3, -1, 1).cannot());
            due(3, () -> noting("last 10;", 3, -1, 1, 0).cannot());
            due(-1, () -> noting("last 10;", -1, -1, -1).cannot());
            due(0, () -> noting("last 12;" + SIXES, 5).cannot());
            due(-1, () -> noting("last 12;" + SIXES, 6, 12, 12).cannot());
            due(0, () -> noting("last 10;exit 3 7;", 3).cannot());
            due(-1, () -> noting("last 10;exit 3 7;", 7).cannot());
        });
        test(33, "in how many ways FACES (with ODDS) could have been thrown so that all NOTED is so", () -> {
            due("1 []", () -> fits(noting("last 10;")));
            due("1 [4]", () -> fits(noting("last 10;", 4)));
            due("6 [1]", () -> fits(noting("last 10;", -1)));
            due("3 [1, 3]", () -> fits(noting("last 10;", -1, 4)));
            due("0 []", () -> fits(noting("last 10;", 7)));
            due("0 []", () -> fits(noting("last 10;", -1, 0)));
            due("2 [1, 2]", () -> fits(noting("last 10;die 1 1 0 0 1 0;", -1, 3)));
            due("1 [6, 6, 6]", () -> fits(noting("last 12;" + SIXES, -1, 12, -1)));
        });
        test(33, "(10 to the power of 18, if they are more)", () -> {
            long most = 1000000000000000000L;
            // each of 18 steps in 2 ways, each of 18 throws behind them in 5
            String text = "last 100;die 1 1 1 1 1 0;goes (at<18)*(throw<3);";
            int[] squares = new int[36];
            for (int i = 0; i < 36; i++) {
                squares[i] = Math.min(i + 1, 18);
            }
            SnakeBoard x = noting(text, squares);
            due(most, () -> x.fits());
            x.note(-1);
            due(most, () -> x.fits());
            x.forget();
            x.forget();
            due(most / 5, () -> x.fits());
            int[] gaps = new int[40];
            java.util.Arrays.fill(gaps, -1);
            due(most, () -> noting("", gaps).fits());
            due(1L << 40, () -> noting("die 1 1 0 0 0 0;", gaps).fits());
            due(most, () -> noting("die 1 1 1 0 0 0;", gaps).fits());
            due(1L, () -> noting(SIXES, gaps).fits());
        });
        test(33, "FITS: in how many ways; the first row is kept, if there is one", () -> {
            SnakeBoard x = noting("last 20;exit 5 12;die 1 2 1 0 3 0;", -1, 12);
            due("2 [2, 3]", () -> fits(x));
            x.note(20);
            due("0 [2, 3]", () -> fits(x));
            x.forget();
            x.forget();
            x.forget();
            due("1 []", () -> fits(x));
            int[] gaps = new int[40];
            java.util.Arrays.fill(gaps, -1);
            SnakeBoard full = noting("die 0 0 1 1 0 0;", gaps);
            full.fits();
            due("3 3", () -> full.row(0) + " " + full.row(39));
            noSuch(() -> full.row(40));
        });
        test(34, "(without a gap ahead) can't come so, but would, were 'throw' one less than a FACE with ODDS", () -> {
            due(0, () -> noting("last 10;").less());
            due(0, () -> noting("last 10;", 1, 7).less());
            due(0, () -> noting("last 10;", 7).less());
            due(0, () -> noting("last 10;die 1 1 1 1 1 0;", 6).less());
            due(1, () -> noting("last 10;die 0 0 0 1 0 0;", 3).less());
            due(0, () -> noting("last 10;die 0 0 0 1 0 0;", 4).less());
            due(0, () -> noting("last 10;die 0 0 0 1 0 0;", 5).less());
            due(3, () -> noting("last 10;" + SIXES, 5, 10, -1, 5, 10).less());
            due(0, () -> noting("last 10;" + SIXES, -1, 5).less());
        });
        test(34, "(0 for 1; all else likewise)", () -> {
            due(1, () -> noting("last 10;", 0).less());
            due(2, () -> noting("last 10;", 0, 0, 1).less());
            due(0, () -> noting("last 10;die 0 1 1 1 1 1;", 0).less());
            due(1, () -> noting("last 10;die 0 1 1 1 1 1;", 1).less());
            // by a 0 one comes to the FOOT where one was
            due(1, () -> noting("last 10;exit 4 2;exit 2 4;", 4, 2).less());
            due(1, () -> noting("last 10;goes throw+9;", 0, 9).less());
            due(0, () -> noting("last 10;", 4, 10, 9).less());
            int[] ones = new int[40];
            due(40, () -> noting("last 10;", ones).less());
        });
    }

    private static String fits(SnakeBoard x) {
        return x.fits() + " " + row(x);
    }

    private static void drawn() {
        test(35, "each a DRAW of LAST less 1, and 1, for the FOOT, a DRAW of LAST, and 1, for the HEAD", () -> {
            SnakeBoard x = new SnakeBoard();
            due(1, () -> x.draw(23, 100, 1));
            due("5 100", () -> x.exit(0, 0) + " " + x.exit(0, 1));
            due(22, () -> x.draw(-5, 100, 24));
            due("55 12 77 4", () -> x.exit(0, 0) + " " + x.exit(0, 1) + " " + x.exit(21, 0) + " " + x.exit(21, 1));
            due(1, () -> x.draw(0, 100, 1));
            due("1 69", () -> x.exit(0, 0) + " " + x.exit(0, 1));
        });
        test(35, "where the FOOT is one already, or the HEAD is the FOOT, there is none by this draw", () -> {
            SnakeBoard x = new SnakeBoard();
            // 9 and 9
            due(0, () -> x.draw(1, 10, 1));
            due(0, () -> x.count(1));
            // 5 and 2, 5 and 8
            due(1, () -> x.draw(78, 10, 2));
            due("5 2", () -> x.exit(0, 0) + " " + x.exit(0, 1));
            noSuch(() -> x.exit(1, 0));
            due(9, () -> x.draw(0, 10, 24));
            due("6 5", () -> x.exit(8, 0) + " " + x.exit(8, 1));
        });
        test(35, "LAST and n EXITS (0 to 24) are drawn in place of what is (all else as without, but THE DIE stays)", () -> {
            SnakeBoard x = on("last 20;die 3 1 0 1 1 9;exit 2 9;end in;again 2;meet;pieces 3;goes 0;");
            due(0, () -> x.draw(5, 10, 0));
            due("last 10;die 3 1 0 1 1 9;end stay;pieces 2;", () -> writtenOf(x));
            due("0 0 turn 0 throws 0", () -> game(x));
            due("6 9", () -> x.goes(0, 6) + " " + x.goes(8, 1));
            due(2, () -> x.goes(0, 2));
        });
        test(35, "how many EXITS it has. What is NOTED, rows that are kept, the image are gone", () -> {
            SnakeBoard x = busy();
            x.note(13);
            x.feed(0, 0, 0, 0, 0);
            due(5, () -> x.draw(0, 10, 6));
            due("0 20 0 0 1", () -> x.count(8) + " " + x.count(9) + " " + status(x));
            noSuch(() -> x.row(0));
            due(false, () -> x.restore());
            due("0 0 turn 0 throws 0", () -> game(x));
            due("-1 -1", () -> x.forget() + " " + x.undo());
        });
        test(35, "IllegalArgumentException: LAST, n (nothing changes)", () -> {
            SnakeBoard x = busy();
            String before = all(x);
            for (int last : new int[] {9, 101, 0, -1, MIN, MAX}) {
                bad(() -> x.draw(1, last, 3));
            }
            for (int exits : new int[] {-1, 25, MIN, MAX}) {
                bad(() -> x.draw(1, 20, exits));
            }
            due(before, () -> all(x));
            due(true, () -> x.restore());
            due(0, () -> x.draw(1, 10, 0));
            due(10, () -> x.count(0));
            answers(() -> x.draw(1, 100, 24));
            due(100, () -> x.count(0));
        });
    }

    private static void ended() {
        test(36, "BY ANOTHER END: LONG by n throws from 0, were THE END that one", () -> {
            SnakeBoard x = on("last 10;" + SIXES + "exit 9 2;end back;");
            due(5 * GRAINS + " " + 5 * GRAINS + " " + 2 * GRAINS, () -> x.ended(0, 5) + " " + x.ended(1, 5) + " "
                    + x.ended(2, 5));
            due("0 0 0", () -> x.ended(0, 0) + " " + x.ended(1, 0) + " " + x.ended(2, 0));
            due("1 8", () -> x.count(3) + " " + x.goes(6, 6));
            // 0, 6, 8 and by the 9 to 2, 8, 6 ..: the exits are laid there too
            SnakeBoard y = on("last 10;die 0 0 0 0 1 0;exit 5 8;exit 7 10;");
            due("400000000000 2000000000 2000000000", () -> y.ended(0, 400) + " " + y.ended(1, 400) + " "
                    + y.ended(2, 400));
        });
        test(36, "BY ANOTHER END (0 to 2). NoSuchElementException: no such one. IllegalArgumentException (behind that): n", () -> {
            SnakeBoard x = on("last 10;");
            for (int end : new int[] {-1, 3, MIN, MAX}) {
                noSuch(() -> x.ended(end, 5));
                noSuch(() -> x.ended(end, 401));
            }
            bad(() -> x.ended(0, 401));
            bad(() -> x.ended(2, -1));
        });
    }

    private static void pairs() {
        test(37, "TOGETHER with n throws to come: 0, if both are HOME, or n is 0; else 1000000000", () -> {
            SnakeBoard x = on("last 12;" + SIXES);
            due("0 0 0", () -> x.together(12, 12, 0) + " " + x.together(12, 12, 1) + " " + x.together(12, 12, 60));
            due("0 0", () -> x.together(0, 0, 0) + " " + x.together(12, 0, 0));
            due(GRAINS + " " + GRAINS, () -> x.together(0, 0, 1) + " " + x.together(12, 11, 1));
            due(3 * GRAINS + " " + 4 * GRAINS + " " + 4 * GRAINS, () -> x.together(0, 0, 3) + " " + x.together(0, 0, 4)
                    + " " + x.together(0, 0, 60));
        });
        test(37, "(with the other one, if one is HOME)", () -> {
            // who is HOME can't go in place of the other, who falls
            SnakeBoard trap = on("last 12;exit 6 1;" + SIXES);
            due("5000000000 5000000000", () -> trap.together(12, 0, 5) + " " + trap.together(0, 12, 5));
            due("1000000000 1000000000", () -> trap.together(6, 12, 5) + " " + trap.together(12, 6, 5));
            SnakeBoard stay = on("last 12;" + SIXES);
            due("60000000000 60000000000", () -> stay.together(12, 7, 60) + " " + stay.together(7, 12, 60));
        });
        test(37, "gone with the one or the other, together, by all ODDS, cut down", () -> {
            // with 9 and HOME two thirds of the throws stay; with n to come: 1, 1 and 2/3 ..
            SnakeBoard x = on("last 10;die 1 1 1 0 0 0;");
            due("1000000000 1666666666 2111111110", () -> x.together(9, 10, 1) + " " + x.together(9, 10, 2) + " "
                    + x.together(9, 10, 3));
            SnakeBoard wide = on("last 40;end in;" + SIXES);
            due("1000000000 2000000000", () -> wide.together(40, 39, 60) + " " + wide.together(39, 38, 60));
            SnakeBoard worn = on(COIN + "exit 9 1;");
            // from 8 a 2 leads HOME, a 1 to 1
            due(2 * GRAINS, () -> worn.together(8, 8, 2));
            due("1500000000 2750000000 3750000000", () -> worn.together(8, 10, 2) + " " + worn.together(8, 8, 3) + " "
                    + worn.together(8, 7, 4));
        });
        test(37, "SPENT: LAST is above 40, n above 60.", () -> {
            due(GRAINS, () -> on("last 40;").together(0, 0, 1));
            due(-2, () -> on("last 41;").together(0, 0, 1));
            due(-2, () -> on("last 41;").together(41, 41, 0));
            SnakeBoard x = on("last 12;" + SIXES);
            due(4 * GRAINS, () -> x.together(0, 0, 60));
            due(-2, () -> x.together(0, 0, 61));
            due(-2, () -> x.together(12, 12, 100));
            due(0, () -> x.whom(0, 0, 6, 60));
            due(-2, () -> x.whom(0, 0, 6, 61));
            due(-2, () -> x.whom(0, 0, 6, 100));
            due(0, () -> on("last 40;").whom(0, 0, 1, 1));
            due(-2, () -> on("last 41;").whom(0, 0, 1, 1));
        });
        test(37, "TOGETHER; -2: SPENT. IllegalArgumentException (behind NoSuchElementException): n is not 0 to 100", () -> {
            SnakeBoard x = on("last 41;");
            for (int n : new int[] {-1, 101, MIN, MAX}) {
                bad(() -> x.together(0, 0, n));
                noSuch(() -> x.together(42, 0, n));
                noSuch(() -> x.together(0, 42, n));
            }
            due("-2 -2", () -> x.together(0, 0, 0) + " " + x.together(0, 0, 100));
        });
        test(38, "the first one (0), unless less is TOGETHER with n - 1 by the second (1), or the first one is HOME", () -> {
            SnakeBoard x = on("last 12;" + SIXES);
            due("0 0", () -> x.whom(0, 0, 6, 9) + " " + x.whom(0, 6, 6, 9));
            due("1 0", () -> x.whom(12, 0, 6, 1) + " " + x.whom(0, 12, 6, 1));
            // a 1 leads from 8 to 1
            SnakeBoard trap = on(COIN + "exit 9 1;");
            due("1 0", () -> trap.whom(8, 7, 1, 9) + " " + trap.whom(7, 8, 1, 9));
            due("0 0", () -> trap.whom(8, 7, 1, 1) + " " + trap.whom(8, 8, 1, 9));
            // with two to come behind it both are 2000000000, with three 3000000000 and 2750000000
            due("0 0 1", () -> trap.whom(8, 7, 1, 2) + " " + trap.whom(8, 7, 1, 3) + " " + trap.whom(8, 7, 1, 4));
            due("1 0", () -> trap.whom(10, 8, 1, 9) + " " + trap.whom(8, 10, 1, 9));
        });
        test(38, "WHOM; NONE: both are HOME; -2: SPENT (ahead of that)", () -> {
            due(-1, () -> on("last 40;").whom(40, 40, 1, 60));
            due(-2, () -> on("last 40;").whom(40, 40, 1, 61));
            due(-2, () -> on("last 41;").whom(41, 41, 1, 60));
            due(-2, () -> on("last 41;").whom(41, 0, 1, 1));
        });
        test(38, "IllegalArgumentException (behind NoSuchElementException): n is not 1 to 100", () -> {
            SnakeBoard x = on("last 41;");
            for (int n : new int[] {-1, 0, 101, MIN, MAX}) {
                bad(() -> x.whom(0, 0, 1, n));
                bad(() -> x.whom(41, 41, 1, n));
                noSuch(() -> x.whom(0, 0, 0, n));
                noSuch(() -> x.whom(42, 0, 1, n));
            }
            due("-2 -2", () -> x.whom(0, 0, 1, 1) + " " + x.whom(0, 0, 1, 100));
        });
    }

    private static void written() {
        test(39, "The i-th byte of what is WRITTEN; how many there are (i NONE). NoSuchElementException: there is none", () -> {
            SnakeBoard x = new SnakeBoard();
            due(42, () -> x.written(-1));
            due("l;", () -> "" + (char) x.written(0) + (char) x.written(41));
            for (int i : new int[] {42, 43, 1400, -2, MIN, MAX}) {
                noSuch(() -> x.written(i));
            }
        });
        test(39, "'again', if there is one, 'meet', if it was told, 'pieces', 'goes', if it was told, in this order", () -> {
            due("last 36;die 1 1 1 1 1 1;end stay;pieces 2;", () -> writtenOf(on("pieces 2;end stay;")));
            due("last 36;die 1 1 1 1 1 1;end stay;pieces 2;goes throw;", () -> writtenOf(on("goes throw;")));
            due("last 100;die 9 0 1 0 0 0;exit 99 100;exit 1 10;end back;again 1;meet;pieces 4;goes 1;",
                    () -> writtenOf(on("last 100;goes 1;pieces 4;meet;again 1;end back;exit 99 100;exit 1 10;"
                            + "die 9 0 1 0 0 0;")));
            due("last 10;die 1 1 1 1 1 1;end in;again 6;pieces 1;", () -> writtenOf(on("last 10;pieces 1;again 6;end in;")));
            due("last 10;die 1 1 1 1 1 1;end stay;meet;pieces 2;", () -> writtenOf(on("last 0010;meet;pieces 0002;")));
        });
        test(39, "each as a LINE with its NUMBERS, a blank ahead of each word and NUMBER behind the first word of the LINE", () -> {
            due("last 20;die 0 1 2 3 4 9;exit 9 10;exit 10 9;exit 1 20;end back;again 2;meet;pieces 3;goes 0001;",
                    () -> writtenOf(on(" last\n0020 ; die 00 01 2 3 4 0009 ;pieces 03;exit 09 010;exit 010 09;meet ;"
                            + "goes\n0001\n;again 02;exit 1\n20;end  back  ;")));
        });
        test(39, "a blank between two of them that are words or NUMBERS, nothing else (and one behind 'goes')", () -> {
            String[][] told = {{"( 1 )", "(1)"}, {"1 + 2", "1+2"}, {"not  1", "not 1"}, {"not1", "not 1"},
                {"not\n(1)", "not(1)"}, {"1or2", "1 or 2"}, {"(1)or(2)", "(1)or(2)"}, {"0007 / at", "0007/at"},
                {"not not at and last", "not not at and last"}, {"at<9", "at<9"}, {"9 = at", "9=at"}, {"1 or at", "1 or at"}};
            for (String[] one : told) {
                due("goes " + one[1] + ";", () -> {
                    String text = writtenOf(on("goes\n\n" + one[0] + " ;"));
                    return text.substring(text.indexOf("goes"));
                });
            }
            due("goes (1);", () -> {
                String text = writtenOf(on("goes(1);"));
                return text.substring(text.indexOf("goes"));
            });
        });
        test(39, "WRITTEN is the BOARD as a TEXT", () -> {
            // that which is, behind another one that was written
            SnakeBoard x = on("last 10;exit 1 2;goes 1;");
            due("last 10;die 1 1 1 1 1 1;exit 1 2;end stay;pieces 2;goes 1;", () -> writtenOf(x));
            readOn(x, "last 100;end in;goes not 1;");
            due("last 100;die 1 1 1 1 1 1;end in;pieces 2;goes not 1;", () -> writtenOf(x));
            x.draw(0, 10, 1);
            due("last 10;die 1 1 1 1 1 1;exit 1 9;end stay;pieces 2;", () -> writtenOf(x));
            due(0, () -> readOn(x, "last 10;die 1 1 1 1 1 1;exit 1 9;end stay;pieces 2;"));
            due(51, () -> x.written(-1));
        });
        test(39, "of an EXPR its TOKENS as told", () -> {
            // the longest there is: a blank is put between each two of 165 ones
            StringBuilder dense = new StringBuilder("goes 1");
            StringBuilder loose = new StringBuilder("last 36;die 1 1 1 1 1 1;end stay;pieces 2;goes 1");
            while (dense.length() < 497) {
                dense.append("or1");
                loose.append(" or 1");
            }
            loose.append(';');
            SnakeBoard x = on(dense + ";");
            int many = loose.length();
            due(many, () -> x.written(-1));
            due(loose.substring(many - 400), () -> {
                StringBuilder end = new StringBuilder();
                for (int i = many - 400; i < many; i++) {
                    end.append((char) x.written(i));
                }
                return end.toString();
            });
            noSuch(() -> x.written(many));
        });
    }

    private static void images() {
        test(40, "AN IMAGE is kept, in place of another one", () -> {
            SnakeBoard x = on("last 20;");
            x.image();
            x.roll(3);
            x.image();
            x.roll(4);
            due(true, () -> x.restore());
            due("3 0 turn 1 throws 1", () -> game(x));
            x.undo();
            due(true, () -> x.restore());
            due("3 0 turn 1 throws 1", () -> game(x));
        });
        test(40, "AN IMAGE keeps the GAME, what is NOTED, STATUS", () -> {
            SnakeBoard x = on("last 12;meet;pieces 3;");
            x.rolls(5, 3);
            x.roll(6);
            x.note(3);
            x.note(12);
            x.note(13);
            String before = all(x);
            String status = status(x);
            x.image();
            x.rolls(9, 30);
            x.forget();
            x.note(-1);
            x.note(5);
            x.note(99);
            readOn(x, "#");
            due(true, () -> x.restore());
            due(before, () -> all(x));
            due(status, () -> status(x));
            // and who goes back behind it doesn't change what is kept
            x.undo();
            x.undo();
            x.forget();
            x.roll(1);
            x.note(2);
            due(true, () -> x.restore());
            due(before, () -> all(x));
        });
        test(41, "AN IMAGE keeps the GAME, what is NOTED, STATUS", () -> {
            // nothing else: the tape, the FAULT, the row that is kept are as they were
            SnakeBoard x = on("last 12;");
            x.fewest(6);
            x.image();
            x.fewest(0);
            readOn(x, " #");
            x.feed(0, 0, 0, 0, 0);
            due(true, () -> x.restore());
            due("20 1 [6, 6] 0 0 0", () -> x.count(9) + " " + x.fault() + " " + row(x) + " " + status(x));
        });
        test(41, "AN IMAGE keeps the GAME", () -> {
            SnakeBoard x = on("last 10;pieces 1;goes 0;die 1 0 0 0 0 0;");
            x.rolls(1, 200);
            for (int i = 0; i < 40; i++) {
                x.note(0);
            }
            x.image();
            for (int i = 0; i < 40; i++) {
                x.forget();
            }
            for (int i = 0; i < 40; i++) {
                x.note(1);
            }
            for (int i = 0; i < 150; i++) {
                x.undo();
            }
            for (int i = 0; i < 150; i++) {
                x.roll(6);
            }
            due("50 150 0", () -> x.often(1) + " " + x.often(6) + " " + x.cannot());
            due(true, () -> x.restore());
            due("200 0 -1 40 1", () -> x.often(1) + " " + x.often(6) + " " + x.cannot() + " " + x.count(8) + " "
                    + x.rolled(199, 1));
        });
        test(41, "It is as the IMAGE again: true. False: there is none", () -> {
            SnakeBoard x = new SnakeBoard();
            x.roll(1);
            due(false, () -> x.restore());
            due("1 0 turn 1 throws 1", () -> game(x));
            x.image();
            due(true, () -> x.restore());
            due(true, () -> x.restore());
            x.draw(1, 10, 1);
            due(false, () -> x.restore());
            x.image();
            readOn(x, "#");
            due(true, () -> x.restore());
            x.board(0);
            due(false, () -> x.restore());
        });
    }
}
