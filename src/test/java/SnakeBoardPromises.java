import java.util.ArrayList;
import java.util.Arrays;
import java.util.List;
import java.util.NoSuchElementException;
import java.util.concurrent.Callable;

/** Each promise of the document by its number: ordinary inputs, the edges that it names, wrong inputs. */
public final class SnakeBoardPromises {
    private static final long GRAINS = 1000000000L;
    private static final String NONE_SUCH = "NoSuchElementException";
    private static final String BAD = "IllegalArgumentException";
    // a die of which only the 6 comes, on a short board: 0, 6, 12
    private static final String SIXES = "last 12;die 0 0 0 0 0 1;";
    private static int wrong = 0;
    private static int checks = 0;

    private static void due(int promise, String what, Callable<Object> call, Object want) {
        checks++;
        String got;
        try {
            got = String.valueOf(call.call());
        } catch (Exception e) {
            got = e.getClass().getSimpleName();
        }
        if (!got.equals(String.valueOf(want))) {
            wrong++;
            System.out.println("promise " + promise + ": " + what + " answered " + got + ", due is " + want);
        }
    }

    private static void feed(SnakeBoard x, String text) {
        for (int at = 0; at < text.length(); at += 20) {
            int[] five = new int[5];
            for (int i = 0; i < 20; i++) {
                int sign = at + i < text.length() ? text.charAt(at + i) : ' ';
                five[i / 4] = five[i / 4] << 8 | sign;
            }
            x.feed(five[0], five[1], five[2], five[3], five[4]);
        }
    }

    private static int read(SnakeBoard x, String text) {
        x.board(0);
        feed(x, text);
        return x.board(text.length());
    }

    private static SnakeBoard on(String text) {
        SnakeBoard x = new SnakeBoard();
        due(3, "a board of " + text, () -> read(x, text), 0);
        return x;
    }

    private static String written(SnakeBoard x) {
        return written(x, 0, x.written(SnakeBoard.NONE));
    }

    private static String written(SnakeBoard x, int from, int to) {
        StringBuilder text = new StringBuilder();
        for (int i = from; i < to; i++) {
            text.append((char) x.written(i));
        }
        return text.toString();
    }

    private static List<Integer> row(SnakeBoard x, int many) {
        List<Integer> faces = new ArrayList<>();
        for (int i = 0; i < many; i++) {
            faces.add(x.row(i));
        }
        return faces;
    }

    private static String game(SnakeBoard x) {
        StringBuilder text = new StringBuilder();
        for (int p = 0; p < x.count(2); p++) {
            text.append(x.piece(p)).append(' ');
        }
        return text.append("turn ").append(x.count(7)).append(" throws ").append(x.count(6)).toString();
    }

    public static void main(String[] args) {
        newObject();
        tape();
        boards();
        faultsOfLines();
        faultsOfNumbers();
        faultsOfExprs();
        faultPlaces();
        counts();
        exits();
        goes();
        formulas();
        rolls();
        rollsByASeed();
        undone();
        rolledOnes();
        fewest();
        neverLostRound();
        grains();
        firsts();
        mattering();
        wantedOnes();
        hopes();
        lookedAt();
        noted();
        fitting();
        drawn();
        ended();
        pairs();
        writtenOnes();
        images();
        System.out.println("promises: " + checks + " checks, " + wrong + " wrong");
        if (wrong != 0) {
            System.exit(1);
        }
    }

    private static void newObject() {
        SnakeBoard x = new SnakeBoard();
        int[] counts = {36, 0, 2, 0, 0, 0, 0, 0, 0, 0, 0, 0, 0};
        for (int what = 0; what < counts.length; what++) {
            int at = what;
            due(1, "count(" + what + ")", () -> x.count(at), counts[what]);
        }
        for (int face = 1; face <= 6; face++) {
            int at = face;
            due(1, "count(2" + face + ")", () -> x.count(20 + at), 1);
        }
        due(1, "the game", () -> game(x), "0 0 turn 0 throws 0");
        due(1, "fault()", () -> x.fault(), -1);
        due(1, "row(0)", () -> x.row(0), NONE_SUCH);
        due(1, "restore()", () -> x.restore(), false);
        due(1, "written", () -> written(x), "last 36;die 1 1 1 1 1 1;end stay;pieces 2;");
    }

    private static void tape() {
        SnakeBoard x = new SnakeBoard();
        for (int many = 20; many <= 500; many += 20) {
            due(2, "feed", () -> x.feed(0, 0, 0, 0, 0), many);
        }
        due(2, "feed beyond 500", () -> x.feed(0, 0, 0, 0, 0), -1);
        due(2, "the tape's length", () -> x.count(9), 500);
        due(2, "count(11), (12)", () -> x.count(10) + x.count(11) + x.count(12), 0);
        due(2, "what came", () -> x.board(500), 1);
        due(2, "feed on the empty tape", () -> x.feed(0x6d656574, 0x3b656e64, 0x20696e3b, 0xff202020, -1), 20);
        due(2, "feed behind it", () -> x.feed(-1, 0, 0, 0, 0), 40);
        due(2, "the highest byte first", () -> x.board(12), 0);
        due(2, "meet;end in;", () -> x.count(5) + 10 * x.count(3), 21);
    }

    private static void boards() {
        SnakeBoard x = on("last 20;exit 3 9;pieces 3;");
        x.roll(1);
        x.note(1);
        x.fits();
        x.image();
        feed(x, "last 30;");
        due(3, "board(-1)", () -> x.board(-1), BAD);
        due(3, "board(21)", () -> x.board(21), BAD);
        due(3, "the tape behind these", () -> x.count(9), 20);
        due(3, "the text with a fault", () -> x.board(7), 1);
        due(3, "the tape behind it", () -> x.count(9), 0);
        due(3, "STATUS", () -> x.count(10), 1);
        due(3, "all else stays", () -> game(x) + " " + x.count(0) + " " + x.count(8) + " " + x.row(0),
                "1 0 0 turn 1 throws 1 20 1 1");
        due(3, "the image stays", () -> x.restore(), true);
        due(3, "STATUS of the image", () -> x.count(10), 0);
        x.roll(1);
        feed(x, "last 30;");
        x.board(7);
        feed(x, "last 30;");
        due(3, "a good text", () -> x.board(8), 0);
        due(3, "STATUS stays", () -> x.count(10), 1);
        due(3, "all anew", () -> game(x) + " " + written(x), "0 0 turn 0 throws 0 "
                + "last 30;die 1 1 1 1 1 1;end stay;pieces 2;");
        due(3, "nothing is noted", () -> x.count(8), 0);
        due(3, "no row is kept", () -> x.row(0), NONE_SUCH);
        due(3, "no image", () -> x.restore(), false);
        due(3, "an empty text", () -> x.board(0), 0);
        due(3, "its LAST", () -> x.count(0), 36);
        feed(x, "meet;end in;");
        due(3, "the first bytes alone", () -> x.board(5), 0);
        due(3, "meet alone", () -> x.count(5) + 10 * x.count(3), 1);
        due(3, "the tape is empty then", () -> x.count(9), 0);
    }

    /** The FAULT of a text and its place. */
    private static void text(String text, int fault, int place) {
        SnakeBoard x = new SnakeBoard();
        due(3, text, () -> read(x, text), fault);
        due(4, text + " at", () -> x.fault(), place);
        due(5, text + " counted", () -> x.count(10), fault == 0 ? 0 : 1);
    }

    private static void faultsOfLines() {
        text("", 0, -1);
        text(" \n ", 0, -1);
        text("x", 1, 0);
        text("Meet;", 1, 0);
        text("meet#", 1, 4);
        text("meet\t;", 1, 4);
        text("meetx;", 1, 0);
        text("meet", 1, 4);
        text("meet \n ", 1, 7);
        text(" meet\n;\n", 0, -1);
        text("meet;;", 1, 5);
        text("5;", 1, 0);
        text("meet 12345;", 1, 5);
        text("stay;", 1, 0);
        text("end up;", 1, 4);
        text("end throw;", 1, 4);
        text("end 1;", 1, 4);
        text("endin;", 1, 0);
        text("end in;", 0, -1);
        text("exit3 4;", 0, -1);
        text("exit 3,4;", 1, 6);
        text("exit 34;", 1, 7);
        text("exit 3 4 5;", 1, 9);
        text("exit 3 (;", 1, 7);
        text("last 10;last 10;", 1, 8);
        text("meet;last 10;", 1, 5);
        text("die 1 1 1 1 1;", 1, 13);
        text("die 1 1 1 1 1 1 1;", 1, 16);
        text("end in;end in;", 5, 7);
        text("meet;meet;", 5, 5);
        text("die 1 1 1 1 1 1;die 1 1 1 1 1 1;", 5, 16);
        text("again 1;again x;", 5, 8);
        text("pieces 1;pieces 1;", 5, 9);
        text("goes 1;goes 1;", 5, 7);
        text("again;", 1, 5);
        text("pieces x;", 1, 7);
        text("{", 1, 0);
        text("`", 1, 0);
        text("exit 3 9:", 1, 8);
        text("goes 1 { 2;", 1, 7);
        text("goes {;", 1, 5);
        text("goes :;", 1, 5);
        text("meet" + (char) 233 + ";", 1, 4);
    }

    private static void faultsOfNumbers() {
        text("last 9;", 2, 5);
        text("last 10;", 0, -1);
        text("last 100;", 0, -1);
        text("last 0100;", 0, -1);
        text("last 00100;", 2, 5);
        text("last 101;", 2, 5);
        text("last;", 1, 4);
        text("last 10", 1, 7);
        text("last 10  ", 1, 9);
        text("die 9 0 0 0 0 0;", 0, -1);
        text("die 0 0 0 0 0 0;", 2, 14);
        text("die 0 0 0 0 0 1;", 0, -1);
        text("die 1 1 1 1 1 0;", 0, -1);
        text("die 1 10 1 1 1 1;", 2, 6);
        text("die 1 00001 1 1 1 1;", 2, 6);
        text("exit 35 36;", 0, -1);
        text("exit 36 1;", 2, 5);
        text("exit 0 1;", 2, 5);
        text("exit 10000 1;", 2, 5);
        text("last 50;exit 49 50;", 0, -1);
        text("last 50;exit 50 49;", 2, 13);
        text("exit 3 3;", 2, 7);
        text("exit 3 0;", 2, 7);
        text("exit 3 37;", 2, 7);
        text("exit 3 9;exit 3 8;", 4, 14);
        text("exit 3 9;exit 9 3;", 0, -1);
        text("exit 3 9;exit 36 8;", 2, 14);
        text("again 0;", 2, 6);
        text("again 6;", 0, -1);
        text("again 7;", 2, 6);
        text("pieces 0;", 2, 7);
        text("pieces 1;", 0, -1);
        text("pieces 4;", 0, -1);
        text("pieces 5;", 2, 7);
        StringBuilder many = new StringBuilder();
        for (int foot = 1; foot <= 24; foot++) {
            many.append("exit ").append(foot).append(" 36;");
        }
        text(many.toString(), 0, -1);
        text(many + "meet;exit 30 36;", 2, many.length() + 5);
        text(many + "exits", 1, many.length());
    }

    private static void faultsOfExprs() {
        text("goes throw", 1, 10);
        text("goes;", 1, 4);
        text("goes foo;", 3, 5);
        text("goes or;", 3, 5);
        text("goes az;", 3, 5);
        text("goes za;", 3, 5);
        text("goes 1 or and 1;", 3, 10);
        text("goes 1 foo;", 1, 7);
        text("goes 1 throw;", 1, 7);
        text("goes 1 2;", 1, 7);
        text("goes 1 23456;", 1, 7);
        text("goes 1 not 2;", 1, 7);
        text("goes 1+not 2;", 3, 7);
        text("goes 1<not 2;", 3, 7);
        text("goes 1 and not 2;", 0, -1);
        text("goes not 2;", 0, -1);
        text("goes (not 2);", 0, -1);
        text("goes 1<2<3;", 1, 8);
        text("goes 1=2<3;", 1, 8);
        text("goes (1<2)<3;", 0, -1);
        text("goes 1<2 and 2<3;", 0, -1);
        text("goes -1;", 1, 5);
        text("goes 1+;", 1, 7);
        text("goes ();", 1, 6);
        text("goes (1;", 1, 7);
        text("goes 1);", 1, 6);
        text("goes 9999;", 0, -1);
        text("goes 10000;", 2, 5);
        text("goes throw+00001;", 2, 11);
        text("goes last+exits-at*throw/2;", 0, -1);
        text("goes (((((1)))));", 0, -1);
        text("goes ((((((1))))));", 2, 11);
        text("goes ((((((foo))))));", 2, 11);
        text("goes ((((((not 1))))));", 2, 11);
        text("goes ((((((((1))))))));", 2, 11);
        text("goes ((((((+", 1, 11);
        text("goes ((((((", 1, 11);
        text("goes ((((((#", 1, 11);
        text("goes (((((1)))))+(((((1)))));", 0, -1);
        text("goes not not not not not not 1;", 0, -1);
        text("goes not not not not not not not 1;", 2, 29);
        text("goes not(not not not not not not 1);", 0, -1);
        text("goes 1 and not not not not not not not 1;", 2, 35);
        text("goes 1;last 10;", 1, 7);
    }

    private static void faultPlaces() {
        SnakeBoard x = new SnakeBoard();
        read(x, "meet;;");
        due(4, "the place", () -> x.fault(), 5);
        due(4, "an exception", () -> x.board(1), BAD);
        due(4, "the place stays", () -> x.fault(), 5);
        x.draw(1, 10, 0);
        due(4, "draw() is no board()", () -> x.fault(), 5);
        read(x, "meet;");
        due(4, "without a FAULT", () -> x.fault(), -1);
    }

    private static void counts() {
        SnakeBoard x = on("last 20;exit 3 9;exit 4 2;die 1 2 3 0 9 4;end in;again 5;meet;pieces 4;");
        x.roll(2);
        x.note(3);
        x.note(-1);
        x.note(21);
        feed(x, "meet;");
        int[] counts = {20, 2, 4, 2, 5, 1, 1, 1, 2, 20, 0, 0, 1};
        for (int what = 0; what < counts.length; what++) {
            int at = what;
            due(5, "count(" + what + ")", () -> x.count(at), counts[what]);
        }
        int[] odds = {1, 2, 3, 0, 9, 4};
        for (int face = 1; face <= 6; face++) {
            int at = face;
            due(5, "count(2" + face + ")", () -> x.count(20 + at), odds[face - 1]);
        }
        for (int what : new int[] {-1, 13, 20, 27, Integer.MIN_VALUE, Integer.MAX_VALUE}) {
            due(5, "count(" + what + ")", () -> x.count(what), NONE_SUCH);
        }
    }

    private static void exits() {
        SnakeBoard x = on("exit 3 9;exit 8 2;");
        due(6, "exit(0, 0)", () -> x.exit(0, 0), 3);
        due(6, "exit(0, 1)", () -> x.exit(0, 1), 9);
        due(6, "exit(1, 0)", () -> x.exit(1, 0), 8);
        due(6, "exit(1, 1)", () -> x.exit(1, 1), 2);
        due(6, "exit(2, 0)", () -> x.exit(2, 0), NONE_SUCH);
        due(6, "exit(-1, 0)", () -> x.exit(-1, 0), NONE_SUCH);
        due(6, "exit(0, 2)", () -> x.exit(0, 2), NONE_SUCH);
        due(6, "exit(0, -1)", () -> x.exit(0, -1), NONE_SUCH);
    }

    private static void go(SnakeBoard x, int square, int face, Object want) {
        due(7, "goes(" + square + ", " + face + ")", () -> x.goes(square, face), want);
    }

    private static void goes() {
        SnakeBoard stay = on("last 10;exit 3 9;exit 9 2;");
        go(stay, 0, 3, 9);
        go(stay, 2, 1, 9);
        go(stay, 3, 6, 2);
        go(stay, 9, 1, 10);
        go(stay, 9, 2, 9);
        go(stay, 8, 3, 8);
        go(stay, 10, 1, 10);
        for (int square : new int[] {-1, 11, Integer.MAX_VALUE}) {
            go(stay, square, 1, NONE_SUCH);
        }
        go(stay, 0, 0, NONE_SUCH);
        go(stay, 0, 7, NONE_SUCH);
        SnakeBoard back = on("last 10;exit 9 2;end back;");
        go(back, 9, 2, 2);
        go(back, 9, 3, 8);
        go(back, 8, 2, 10);
        go(back, 10, 3, 10);
        SnakeBoard in = on("last 10;exit 9 2;end in;die 1 0 0 0 0 0;");
        go(in, 9, 2, 10);
        go(in, 8, 1, 2);
        go(in, 4, 6, 10);
        SnakeBoard still = on("last 10;exit 3 7;goes throw*0;");
        go(still, 3, 5, 7);
        go(still, 7, 5, 7);
        SnakeBoard far = on("last 10;end back;goes 15+throw*0;");
        go(far, 0, 1, 5);
        go(far, 5, 1, 0);
        go(far, 6, 1, 0);
    }

    /** How far one goes from a square of a board of 100 with the feet 50 and 60, seen by the square 100 - it. */
    private static void far(String expr, int square, int face, int want) {
        SnakeBoard x = new SnakeBoard();
        due(7, "a board that goes " + expr, () -> read(x, "last 100;exit 50 1;exit 60 1;goes " + expr + ";"), 0);
        go(x, square, face, square + want);
    }

    private static void formulas() {
        far("7", 1, 3, 7);
        far("throw", 1, 3, 3);
        far("at", 20, 3, 20);
        far("last/5", 1, 3, 20);
        far("exits", 49, 3, 2);
        far("exits", 50, 3, 1);
        far("exits", 55, 3, 1);
        far("exits+3", 60, 3, 3);
        far("10-throw-1", 1, 3, 6);
        far("10-(throw-1)", 1, 3, 8);
        far("1+2*3", 1, 1, 7);
        far("8/3*2", 1, 1, 4);
        far("7/2", 1, 1, 3);
        far("10+(0-7)/2", 1, 1, 7);
        far("5/(throw-1)", 1, 1, 0);
        far("throw<3", 1, 2, 1);
        far("throw<3", 1, 3, 0);
        far("throw=3", 1, 3, 1);
        far("1+2<4", 1, 3, 1);
        far("not throw", 1, 3, 0);
        far("not 0", 1, 3, 1);
        far("not not 7", 1, 3, 1);
        far("not 1<0", 1, 3, 1);
        far("not 0 and 0", 1, 3, 0);
        far("5 or 0", 1, 3, 1);
        far("0 or 0", 1, 3, 0);
        far("5 and 3", 1, 3, 1);
        far("5 and 0", 1, 3, 0);
        far("1 or 1 and 0", 1, 3, 1);
        far("(1 or 1) and 0", 1, 3, 0);
        far("0-3", 20, 1, -3);
        far("0-30", 20, 1, -20);
        far("200", 1, 1, 0);
        SnakeBoard x = new SnakeBoard();
        read(x, "end in;goes 2048*1024*1024-1;");
        go(x, 5, 1, 36);
        read(x, "end in;goes 2048*1024*1024;");
        go(x, 5, 1, 0);
        read(x, "end in;goes (2048*1024*1024)/(0-1);");
        go(x, 5, 1, 0);
        read(x, "end in;goes 2048*1024*1024-1+1;");
        go(x, 5, 1, 0);
    }

    private static void roll(SnakeBoard x, int face, Object to, String game) {
        due(8, "roll(" + face + ")", () -> x.roll(face), to);
        due(8, "the game behind it", () -> game(x), game);
    }

    private static void rolls() {
        SnakeBoard x = on("last 10;meet;again 2;pieces 3;");
        roll(x, 0, NONE_SUCH, "0 0 0 turn 0 throws 0");
        roll(x, 7, NONE_SUCH, "0 0 0 turn 0 throws 0");
        roll(x, 3, 3, "3 0 0 turn 1 throws 1");
        roll(x, 3, 3, "0 3 0 turn 2 throws 2");
        roll(x, 2, 2, "0 3 2 turn 2 throws 3");
        roll(x, 1, 3, "0 0 3 turn 0 throws 4");
        roll(x, 6, 6, "6 0 3 turn 1 throws 5");
        roll(x, 6, 6, "0 6 3 turn 2 throws 6");
        roll(x, 5, 8, "0 6 8 turn 0 throws 7");
        roll(x, 5, 5, "5 6 8 turn 1 throws 8");
        roll(x, 4, 10, "5 10 8 turn 2 throws 9");
        roll(x, 2, 10, "5 10 10 turn 0 throws 10");
        roll(x, 6, 5, "5 10 10 turn 0 throws 11");
        roll(x, 5, 10, "10 10 10 turn -1 throws 12");
        roll(x, 1, -1, "10 10 10 turn -1 throws 12");
        due(8, "STATUS", () -> x.count(11), 1);
        roll(x, 0, NONE_SUCH, "10 10 10 turn -1 throws 12");
        due(8, "STATUS behind an exception", () -> x.count(11), 1);
        SnakeBoard friends = on("last 10;pieces 2;");
        friends.roll(3);
        roll(friends, 3, 3, "3 3 turn 0 throws 2");
        SnakeBoard long200 = on("last 10;pieces 1;goes 0;");
        long200.rolls(1, 198);
        roll(long200, 1, 0, "0 turn 0 throws 199");
        roll(long200, 1, 0, "0 turn 0 throws 200");
        roll(long200, 1, -1, "0 turn 0 throws 200");
        due(8, "STATUS", () -> long200.count(11), 1);
        due(9, "beyond 200", () -> long200.rolls(1, 5), 0);
    }

    private static void rollsByASeed() {
        SnakeBoard x = on("last 100;pieces 1;");
        due(9, "rolls(7, 12)", () -> x.rolls(7, 12), 12);
        int[] faces = {5, 3, 3, 1, 6, 6, 1, 3, 6, 6, 6, 2};
        for (int i = 0; i < faces.length; i++) {
            int at = i;
            due(9, "the face " + i, () -> x.rolled(at, 1), faces[i]);
        }
        SnakeBoard worn = on("last 100;pieces 1;die 0 2 0 1 0 0;");
        worn.rolls(7, 6);
        // 19564, 9806, 10868, 22674, 32531, 3365 MOD 3 are 1, 2, 2, 0, 2, 2
        int[] wornFaces = {2, 4, 4, 2, 4, 4};
        for (int i = 0; i < wornFaces.length; i++) {
            int at = i;
            due(9, "the worn die's face " + i, () -> worn.rolled(at, 1), wornFaces[i]);
        }
        due(9, "rolls(1, 0)", () -> x.rolls(1, 0), 0);
        due(9, "rolls(1, -1)", () -> x.rolls(1, -1), BAD);
        due(9, "rolls(1, 201)", () -> x.rolls(1, 201), BAD);
        SnakeBoard six = on(SIXES);
        due(9, "rolls till it is over", () -> six.rolls(3, 200), 4);
        due(9, "and no more", () -> six.rolls(3, 200), 0);
        due(9, "STATUS", () -> six.count(11), 0);
        SnakeBoard still = on("goes 0;");
        due(9, "rolls(9, 150)", () -> still.rolls(9, 150), 150);
        due(9, "rolls(9, 150) again", () -> still.rolls(9, 150), 50);
    }

    private static void undone() {
        SnakeBoard x = on("last 10;meet;again 2;pieces 3;");
        due(10, "undo()", () -> x.undo(), -1);
        x.roll(3);
        x.roll(3);
        x.roll(2);
        x.roll(1);
        due(10, "undo()", () -> x.undo(), 3);
        due(10, "the game", () -> game(x), "0 3 2 turn 2 throws 3");
        due(10, "undo()", () -> x.undo(), 2);
        due(10, "undo()", () -> x.undo(), 1);
        due(10, "the game", () -> game(x), "3 0 0 turn 1 throws 1");
        due(10, "undo()", () -> x.undo(), 0);
        due(10, "the game", () -> game(x), "0 0 0 turn 0 throws 0");
        due(10, "undo()", () -> x.undo(), -1);
        SnakeBoard six = on(SIXES + "pieces 1;");
        six.rolls(1, 200);
        due(10, "over", () -> game(six), "12 turn -1 throws 2");
        due(10, "undo()", () -> six.undo(), 1);
        due(10, "the game", () -> game(six), "6 turn 0 throws 1");
        due(10, "STATUS", () -> six.count(11), 0);
    }

    private static void rolledOnes() {
        SnakeBoard x = on("last 10;meet;exit 2 4;pieces 4;");
        x.roll(4);
        x.roll(2);
        int[] want = {1, 2, 0, 4, 1};
        for (int what = 0; what < 5; what++) {
            int at = what;
            due(12, "rolled(1, " + what + ")", () -> x.rolled(1, at), want[what]);
        }
        due(12, "rolled(0, 4)", () -> x.rolled(0, 4), 0);
        due(12, "rolled(2, 0)", () -> x.rolled(2, 0), NONE_SUCH);
        due(12, "rolled(-1, 0)", () -> x.rolled(-1, 0), NONE_SUCH);
        due(12, "rolled(0, 5)", () -> x.rolled(0, 5), NONE_SUCH);
        due(12, "rolled(0, -1)", () -> x.rolled(0, -1), NONE_SUCH);
        due(11, "piece(1)", () -> x.piece(1), 4);
        due(11, "piece(0)", () -> x.piece(0), 0);
        due(11, "piece(3)", () -> x.piece(3), 0);
        due(11, "piece(4)", () -> x.piece(4), NONE_SUCH);
        due(11, "piece(-1)", () -> x.piece(-1), NONE_SUCH);
        SnakeBoard two = new SnakeBoard();
        due(11, "piece(2) of two", () -> two.piece(2), NONE_SUCH);
    }

    private static void fewest() {
        SnakeBoard x = on("last 20;exit 4 19;");
        due(13, "fewest(0)", () -> x.fewest(0), 2);
        due(14, "its row", () -> row(x, 2), "[4, 1]");
        due(14, "row(2)", () -> x.row(2), NONE_SUCH);
        due(14, "row(-1)", () -> x.row(-1), NONE_SUCH);
        due(13, "fewest(5)", () -> x.fewest(5), 3);
        due(14, "its row, the first", () -> row(x, 3), "[3, 6, 6]");
        due(13, "fewest(21)", () -> x.fewest(21), NONE_SUCH);
        due(13, "fewest(-1)", () -> x.fewest(-1), NONE_SUCH);
        due(14, "the row stays", () -> row(x, 3), "[3, 6, 6]");
        due(13, "fewest(20)", () -> x.fewest(20), 0);
        due(14, "an empty row", () -> x.row(0), NONE_SUCH);
        SnakeBoard worn = on("last 10;die 1 0 1 0 0 0;exit 9 1;");
        due(13, "with two faces", () -> worn.fewest(0), 4);
        due(14, "its row", () -> row(worn, 4), "[1, 3, 3, 3]");
        SnakeBoard stuck = on("last 10;die 0 0 0 0 0 1;pieces 1;");
        stuck.note(6);
        stuck.fits();
        due(13, "no way", () -> stuck.fewest(0), -1);
        due(13, "what is kept stays", () -> row(stuck, 1), "[6]");
        due(13, "from 4", () -> stuck.fewest(4), 1);
    }

    private static void neverLostRound() {
        SnakeBoard x = on("last 10;die 0 1 0 0 0 0;exit 4 3;");
        // 0, 2, 3, 5, 7, 9 and no further; 6, 8 lead HOME
        boolean[] never = {false, true, false, false, true, false, true, false, true, false, true};
        boolean[] lost = {true, true, true, true, false, true, false, true, false, true, false};
        for (int square = 0; square <= 10; square++) {
            int at = square;
            due(15, "never(" + at + ")", () -> x.never(at), never[at]);
            due(16, "lost(" + at + ")", () -> x.lost(at), lost[at]);
        }
        due(15, "never(11)", () -> x.never(11), NONE_SUCH);
        due(15, "never(-1)", () -> x.never(-1), NONE_SUCH);
        due(16, "lost(11)", () -> x.lost(11), NONE_SUCH);
        due(16, "lost(-1)", () -> x.lost(-1), NONE_SUCH);
        SnakeBoard round = on("last 10;die 0 1 0 0 0 0;exit 6 2;");
        int[] rounds = {-1, -1, 2, -1, 2, -1, -1, -1, -1, 1, 1};
        for (int square = 0; square <= 10; square++) {
            int at = square;
            due(17, "round(" + at + ")", () -> round.round(at), rounds[at]);
        }
        due(17, "round(11)", () -> round.round(11), NONE_SUCH);
        due(17, "round(-1)", () -> round.round(-1), NONE_SUCH);
    }

    private static void grain(SnakeBoard x, int square, int n, int what, Object want) {
        due(18, "grains(" + square + ", " + n + ", " + what + ")", () -> x.grains(square, n, what), want);
    }

    private static void grains() {
        SnakeBoard x = on("last 10;die 1 1 1 0 0 0;");
        grain(x, 7, 0, 0, GRAINS);
        grain(x, 7, 1, 0, 666666667L);
        grain(x, 7, 1, 2, 333333333L);
        grain(x, 7, 0, 1, 0);
        grain(x, 7, 1, 1, GRAINS);
        grain(x, 7, 2, 1, 1666666667L);
        grain(x, 9, 1, 2, 333333334L);
        // of 666666666 on 9: a third cut down twice stays, what is left goes HOME
        grain(x, 9, 2, 2, 222222222L);
        grain(x, 10, 5, 0, 0);
        grain(x, 10, 5, 1, 0);
        grain(x, 10, 5, 2, 0);
        grain(x, 0, 0, 2, 0);
        grain(x, 0, 400, 0, 0);
        grain(x, 0, -1, 0, BAD);
        grain(x, 0, 401, 0, BAD);
        grain(x, 0, 1, 3, NONE_SUCH);
        grain(x, 0, 401, 3, NONE_SUCH);
        grain(x, 0, 401, -1, NONE_SUCH);
        grain(x, 11, 401, 0, NONE_SUCH);
        grain(x, -1, 1, 0, NONE_SUCH);
        SnakeBoard worn = on("last 10;die 0 3 4 0 0 0;");
        due(19, "the least face's share", () -> worn.stood(0, 2, 1), 428571429L);
        due(19, "the other's", () -> worn.stood(0, 3, 1), 571428571L);
        due(19, "stood by 0", () -> worn.stood(0, 0, 0), 0);
        SnakeBoard six = on(SIXES);
        due(19, "stood(0, 6, 3)", () -> six.stood(0, 6, 3), GRAINS);
        due(19, "stood(0, 12, 4)", () -> six.stood(0, 12, 4), 3 * GRAINS);
        due(19, "stood(0, 0, 4)", () -> six.stood(0, 0, 4), 0);
        due(19, "stood(12, 12, 4)", () -> six.stood(12, 12, 4), 4 * GRAINS);
        due(19, "stood(7, 7, 400)", () -> six.stood(7, 7, 400), 400 * GRAINS);
        due(19, "stood(13, 0, 401)", () -> six.stood(13, 0, 401), NONE_SUCH);
        due(19, "stood(0, 13, 401)", () -> six.stood(0, 13, 401), NONE_SUCH);
        due(19, "stood(0, 0, 401)", () -> six.stood(0, 0, 401), BAD);
        due(19, "stood(0, 0, -1)", () -> six.stood(0, 0, -1), BAD);
        due(20, "half(0)", () -> six.half(0), 2);
        due(20, "half(6)", () -> six.half(6), 1);
        due(20, "half(12)", () -> six.half(12), 0);
        due(20, "half(7)", () -> six.half(7), -1);
        due(20, "half(13)", () -> six.half(13), NONE_SUCH);
        due(20, "half(-1)", () -> six.half(-1), NONE_SUCH);
        SnakeBoard coin = on("last 10;die 1 1 0 0 0 0;");
        due(20, "half is enough", () -> coin.half(9), 1);
        due(20, "400 throws", () -> on("last 60;die 1 9 9 5 0 0;goes throw=1;").half(43), 400);
        due(20, "401 throws", () -> on("last 60;die 2 9 9 7 0 0;goes throw=1;").half(30), -1);
    }

    private static void firsts() {
        SnakeBoard coin = on("last 10;die 1 1 0 0 0 0;");
        // 9: half is HOME in each throw
        due(21, "the first", () -> coin.first(9, 9, 1, 0), GRAINS / 2);
        due(21, "the second", () -> coin.first(9, 9, 1, 1), GRAINS / 4);
        due(21, "neither", () -> coin.first(9, 9, 1, 2), GRAINS / 4);
        due(21, "the first by 2", () -> coin.first(9, 9, 2, 0), GRAINS / 2 + GRAINS / 8);
        due(21, "the second by 2", () -> coin.first(9, 9, 2, 1), GRAINS / 4 + GRAINS / 16);
        due(21, "by 0", () -> coin.first(9, 9, 0, 2), GRAINS);
        due(21, "one is HOME", () -> coin.first(10, 9, 5, 0), 0);
        due(21, "one is HOME, the other", () -> coin.first(10, 9, 5, 1), 0);
        due(21, "one is HOME, neither", () -> coin.first(10, 9, 5, 2), GRAINS);
        SnakeBoard six = on(SIXES);
        due(21, "a step ahead", () -> six.first(0, 6, 2, 1), GRAINS);
        due(21, "by turns", () -> six.first(0, 0, 2, 0), GRAINS);
        due(21, "what 3", () -> six.first(0, 0, 401, 3), NONE_SUCH);
        due(21, "what -1", () -> six.first(0, 0, 1, -1), NONE_SUCH);
        due(21, "n 401", () -> six.first(0, 0, 401, 0), BAD);
        due(21, "n -1", () -> six.first(0, 0, -1, 0), BAD);
        due(21, "square 13", () -> six.first(13, 0, 401, 0), NONE_SUCH);
        due(21, "square -1", () -> six.first(0, -1, 401, 0), NONE_SUCH);
    }

    private static void mattering() {
        SnakeBoard x = on(SIXES + "exit 5 7;exit 6 1;exit 1 11;");
        due(22, "one never comes to it", () -> x.matters(0, 5), 0);
        due(22, "without it one is HOME in 2", () -> x.matters(1, 5), -3 * GRAINS);
        due(22, "not on from there", () -> x.matters(2, 5), 0);
        due(22, "by 0", () -> x.matters(1, 0), 0);
        due(22, "exit 3", () -> x.matters(3, 401), NONE_SUCH);
        due(22, "exit -1", () -> x.matters(-1, 5), NONE_SUCH);
        due(22, "n 401", () -> x.matters(0, 401), BAD);
        due(22, "n -1", () -> x.matters(0, -1), BAD);
        due(23, "most(5)", () -> x.most(5), 1);
        due(23, "most(0), of like ones", () -> x.most(0), 0);
        due(23, "most(401)", () -> x.most(401), BAD);
        due(23, "most(-1)", () -> x.most(-1), BAD);
        SnakeBoard up = on("last 12;die 0 0 0 0 0 1;exit 6 12;");
        due(22, "a ladder", () -> up.matters(0, 5), GRAINS);
        // the feet above count: without the exit one stands still
        SnakeBoard counted = on("last 12;exit 11 1;goes exits*6;");
        due(22, "the feet that are counted", () -> counted.matters(0, 5), 5 * GRAINS - 2 * GRAINS);
        SnakeBoard none = new SnakeBoard();
        due(23, "without exits", () -> none.most(5), -1);
        due(23, "n first", () -> none.most(401), BAD);
    }

    private static void wantedOnes() {
        SnakeBoard x = on(SIXES);
        due(24, "any will do", () -> x.wanted(2 * GRAINS, 5), 13 * 1 + 2);
        due(24, "HOME at once", () -> x.wanted(GRAINS, 5), 13 * 6 + 12);
        due(24, "nearer to it", () -> x.wanted(GRAINS + GRAINS / 2 - 1, 5), 13 * 6 + 12);
        due(24, "as near ones", () -> x.wanted(GRAINS + GRAINS / 2, 5), 13 * 1 + 2);
        due(24, "a way back", () -> x.wanted(Long.MAX_VALUE, 5), 13 * 6 + 1);
        due(24, "n 61", () -> x.wanted(5, 61), -2);
        due(24, "n 60", () -> x.wanted(2 * GRAINS, 60), 13 * 1 + 2);
        due(24, "n 400", () -> x.wanted(5, 400), -2);
        due(24, "n 401", () -> x.wanted(5, 401), BAD);
        due(24, "n -1", () -> x.wanted(5, -1), BAD);
        due(24, "below 0", () -> x.wanted(-1, 5), BAD);
        due(24, "LAST 41", () -> on("last 41;").wanted(5, 5), -2);
        due(24, "LAST 40", () -> on("last 40;die 0 0 0 0 0 1;").wanted(0, 0), 41 + 2);
        due(24, "a FOOT is one", () -> on(SIXES + "exit 1 3;").wanted(2 * GRAINS, 5), 13 * 2 + 1);
        SnakeBoard full = new SnakeBoard();
        full.draw(0, 10, 24);
        due(24, "no FOOT is left", () -> full.wanted(5, 5), -1);
        StringBuilder many = new StringBuilder();
        for (int foot = 1; foot <= 24; foot++) {
            many.append("exit ").append(foot).append(" 36;");
        }
        due(24, "24 exits", () -> on(many.toString()).wanted(5, 5), -1);
        due(24, "24 exits, n 61", () -> on(many.toString()).wanted(5, 61), -2);
        due(24, "the feet that are counted", () -> on("last 12;goes exits*6;").wanted(2 * GRAINS, 3), 13 * 7 + 1);
    }

    private static void hopes() {
        SnakeBoard x = on("last 10;die 1 1 0 0 0 0;");
        due(25, "ahead(9, 0)", () -> x.ahead(9, 0), 0);
        due(25, "ahead(9, 1)", () -> x.ahead(9, 1), GRAINS);
        due(25, "ahead(9, 2)", () -> x.ahead(9, 2), GRAINS + GRAINS / 4);
        due(25, "ahead(9, 3)", () -> x.ahead(9, 3), GRAINS + GRAINS / 4 + GRAINS / 16);
        due(25, "ahead(8, 2)", () -> x.ahead(8, 2), GRAINS + GRAINS / 4);
        due(25, "ahead(10, 100)", () -> x.ahead(10, 100), 0);
        due(25, "ahead(0, 101)", () -> x.ahead(0, 101), BAD);
        due(25, "ahead(0, -1)", () -> x.ahead(0, -1), BAD);
        due(25, "ahead(11, 101)", () -> x.ahead(11, 101), NONE_SUCH);
        due(25, "ahead(-1, 1)", () -> x.ahead(-1, 1), NONE_SUCH);
        SnakeBoard worn = on("last 10;die 2 1 0 0 0 0;");
        // of nine only the pair of two twos stays
        due(25, "cut down", () -> worn.ahead(9, 2), GRAINS + GRAINS / 9);
        due(25, "and on", () -> worn.ahead(9, 3), GRAINS + (GRAINS + GRAINS / 9) / 9);
        due(26, "choose(9, 2, 1, 2)", () -> x.choose(9, 2, 1, 2), 1);
        due(26, "choose(9, 1, 2, 2)", () -> x.choose(9, 1, 2, 2), 1);
        due(26, "all alike", () -> x.choose(9, 2, 1, 1), 2);
        due(26, "without ODDS", () -> x.choose(4, 3, 6, 2), 6);
        due(26, "at HOME", () -> x.choose(10, 3, 6, 2), 3);
        due(26, "n 0", () -> x.choose(9, 2, 1, 0), BAD);
        due(26, "n 101", () -> x.choose(9, 2, 1, 101), BAD);
        due(26, "n 100", () -> x.choose(9, 2, 1, 100), 1);
        due(26, "square", () -> x.choose(11, 2, 1, 0), NONE_SUCH);
        due(26, "one", () -> x.choose(9, 0, 1, 0), NONE_SUCH);
        due(26, "two", () -> x.choose(9, 2, 7, 0), NONE_SUCH);
    }

    private static void lookedAt() {
        SnakeBoard x = new SnakeBoard();
        due(29, "worn() without throws", () -> x.worn(), -1);
        due(28, "unlike without throws", () -> x.unlike(0) + " by " + x.unlike(1), "0 by 1");
        x.roll(6);
        x.roll(1);
        x.roll(1);
        due(27, "often(1)", () -> x.often(1), 2);
        due(27, "often(6)", () -> x.often(6), 1);
        due(27, "often(2)", () -> x.often(2), 0);
        due(27, "often(0)", () -> x.often(0), NONE_SUCH);
        due(27, "often(7)", () -> x.often(7), NONE_SUCH);
        // 9, -3, -3, -3, -3, 3: 126 by 18
        due(28, "unlike", () -> x.unlike(0) + " by " + x.unlike(1), "7 by 1");
        due(28, "unlike(2)", () -> x.unlike(2), NONE_SUCH);
        due(28, "unlike(-1)", () -> x.unlike(-1), NONE_SUCH);
        due(29, "worn()", () -> x.worn(), 1);
        x.undo();
        due(27, "often(1) undone", () -> x.often(1), 1);
        // 4, -2, -2, -2, -2, 4: 48 by 12
        due(28, "unlike", () -> x.unlike(0) + " by " + x.unlike(1), "4 by 1");
        due(29, "of like ones", () -> x.worn(), 1);
        SnakeBoard worn = on("die 0 2 3 0 0 0;");
        worn.roll(3);
        worn.roll(3);
        worn.roll(2);
        worn.roll(1);
        // 2: 5 - 8 = -3, 3: 10 - 12 = -2; 9 by 2 and 4 by 3 are 35 by 6, by 20
        due(28, "unlike", () -> worn.unlike(0) + " by " + worn.unlike(1), "7 by 24");
        due(29, "a face without ODDS", () -> worn.worn(), 1);
        SnakeBoard even = on("die 0 1 1 0 0 0;");
        even.roll(2);
        even.roll(3);
        due(28, "true", () -> even.unlike(0) + " by " + even.unlike(1), "0 by 1");
    }

    private static void noted() {
        SnakeBoard x = on("last 10;exit 3 9;die 1 1 0 0 0 0;");
        due(31, "forget()", () -> x.forget(), -1);
        due(30, "note(11)", () -> x.note(11), -1);
        due(30, "note(-2)", () -> x.note(-2), -1);
        due(30, "STATUS", () -> x.count(12), 2);
        due(32, "nothing is noted", () -> x.cannot(), -1);
        due(34, "nothing is noted", () -> x.less(), 0);
        due(30, "note(1)", () -> x.note(1), 1);
        due(30, "note(9)", () -> x.note(9), 2);
        due(30, "a gap", () -> x.note(-1), 3);
        due(30, "note(0)", () -> x.note(0), 4);
        due(32, "not asked behind a gap", () -> x.cannot(), -1);
        due(30, "note(0)", () -> x.note(0), 5);
        due(32, "the first that can't come", () -> x.cannot(), 4);
        due(34, "but by 0", () -> x.less(), 1);
        due(30, "note(7)", () -> x.note(7), 6);
        due(34, "not by one less", () -> x.less(), 1);
        due(32, "the first one", () -> x.cannot(), 4);
        due(31, "forget()", () -> x.forget(), 5);
        due(31, "forget()", () -> x.forget(), 4);
        due(32, "forgotten", () -> x.cannot(), -1);
        due(31, "STATUS", () -> x.count(12), 2);
        SnakeBoard home = on("last 10;");
        int[] squares = {4, 10, 10, 9};
        for (int square : squares) {
            home.note(square);
        }
        due(32, "who is HOME goes nowhere", () -> home.cannot(), 3);
        due(34, "who is HOME goes nowhere", () -> home.less(), 0);
        SnakeBoard from = new SnakeBoard();
        from.note(7);
        due(32, "from 0 on", () -> from.cannot(), 0);
        due(34, "from 0 on", () -> from.less(), 0);
        SnakeBoard only = on("die 0 0 0 1 0 0;");
        only.note(3);
        due(34, "one less than a face with ODDS", () -> only.less(), 1);
        only.note(6);
        due(34, "3 of 4, not 4 of 5", () -> only.less(), 2);
        only.note(10);
        due(34, "what can come is none", () -> only.less(), 2);
        SnakeBoard more = on("goes throw+2;");
        more.note(2);
        more.note(12);
        due(34, "2 by a 0", () -> more.less(), 1);
        SnakeBoard full = new SnakeBoard();
        for (int i = 1; i <= 40; i++) {
            int many = i;
            due(30, "note", () -> full.note(-1), many);
        }
        due(30, "the 41st", () -> full.note(-1), -1);
        due(30, "STATUS", () -> full.count(12), 1);
        due(30, "how many", () -> full.count(8), 40);
    }

    private static void fitting() {
        SnakeBoard x = new SnakeBoard();
        x.fewest(0);
        due(33, "nothing is noted", () -> x.fits(), 1);
        due(14, "the empty row is kept", () -> x.row(0), NONE_SUCH);
        long power = 1;
        for (int i = 1; i <= 40; i++) {
            power = power == 1000000000000000000L || power > 1000000000000000000L / 6 ? 1000000000000000000L : 6 * power;
            long want = power;
            x.note(-1);
            if (i > 22) {
                due(33, i + " gaps", () -> x.fits(), want);
            }
        }
        due(14, "the first row", () -> row(x, 40).toString().replace("1, ", ""), "[1]");
        due(14, "row(40)", () -> x.row(40), NONE_SUCH);
        SnakeBoard y = on("last 20;exit 5 12;die 1 2 1 0 3 0;");
        y.note(-1);
        y.note(12);
        // 2 and 3, 3 and 2, not 5 and 0
        due(33, "fits()", () -> y.fits(), 2);
        due(14, "the first row", () -> row(y, 2), "[2, 3]");
        y.note(20);
        due(33, "none fits", () -> y.fits(), 0);
        due(33, "what is kept stays", () -> row(y, 2), "[2, 3]");
        fittingFarOn();
        fittingAnew();
    }

    /** The 1 leads far on, from where what is noted can't be reached, the 2 near. */
    private static void fittingFarOn() {
        for (int far : new int[] {36, 64, 68, 99, 100}) {
            SnakeBoard x = on("last 100;goes (throw=1)*" + far + "+(throw=2)*" + far % 32 + ";");
            x.note(-1);
            x.note(2 * (far % 32));
            // with 64 five faces stay on 0, both times
            int want = far == 64 ? 25 : 1;
            due(33, "fits() with " + far, () -> x.fits(), want);
            due(14, "the first row with " + far, () -> row(x, 2), "[2, 2]");
        }
    }

    /** What fitted before doesn't count. */
    private static void fittingAnew() {
        SnakeBoard x = on("last 100;goes (throw=1)*36+(throw=2)*4;");
        x.note(-1);
        x.note(40);
        due(33, "by 36 and 4, by 4 and 36", () -> x.fits(), 2);
        due(14, "the first row", () -> row(x, 2), "[1, 2]");
        x.forget();
        x.note(8);
        due(33, "by 4 and 4", () -> x.fits(), 1);
        due(14, "the first row", () -> row(x, 2), "[2, 2]");
    }

    private static void drawn() {
        SnakeBoard x = on("last 20;die 3 1 1 1 1 1;end in;again 2;meet;pieces 3;goes throw;");
        x.roll(1);
        x.note(1);
        x.fits();
        x.image();
        x.note(99);
        feed(x, "meet;");
        for (int[] wrong : new int[][] {{9, 3}, {101, 3}, {10, -1}, {10, 25}}) {
            due(35, "draw(0, " + wrong[0] + ", " + wrong[1] + ")", () -> x.draw(0, wrong[0], wrong[1]), BAD);
        }
        due(35, "nothing changes", () -> game(x) + " " + x.count(0) + " " + x.row(0), "1 0 0 turn 1 throws 1 20 1");
        due(35, "draw(0, 10, 6)", () -> x.draw(0, 10, 6), 5);
        due(35, "the board", () -> written(x), "last 10;die 3 1 1 1 1 1;exit 1 9;exit 7 8;exit 8 2;exit 9 1;exit 4 3;"
                + "end stay;pieces 2;");
        due(35, "a new game", () -> game(x), "0 0 turn 0 throws 0");
        due(35, "nothing is noted", () -> x.count(8), 0);
        due(35, "no row is kept", () -> x.row(0), NONE_SUCH);
        due(35, "no image", () -> x.restore(), false);
        due(35, "STATUS, tape", () -> x.count(12) + x.count(9), 21);
        due(35, "goes", () -> x.goes(0, 1), 9);
        due(35, "draw(0, 10, 24)", () -> x.draw(0, 10, 24), 9);
        due(35, "the feet", () -> x.exit(8, 0) * 10 + x.exit(8, 1), 65);
        due(35, "draw(0, 100, 0)", () -> x.draw(0, 100, 0), 0);
        due(35, "LAST", () -> x.count(0), 100);
    }

    private static void ended() {
        SnakeBoard x = on("last 10;die 0 0 0 0 0 1;exit 9 2;");
        due(36, "stay", () -> x.ended(0, 5), 5 * GRAINS);
        // 0, 6, 8, 6, 8 ..
        due(36, "back", () -> x.ended(1, 5), 5 * GRAINS);
        due(36, "in", () -> x.ended(2, 5), 2 * GRAINS);
        due(36, "by 0", () -> x.ended(2, 0), 0);
        due(36, "THE END stays", () -> x.count(3) + x.grains(0, 5, 1), 5 * GRAINS);
        due(36, "end 3", () -> x.ended(3, 401), NONE_SUCH);
        due(36, "end -1", () -> x.ended(-1, 401), NONE_SUCH);
        due(36, "n 401", () -> x.ended(0, 401), BAD);
        due(36, "n -1", () -> x.ended(0, -1), BAD);
        SnakeBoard coin = on("last 10;die 1 0 1 0 0 0;end in;");
        due(36, "back from it", () -> coin.ended(1, 6) - coin.ended(2, 6) > 0, true);
    }

    private static void pairs() {
        SnakeBoard x = on(SIXES);
        due(37, "together(0, 0, 10)", () -> x.together(0, 0, 10), 4 * GRAINS);
        due(37, "together(0, 0, 3)", () -> x.together(0, 0, 3), 3 * GRAINS);
        due(37, "together(0, 12, 10)", () -> x.together(0, 12, 10), 2 * GRAINS);
        due(37, "together(12, 6, 10)", () -> x.together(12, 6, 10), GRAINS);
        due(37, "together(12, 12, 10)", () -> x.together(12, 12, 10), 0);
        due(37, "together(0, 0, 0)", () -> x.together(0, 0, 0), 0);
        due(37, "n 60", () -> x.together(0, 0, 60), 4 * GRAINS);
        due(37, "n 61", () -> x.together(0, 0, 61), -2);
        due(37, "n 101", () -> x.together(0, 0, 101), BAD);
        due(37, "n -1", () -> x.together(0, 0, -1), BAD);
        due(37, "square", () -> x.together(13, 0, 101), NONE_SUCH);
        due(37, "square", () -> x.together(0, -1, 101), NONE_SUCH);
        due(37, "LAST 41", () -> on("last 41;").together(0, 0, 1), -2);
        due(37, "LAST 40", () -> on("last 40;").together(0, 0, 1), GRAINS);
        SnakeBoard thirds = on("last 10;die 1 1 1 0 0 0;");
        // with 9 and 9: a 1 brings one HOME, the other then needs 1 and 2/3 throws of two; else all stays
        due(37, "cut down", () -> thirds.together(9, 10, 3), GRAINS + 2 * (GRAINS + 2 * GRAINS / 3) / 3);
        SnakeBoard wide = on("last 40;die 0 0 0 0 0 1;end in;");
        due(37, "the last squares of 40", () -> wide.together(39, 38, 60), 2 * GRAINS);
        due(37, "one of 40 is HOME", () -> wide.together(40, 39, 60), GRAINS);
        due(38, "of 40", () -> wide.whom(39, 40, 6, 60) * 10 + wide.whom(40, 39, 6, 60), 1);
        SnakeBoard trap = on("last 12;exit 6 1;die 0 0 0 0 0 1;");
        // the one that is HOME can't go in place of the other
        due(37, "the other one must go", () -> trap.together(6, 12, 5), GRAINS);
        due(37, "the other one must go back", () -> trap.together(12, 0, 5), 5 * GRAINS);
        due(38, "whom(0, 6, 6, 2)", () -> x.whom(0, 6, 6, 2), 0);
        SnakeBoard coin = on("last 10;die 1 1 0 0 0 0;exit 9 1;");
        due(38, "the first would fall", () -> coin.whom(8, 7, 1, 9), 1);
        due(38, "the second would fall", () -> coin.whom(7, 8, 1, 9), 0);
        due(38, "nothing to come behind it", () -> coin.whom(8, 7, 1, 1), 0);
        due(38, "the first is HOME", () -> x.whom(12, 0, 6, 1), 1);
        due(38, "the second is HOME", () -> x.whom(0, 12, 6, 1), 0);
        due(38, "both are HOME", () -> x.whom(12, 12, 6, 1), -1);
        due(38, "both are HOME, SPENT", () -> x.whom(12, 12, 6, 61), -2);
        due(38, "LAST 41", () -> on("last 41;").whom(41, 41, 1, 1), -2);
        due(38, "n 0", () -> x.whom(0, 0, 6, 0), BAD);
        due(38, "n 101", () -> x.whom(0, 0, 6, 101), BAD);
        due(38, "square", () -> x.whom(13, 0, 6, 0), NONE_SUCH);
        due(38, "square", () -> x.whom(0, 13, 6, 0), NONE_SUCH);
        due(38, "face", () -> x.whom(0, 0, 7, 0), NONE_SUCH);
        // the first one falls, but the second, who is HOME, can't go for it
        due(38, "the second is HOME, the way bad", () -> coin.whom(8, 10, 1, 9), 0);
    }

    private static void writtenOnes() {
        SnakeBoard x = on(" last 0020 ; goes 007+( not 1or throw and(2)<at ) *3;pieces 1;meet;"
                + "again 06;end\nback;exit 3 04;exit 09 1;die 0 1 2 3 4 09;");
        String want = "last 20;die 0 1 2 3 4 9;exit 3 4;exit 9 1;end back;again 6;meet;pieces 1;"
                + "goes 007+(not 1 or throw and(2)<at)*3;";
        due(39, "written", () -> written(x), want);
        due(39, "how many", () -> x.written(-1), want.length());
        due(39, "one behind", () -> x.written(want.length()), NONE_SUCH);
        due(39, "-2", () -> x.written(-2), NONE_SUCH);
        due(39, "it reads the same", () -> read(x, want) + written(x), 0 + want);
        SnakeBoard wide = on("last 100;exit 99 100;exit 10 9;");
        due(39, "three digits", () -> written(wide), "last 100;die 1 1 1 1 1 1;exit 99 100;exit 10 9;end stay;pieces 2;");
        SnakeBoard in = on("end in;goes throw;");
        due(39, "end in", () -> written(in), "last 36;die 1 1 1 1 1 1;end in;pieces 2;goes throw;");
        StringBuilder dense = new StringBuilder("goes 1");
        StringBuilder loose = new StringBuilder("goes 1");
        while (dense.length() < 490) {
            dense.append("or1");
            loose.append(" or 1");
        }
        String longest = "last 36;die 1 1 1 1 1 1;end stay;pieces 2;" + loose + ";";
        // an object is used for at most 512 calls
        SnakeBoard first = on(dense + ";");
        SnakeBoard second = on(dense + ";");
        due(39, "the longest", () -> written(first, 0, 450) + written(second, 450, longest.length()), longest);
        due(39, "how many", () -> second.written(-1), longest.length());
    }

    private static void images() {
        SnakeBoard x = on("last 20;");
        due(41, "no image", () -> x.restore(), false);
        x.roll(3);
        x.note(3);
        x.note(99);
        x.image();
        x.roll(4);
        x.roll(1);
        x.forget();
        x.note(50);
        feed(x, "x");
        x.board(1);
        x.fewest(0);
        due(41, "restore()", () -> x.restore(), true);
        due(41, "the game", () -> game(x), "3 0 turn 1 throws 1");
        due(41, "its throw", () -> x.rolled(0, 1) + " " + x.often(1), "3 0");
        due(41, "what is noted", () -> x.count(8) + " " + x.cannot(), "1 -1");
        due(41, "STATUS", () -> x.count(10) + " " + x.count(11) + " " + x.count(12), "0 0 1");
        due(41, "the row stays", () -> row(x, 4).toString(), "[2, 6, 6, 6]");
        x.undo();
        due(41, "again", () -> x.restore(), true);
        due(41, "the game again", () -> game(x), "3 0 turn 1 throws 1");
        x.roll(5);
        x.image();
        x.roll(5);
        due(40, "another image", () -> x.restore(), true);
        due(40, "the game", () -> game(x), "3 5 turn 0 throws 2");
        SnakeBoard y = on("last 20;pieces 1;goes 0;");
        y.rolls(7, 200);
        int[] before = {y.often(1), y.often(6), y.rolled(0, 1), y.rolled(199, 1)};
        for (int i = 0; i < 40; i++) {
            y.note(0);
        }
        y.image();
        for (int i = 0; i < 40; i++) {
            y.forget();
        }
        for (int i = 0; i < 40; i++) {
            y.note(1);
        }
        for (int i = 0; i < 200; i++) {
            y.undo();
        }
        due(41, "rolls on", () -> y.rolls(5, 200), 200);
        due(41, "can't be", () -> y.cannot(), 0);
        y.restore();
        due(41, "the notes are as they were", () -> y.cannot(), -1);
        int[] behind = {y.often(1), y.often(6), y.rolled(0, 1), y.rolled(199, 1)};
        due(41, "the throws are as they were", () -> Arrays.toString(behind), Arrays.toString(before));
    }
}
