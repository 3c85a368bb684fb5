import java.util.ArrayList;
import java.util.List;
import java.util.function.IntUnaryOperator;
import java.util.function.ToIntFunction;

/** The bounds of each call, promise by promise, and what a call changes that is refused. */
public final class BoundaryCallTest extends Talk {
    public static void main(String[] args) {
        tellingCalls();
        comingCalls();
        askingCalls();
        reckoningCalls();
        keepingCalls();
        refusedCalls();
        end("boundaries of calls");
    }

    // ---- help ----

    /** A call refuses what is just outside a span and far off, and takes both ends of it. */
    private static void span(String what, IntUnaryOperator call, int least, int most, int refusal) {
        for (int value : new int[] {least - 1, most + 1, Integer.MIN_VALUE, Integer.MAX_VALUE}) {
            due(what + " " + value, call.applyAsInt(value), refusal);
        }
        due(what + " " + least + " is taken", call.applyAsInt(least) != refusal, true);
        due(what + " " + most + " is taken", call.applyAsInt(most) != refusal, true);
    }

    private static final int[] ONES = new int[260];

    static {
        java.util.Arrays.fill(ONES, 1);
    }

    private static WeddingPews churchWithTape(int bytes) {
        WeddingPews x = new WeddingPews();
        tape(x, java.util.Arrays.copyOf(ONES, bytes));
        return x;
    }

    /** A call on a full tape of ones leaves all of it if it is refused, else nothing. */
    private static int onTape(ToIntFunction<WeddingPews> call, int refusal) {
        WeddingPews x = churchWithTape(260);
        int answer = call.applyAsInt(x);
        due("the tape " + (answer == refusal ? "stays" : "is empty then"), x.count(8), answer == refusal ? 260 : 0);
        return answer;
    }

    private static void spanOnTape(String what, TapeCall call, int least, int most, int refusal) {
        span(what, value -> onTape(x -> call.ask(x, value), refusal), least, most, refusal);
    }

    private interface TapeCall {
        int ask(WeddingPews x, int value);
    }

    /** A call with so many bytes is refused on an empty tape, which stays empty. */
    private static void hasNotSoMany(ToIntFunction<WeddingPews> call, int refusal) {
        WeddingPews x = new WeddingPews();
        due("an empty tape", call.applyAsInt(x), refusal);
        due("it is empty still", x.count(8), 0);
    }

    private static int oneOrNone(boolean answer) {
        return answer ? 1 : NONE;
    }

    // ---- promises 1 to 6: what is told ----

    private static void tellingCalls() {
        test("Nobody is there, no LAW; THE SEED 1.", BoundaryCallTest::newObject);
        test("A COAT: a SEAT is kept for a FAMILY (0 to 15; NONE: not any more): true; false: no such ones.",
                BoundaryCallTest::coat);
        test("Twenty bytes come behind the tape, the highest of each int first: how many it has; NONE if that would be "
                + "more than 260.", BoundaryCallTest::feed);
        test("THE LAW by the first n bytes of the tape (1 to 240; empty then), in place of the one before: how many RULES; "
                + "a FAULT: -1000 times its number, less its place (the one before stays)", BoundaryCallTest::law);
        test("NONE: no such n, it has not so many (the tape stays).", BoundaryCallTest::noSuchN);
        test("A LIST by the first n bytes of the tape (1 to 120; empty then): how many come behind THE LINE; a FAULT; "
                + "NONE: as above.", () -> bytesOfText("ha1", "hax", 1, -1002, WeddingPews::list));
        test("MOVES by the first n bytes of the tape (1 to 120; empty then): how many LINES; a FAULT; NONE: as above.",
                () -> bytesOfText("0=1", "0=2", 1, -7002, WeddingPews::moves));
    }

    private static void newObject() {
        for (int what = 0; what < 230; what++) {
            boolean isNone = what > 25;
            due("count " + what, new WeddingPews().count(what), what == 9 ? 1 : isNone ? NONE : 0);
        }
        WeddingPews x = new WeddingPews();
        for (int seat = 0; seat < 144; seat++) {
            due("guestAt " + seat, x.guestAt(seat, 0), -2);
        }
        due("undo", x.undo(), false);
        due("torn", x.torn(), 0);
        due("together", x.together(0, 0), -3);
        due("seesNothing", x.seesNothing(1), -2);
        due("singers", x.singers(1), -2);
        due("strangers", x.strangers(1), -2);
        due("edge", x.edge(0), 0);
        due("photo", x.photo(0), 0);
        due("inLine", x.inLine(5), 0);
        due("nobody comes", x.come(200), 0);
        due("nobody is tried", x.tried(200, 2), -2);
    }

    private static void coat() {
        WeddingPews x = new WeddingPews();
        span("seat", seat -> oneOrNone(x.coat(seat, 0)), 0, 143, NONE);
        span("family", family -> oneOrNone(x.coat(7, family)), -1, 15, NONE);
        due("kept for 15", x.coatAt(7), 15);
        due("16 changes nothing", x.coat(7, 16), false);
        due("-2 changes nothing", x.coat(7, -2), false);
        due("still kept for 15", x.coatAt(7), 15);
        due("not any more", x.coat(7, NONE), true);
        due("it is not", x.coatAt(7), -2);
        due("not any more, though it was not", x.coat(7, NONE), true);
        due("kept for 0", x.coatAt(143), 0);
        due("its neighbour is not", x.coatAt(142), -2);
        WeddingPews y = seated("0:ha1");
        due("where somebody sits, too", y.coat(0, 9), true);
        due("where somebody sits, it is kept", y.coatAt(0), 9);
        due("he sits there still", y.guestAt(0, 1), 0);
    }

    private static void feed() {
        WeddingPews x = new WeddingPews();
        for (int i = 1; i <= 13; i++) {
            due("feed " + i, x.feed(0x68613500 + i, 0, 0, 0, 0), 20 * i);
            due("it has so many", x.count(8), 20 * i);
        }
        due("one more than 260", x.feed(0x78787878, 1, 1, 1, 1), NONE);
        due("260 still", x.count(8), 260);
        due("the first bytes are as they were", x.list(3), 1);
        due("it is empty", x.count(8), 0);
        due("twenty again", x.feed(0x00010203, 0x04050607, 0x7f8081ff, 0x00000000, 0x12345678), 20);
        due("the highest of each int first", x.hats(12, 2), 0);
        x.feed(0, 0, 0, 0x00000100, 0x000000ff);
        due("the lowest of each int last", x.ushers(20, 1, 15), 1);
        x.feed(0, 0, 0, 0x00000100, 0x000000ff);
        due("the last byte of all", x.ushers(20, 1, 100), 256);
        x.feed(0xff000000, 0, 0, 0, 0);
        due("a byte is 0 to 255", x.ushers(1, 1, 100), 255);
        x.feed(Integer.MIN_VALUE, Integer.MAX_VALUE, -1, 0, 0);
        due("128, 0, 0, 0, 127, 255, 255, 255, 255 ..", x.ushers(12, 1, 100), 128 + 127 + 7 * 255);
    }

    private static void law() {
        WeddingPews x = new WeddingPews();
        due("two rules", law(x, "e1(q=1);o(1=1)"), 2);
        list(x, "ha1");
        String[] faulty = {"x", "e1(q=0);", "e123456(1=1)", "o(((((((1=1)))))))", "e1(q=0);e1(q=0);e1(q=0);x"};
        int[] answers = {-1000, -1008, -2006, -5007, -1024};
        for (int i = 0; i < faulty.length; i++) {
            due(faulty[i], law(x, faulty[i]), answers[i]);
            due(faulty[i] + ": the tape is empty", x.count(8), 0);
            due(faulty[i] + ": the rules stay", x.count(7), 2);
            due(faulty[i] + ": the one before stays", x.tried(1, 2), 80);
        }
        String seventeen = "e1(q=0);".repeat(16) + "e";
        due("a 17th", law(x, seventeen), -4128);
        due("a 17th: the one before stays", x.tried(1, 2), 80);
        for (int i = 0; i < 3; i++) {
            due("in place of the one before", law(x, "e1(r=3)"), 1);
            due("one rule", x.count(7), 1);
            due("no o any more", x.tried(1, 2), 27);
        }
        due("a place of three digits", law(x, "e11" + "+1".repeat(118) + "x"), -1239);
    }

    private static void noSuchN() {
        WeddingPews x = new WeddingPews();
        List<IntUnaryOperator> calls = List.of(x::law, x::list, x::moves);
        for (IntUnaryOperator call : calls) {
            due("an empty tape", call.applyAsInt(1), NONE);
        }
        text(x, "e1(1=1)");
        for (int n : new int[] {0, -1, 21, 120, 240, Integer.MIN_VALUE, Integer.MAX_VALUE}) {
            for (IntUnaryOperator call : calls) {
                due("n " + n, call.applyAsInt(n), NONE);
                due("the tape stays", x.count(8), 20);
            }
        }
        due("as many as it has", x.law(20), -1007);
        text(x, "e1(1=1)");
        due("its first bytes are as they were", x.law(7), 1);
        due("empty then", x.count(8), 0);
    }

    private interface TextCall {
        int read(WeddingPews x, int n);
    }

    /** The first three bytes are a text that stands, and one with a fault; 120 bytes at most. */
    private static void bytesOfText(String good, String bad, int answer, int fault, TextCall call) {
        for (int n : new int[] {0, -1, 121, 240, 260, 261, Integer.MIN_VALUE, Integer.MAX_VALUE}) {
            WeddingPews x = twoInFront();
            text(x, good + "x".repeat(257));
            due("n " + n, call.read(x, n), NONE);
            due("n " + n + ": the tape stays", x.count(8), 260);
            due("n " + n + ": then its first bytes", call.read(x, 3), answer);
            due("n " + n + ": empty then", x.count(8), 0);
        }
        for (int n : new int[] {4, 119, 120}) {
            WeddingPews x = twoInFront();
            text(x, good + "x".repeat(257));
            due("n " + n + ": a fault", call.read(x, n), -1003);
            due("n " + n + ": empty then, too", x.count(8), 0);
        }
        WeddingPews x = twoInFront();
        text(x, bad);
        due("a fault", call.read(x, 3), fault);
        due("a fault: empty then", x.count(8), 0);
        due("it has not so many", call.read(x, 1), NONE);
        text(x, bad + "x".repeat(97));
        due("it has one too few", call.read(x, 101), NONE);
        due("it has one too few: the tape stays", x.count(8), 100);
        due("it has as many", call.read(x, 100), fault);
    }

    // ---- promises 7 and 8: who comes ----

    private static void comingCalls() {
        test("So many come (1 to 200; as many as are in THE LINE): over how many they CLIMB in all; NONE: no such n.",
                BoundaryCallTest::come);
        test("So many more that come (1 to 200; as many as are in THE LINE) are tried, what 0 over how many they CLIMB, 1 "
                + "how many STAND of them", BoundaryCallTest::tried);
        test("2 the SEAT of the last one (STANDS: -2; nobody comes: -2)", () -> {
            WeddingPews x = new WeddingPews();
            for (int what = 0; what < 5; what++) {
                due("nobody comes, what " + what, x.tried(1, what), what == 2 ? -2 : 0);
            }
            list(x, "ha1,hb1");
            law(x, "e1(f=0)");
            due("the last sits", x.tried(1, 2), 0);
            due("the last stands", x.tried(2, 2), -2);
            due("the last stands, as many as there are", x.tried(200, 2), -2);
            due("one stands", x.tried(2, 1), 1);
            law(x, "e1(f=1)");
            due("the first stands", x.tried(1, 2), -2);
            due("the last sits though", x.tried(2, 2), 0);
            x.come(2);
            due("one has sat down, nobody comes", x.tried(1, 2), -2);
        });
        test("3 how many more sit on side 0 than on side 1 then (below 0: fewer), 4 TORN FAMILIES then (bits); -1000: no "
                + "such ones.", BoundaryCallTest::triedSides);
    }

    private static void come() {
        span("n", n -> {
            WeddingPews x = churchWithLine(3);
            return x.come(n);
        }, 1, 200, NONE);
        WeddingPews x = churchWithLine(200);
        law(x, "e[99-8*q]-r(1=1)");
        due("0 is refused", x.come(0), NONE);
        due("201 is refused", x.come(201), NONE);
        due("nobody has come", x.count(0), 0);
        due("200 wait", x.count(1), 200);
        due("X is as it was", x.count(9), 1);
        due("one comes", x.come(1), 0);
        due("199 wait", x.count(1), 199);
        due("as many as there are", x.come(200), 16 * 36);
        due("none waits", x.count(1), 0);
        due("200 have come", x.count(0), 200);
        due("climbed", x.count(4), 16 * 36);
        due("nobody comes", x.come(200), 0);
        due("200 have come still", x.count(0), 200);
        WeddingPews all = churchWithLine(200);
        due("all 200 at once", all.come(200), 0);
        due("all 200 stand", all.count(2), 200);
    }

    private static void tried() {
        WeddingPews x = churchWithLine(200);
        law(x, "e[99-8*q]-r(1=1)");
        span("n", n -> x.tried(n, 0), 1, 200, -1000);
        span("what", what -> x.tried(1, what), 0, 4, -1000);
        due("all climb", x.tried(200, 0), 16 * 36);
        due("56 stand", x.tried(200, 1), 56);
        due("the 144th", x.tried(144, 2), 143);
        due("the 145th", x.tried(145, 2), -2);
        x.come(195);
        due("five are left, they stand", x.tried(200, 1), 5);
        due("of those before none is counted", x.tried(1, 1), 1);
        due("over nobody", x.tried(200, 0), 0);
    }

    private static void triedSides() {
        WeddingPews x = churchWithLine(200);
        law(x, "e9-r(q=1)");
        due("72 fewer", x.tried(200, 3), -72);
        due("one fewer", x.tried(1, 3), -1);
        law(x, "e9-r(q=0)");
        due("72 more", x.tried(72, 3), 72);
        due("not torn by nine", x.tried(9, 4), 0);
        due("torn by ten", x.tried(10, 4), 1);
        for (int what : new int[] {-1, 5, 6, 1000}) {
            due("what " + what, x.tried(1, what), -1000);
        }
        for (int n : new int[] {0, -1, 201}) {
            for (int what = 0; what < 5; what++) {
                due("n " + n + ", what " + what, x.tried(n, what), -1000);
            }
        }
        WeddingPews y = seated("0:hp1 72:hp1 73:hc1");
        due("nobody comes: as it is", y.tried(1, 3), -1);
        due("nobody comes: torn as it is", y.tried(1, 4), 32768);
    }

    // ---- promises 9 to 14, 16, 18 to 22, 25, 31: what is asked ----

    private static void askingCalls() {
        test("Of who sits on a SEAT, what 0 side, 1 FAMILY, 2 HEIGHT, 3 a child (1, 0), 4 a singer, 5 as the how manieth "
                + "he came (0 on), 6 VIEW (nobody: 0); -2 (of all): nobody sits there; NONE: no such ones.",
                BoundaryCallTest::guestAt);
        test("The FAMILY for which a SEAT is kept; -2: none; NONE: no such SEAT.", () -> {
            WeddingPews x = new WeddingPews();
            span("seat", x::coatAt, 0, 143, NONE);
            x.coat(0, 0);
            x.coat(143, 15);
            due("kept for 0", x.coatAt(0), 0);
            due("kept for 15", x.coatAt(143), 15);
            due("none", x.coatAt(1), -2);
        });
        test("Of a PEW (side, ROW), what 0 how many sit there, 1 FAMILIES (bits), 2 RING (taken), 3 RING (one FAMILY), 4 "
                + "COATS on SEATS that are not taken; NONE: no such ones.", BoundaryCallTest::pew);
        test("TORN (bits).", () -> {
            due("none", new WeddingPews().torn(), 0);
            due("the lowest bit", seated("0:ha1 143:ha1").torn(), 1);
            due("the highest bit", seated("0:hp1 143:hp1").torn(), 1 << 15);
        });
        test("TOGETHER of a FAMILY (0 to 15), what 0 how many, 1 the PEW (8 times the side, and the ROW); -2: there is no "
                + "such PEW; -3: nobody of it sits; NONE: no such ones.", BoundaryCallTest::together);
        test("SEES NOTHING, what 0 how many, 1 the first SEAT (-2: none); NONE: no such what.",
                () -> span("what", new WeddingPews()::seesNothing, 0, 1, NONE));
        test("ORDER of a PEW, what 0 from the wall on, 1 from the aisle on, 2 in the row in which they came; NONE: no such "
                + "ones.", () -> {
                    WeddingPews x = seated("143:ha1 142:ha1");
                    span("side", side -> x.order(side, 0, 1), 0, 1, NONE);
                    span("row", row -> x.order(1, row, 1), 0, 7, NONE);
                    span("what", what -> x.order(1, 7, what), 0, 2, NONE);
                    due("the last pew", x.order(1, 7, 1), 1);
                    due("the last pew, as they came", x.order(1, 7, 2), 0);
                    WeddingPews y = seated("8:ha1 9:ha1");
                    due("who sits in another pew is not climbed over", y.order(0, 1, 1), 0);
                    due("nor as they came", y.order(0, 1, 2), 0);
                });
        test("FATHERS on a side, so many ROWS apart, what 0 ways (two SEATS once), 1 the lower SEAT, 2 the other one; -2 "
                + "(of 1, 2): none; NONE: no such ones.", () -> {
                    WeddingPews x = new WeddingPews();
                    span("side", side -> x.fathers(side, 0, 0), 0, 1, NONE);
                    span("apart", apart -> x.fathers(0, apart, 0), 0, 7, NONE);
                    span("what", what -> x.fathers(0, 0, what), 0, 2, NONE);
                    WeddingPews full = churchWithLeft();
                    due("none: 0 ways", full.fathers(0, 0, 0), 0);
                    due("none: no lower", full.fathers(0, 0, 1), -2);
                    due("none: no other", full.fathers(0, 0, 2), -2);
                });
        test("SINGERS, what 0 how many sit, 1 the ROW, 2 how far in all; -2 (of 1, 2): none; NONE: no such what.", () -> {
            WeddingPews x = new WeddingPews();
            span("what", x::singers, 0, 2, NONE);
            due("none", x.singers(0), 0);
            due("none: no row", x.singers(1), -2);
            due("none: not far", x.singers(2), -2);
        });
        test("STRANGERS, what 0 how many, 1 the first SEAT (-2: none); NONE: no such what.", () -> {
            WeddingPews x = new WeddingPews();
            span("what", x::strangers, 0, 1, NONE);
            due("none", x.strangers(1), -2);
        });
        test("Of who is in THE LINE, what 0 to 2 how many of that side, 3 children, 4 singers, 5 FAMILIES (bits); NONE: no "
                + "such what.", BoundaryCallTest::inLine);
        test("EDGE, what 0 children at the edge, 1 others; NONE: no such what.",
                () -> span("what", new WeddingPews()::edge, 0, 1, NONE));
        test("PHOTO of a side; NONE: no such side.", () -> span("side", new WeddingPews()::photo, 0, 1, NONE));
        test("0 how many have come, 1 in THE LINE, 2 STAND, 3 sit, 4 CLIMBED in all, 5 sit on side 0, 6 on side 1, 7 RULES, "
                + "8 bytes of the tape, 9 X; 10 + f how many of FAMILY f sit; 30 + i the FAMILY of the i-th in THE LINE (0 "
                + "on; to 229). NONE for others.", BoundaryCallTest::count);
    }

    private static void guestAt() {
        WeddingPews x = seated("0:ha0 143:bp9cs");
        int[][] want = {{0, 0, 0, 0, 0, 0, 0}, {2, 15, 9, 1, 1, 1, 0}};
        for (int what = 0; what < 7; what++) {
            due("the first seat, what " + what, x.guestAt(0, what), want[0][what]);
            due("the last seat, what " + what, x.guestAt(143, what), want[1][what]);
        }
        span("seat", seat -> x.guestAt(seat, 0), 0, 143, NONE);
        span("what", what -> x.guestAt(0, what), 0, 6, NONE);
        for (int what = 0; what < 7; what++) {
            due("nobody sits there, what " + what, x.guestAt(1, what), -2);
        }
        due("nobody sits there, no such what", x.guestAt(1, 7), NONE);
        due("no such seat, no such what", x.guestAt(144, 7), NONE);
    }

    private static void pew() {
        WeddingPews x = new WeddingPews();
        span("side", side -> x.pew(side, 0, 0), 0, 1, NONE);
        span("row", row -> x.pew(0, row, 0), 0, 7, NONE);
        span("what", what -> x.pew(0, 0, what), 0, 4, NONE);
        for (int place = 0; place < 9; place++) {
            x.coat(63 + place, place);
        }
        due("nine coats", x.pew(0, 7, 4), 9);
        due("none in his first", x.pew(1, 0, 4), 0);
        due("none in the row ahead", x.pew(0, 6, 4), 0);
        list(x, "ha1");
        law(x, "e1(r=7&q=0)");
        x.come(1);
        due("eight are not taken", x.pew(0, 7, 4), 8);
        x.coat(71, NONE);
        due("seven are left", x.pew(0, 7, 4), 7);
        WeddingPews y = seated("135:ha1 136:hp1 137:hp1");
        due("families a and p", y.pew(1, 7, 1), 32769);
        due("no family", y.pew(1, 6, 1), 0);
        due("full", churchWithLeft().pew(1, 7, 0), 9);
    }

    private static void together() {
        WeddingPews x = seated("143:ha1 142:hp1");
        span("family", family -> x.together(family, 0), 0, 15, NONE);
        span("what", what -> x.together(0, what), 0, 1, NONE);
        due("p", x.together(15, 0), 0);
        due("p, the pew", x.together(15, 1), 15);
        due("nobody of b", x.together(1, 0), -3);
        due("nobody of b, the pew", x.together(1, 1), -3);
        WeddingPews full = churchWithLeft();
        moves(full, "0!;143!");
        list(full, "2hb1");
        full.come(2);
        due("two of b, in two full pews", full.together(1, 0), -2);
        due("two of b, which", full.together(1, 1), -2);
        due("no such pew", full.together(0, 0), -2);
        due("no such pew, which", full.together(0, 1), -2);
        due("nobody of p, though full", full.together(15, 0), -3);
    }

    private static void inLine() {
        WeddingPews x = new WeddingPews();
        span("what", x::inLine, 0, 5, NONE);
        list(x, "hc1");
        due("one alone", x.inLine(5), 4);
        due("one alone, hers", x.inLine(0), 1);
        x.come(1);
        list(x, "9ha1c,9gp1s,9bh1cs");
        int[] want = {9, 9, 9, 18, 18, 1 << 15 | 1 << 7 | 1};
        for (int what = 0; what < 6; what++) {
            due("what " + what, x.inLine(what), want[what]);
        }
        x.come(200);
        for (int what = 0; what < 6; what++) {
            due("nobody, what " + what, x.inLine(what), 0);
        }
        due("200 of her side", churchWithLine(200).inLine(0), 200);
    }

    private static void count() {
        WeddingPews x = churchWithLine(200);
        for (int what : new int[] {-1, -2, 26, 27, 28, 29, 230, 231, 1000, Integer.MIN_VALUE, Integer.MAX_VALUE}) {
            due("what " + what, x.count(what), NONE);
        }
        due("the first", x.count(30), 0);
        due("the 200th", x.count(229), 0);
        x.come(1);
        due("no 200th", x.count(229), NONE);
        due("the 199th", x.count(228), 0);
        x.come(198);
        due("one is left", x.count(30), 0);
        due("no other", x.count(31), NONE);
        x.come(1);
        due("none is left", x.count(30), NONE);
        WeddingPews y = seated("0:ha1 72:ha1 143:hp1");
        tape(y, new int[40]);
        y.seed(65535);
        int[] want = {3, 0, 0, 3, 2, 1, 2, 1, 40, 65535};
        for (int what = 0; what < want.length; what++) {
            due("count " + what, y.count(what), want[what]);
        }
        due("of family a", y.count(10), 2);
        due("of family b", y.count(11), 0);
        due("of family p", y.count(25), 1);
        due("a full church", churchWithLeft().count(10), 144);
    }

    // ---- promises 15, 17, 23, 24, 26: what is reckoned of the tape ----

    private static void reckoningCalls() {
        test("EVEN by the first n bytes of the tape (families; n 1 to 12; empty then), so many on her side, on his (0 to "
                + "200 each), what 0 how uneven, 1 which go to hers (bits); NONE: no such ones, it has not so many (the "
                + "tape stays).", () -> {
                    spanOnTape("n", (x, n) -> x.even(n, 0, 0, 0), 1, 12, NONE);
                    spanOnTape("hers", (x, hers) -> x.even(1, hers, 0, 0), 0, 200, NONE);
                    spanOnTape("his", (x, his) -> x.even(1, 0, his, 0), 0, 200, NONE);
                    spanOnTape("what", (x, what) -> x.even(1, 0, 0, what), 0, 1, NONE);
                    hasNotSoMany(x -> x.even(1, 0, 0, 0), NONE);
                    firstBytes((x, n) -> x.even(n, 0, 0, 0), 1, 2, 3);
                    firstBytes((x, n) -> x.even(n, 0, 0, 1), 31, 1, 1, 1, 1, 1, 5);
                    firstBytes((x, n) -> x.even(n, 0, 9, 1), 127, 1, 1, 1, 1, 1, 1, 1);
                    due("the first twelve", onTape(x -> x.even(12, 0, 0, 1), NONE), 63);
                    due("the first alone", onTape(x -> x.even(1, 0, 200, 0), NONE), 199);
                });
        test("MORE FIT by the first n bytes of the tape (families; n 1 to 6; empty then), what 0 how many, 1 which (bits); "
                + "-2: a family of 0, above 9; NONE: no such ones, it has not so many (the tape stays).", () -> {
                    spanOnTape("n", (x, n) -> x.moreFit(n, 0), 1, 6, NONE);
                    spanOnTape("what", (x, what) -> x.moreFit(1, what), 0, 1, NONE);
                    hasNotSoMany(x -> x.moreFit(1, 0), NONE);
                    firstBytes((x, n) -> x.moreFit(n, 0), 2, 9, 9);
                    firstBytes((x, n) -> x.moreFit(n, 1), 3, 9, 9);
                    for (int family = 0; family < 256; family++) {
                        WeddingPews x = new WeddingPews();
                        tape(x, 1, family);
                        due("a family of " + family, x.moreFit(2, 0), family >= 1 && family <= 9 ? 2 : -2);
                        due("a family of " + family + ": empty then", x.count(8), 0);
                        tape(x, 1, family);
                        due("a family of " + family + " behind the first", x.moreFit(1, 1), 1);
                        tape(x, family, 1);
                        due("no such what goes ahead", x.moreFit(2, 2), NONE);
                    }
                });
        test("USHERS by the first n bytes of the tape (minutes; n 1 to 20; empty then), so many ushers (1 to 8), what 100 "
                + "behind how many minutes, else when GUEST what (0 to n - 1) begins to be led; NONE: no such ones, it has "
                + "not so many (the tape stays).", BoundaryCallTest::ushers);
        test("The least time likewise, in any row (n 1 to 10).", () -> {
            spanOnTape("n", (x, n) -> x.leastTime(n, 1), 1, 10, NONE);
            spanOnTape("many", (x, many) -> x.leastTime(1, many), 1, 8, NONE);
            hasNotSoMany(x -> x.leastTime(1, 1), NONE);
            firstBytes((x, n) -> x.leastTime(n, 1), 3, 1, 2);
            firstBytes((x, n) -> x.leastTime(n, 8), 2, 1, 2);
            due("ten", onTape(x -> x.leastTime(10, 1), NONE), 10);
            due("ten by eight", onTape(x -> x.leastTime(10, 8), NONE), 2);
        });
        test("HATS by the first n bytes of the tape (heights; n 1 to 12; empty then), what 0 how many are seen, 1 changes, "
                + "2 how many must go; NONE: no such ones, it has not so many (the tape stays).", () -> {
                    spanOnTape("n", (x, n) -> x.hats(n, 0), 1, 12, NONE);
                    spanOnTape("what", (x, what) -> x.hats(1, what), 0, 2, NONE);
                    hasNotSoMany(x -> x.hats(1, 0), NONE);
                    firstBytes((x, n) -> x.hats(n, 0), 2, 1, 3, 2);
                    firstBytes((x, n) -> x.hats(n, 1), 1, 1, 3, 2);
                    firstBytes((x, n) -> x.hats(n, 2), 1, 1, 3, 2);
                    due("twelve", onTape(x -> x.hats(12, 2), NONE), 11);
                });
    }

    /** What stands behind the first n bytes, 255 or 0, does not count. */
    private static void firstBytes(TapeCall call, int want, int... first) {
        for (int behind : new int[] {0, 255}) {
            WeddingPews x = new WeddingPews();
            int[] bytes = java.util.Arrays.copyOf(first, 20);
            java.util.Arrays.fill(bytes, first.length, 20, behind);
            tape(x, bytes);
            due(first.length + " bytes, " + behind + " behind them", call.ask(x, first.length), want);
        }
    }

    private static void ushers() {
        firstBytes((x, n) -> x.ushers(n, 1, 100), 3, 1, 2);
        firstBytes((x, n) -> x.ushers(n, 2, 100), 2, 1, 2);
        spanOnTape("n", (x, n) -> x.ushers(n, 1, 100), 1, 20, NONE);
        spanOnTape("many", (x, many) -> x.ushers(1, many, 100), 1, 8, NONE);
        hasNotSoMany(x -> x.ushers(1, 1, 100), NONE);
        for (int n = 1; n <= 20; n++) {
            int guests = n;
            spanOnTape("what of " + n, (x, what) -> x.ushers(guests, 1, what), 0, n - 1, NONE);
            due("the last of " + n, onTape(x -> x.ushers(guests, 1, guests - 1), NONE), n - 1);
            due("in all " + n, onTape(x -> x.ushers(guests, 1, 100), NONE), n);
        }
        for (int what : new int[] {20, 99, 101, 200}) {
            due("what " + what, onTape(x -> x.ushers(20, 1, what), NONE), NONE);
        }
    }

    // ---- promises 27 to 30 ----

    private static void keepingCalls() {
        test("THE SEED (0 to 65535; X, too): true; false: no such number.", () -> {
            WeddingPews x = new WeddingPews();
            span("x", seed -> oneOrNone(x.seed(seed)), 0, 65535, NONE);
            due("X, too", x.count(9), 65535);
            due("65536 is none", x.seed(65536), false);
            due("-1 is none", x.seed(-1), false);
            due("X is as it was", x.count(9), 65535);
            due("0 is one", x.seed(0), true);
            due("X is 0", x.count(9), 0);
        });
        test("KEPT: how many have come.", () -> {
            WeddingPews x = new WeddingPews();
            due("none", x.keep(), 0);
            waitBehind(x, 200);
            due("they wait", x.keep(), 0);
            x.come(200);
            due("all stand", x.keep(), 200);
        });
        test("UNDONE: true; false: none was KEPT.", () -> {
            due("nothing is undone that was not kept", state(() -> {
                WeddingPews x = churchWithLine(9);
                x.come(3);
                due("none was kept", x.undo(), false);
                return x;
            }), state(() -> {
                WeddingPews x = churchWithLine(9);
                x.come(3);
                return x;
            }));
            WeddingPews x = new WeddingPews();
            x.keep();
            for (int i = 0; i < 3; i++) {
                due("undone, time " + i, x.undo(), true);
            }
        });
        test("CHECK of a side by the first n bytes of the tape (0 to 8; empty then): NONE: right; else the first ROW that "
                + "is not so; -2: no such ones, it has not so many (the tape stays).", () -> {
                    spanOnTape("side", (x, side) -> x.check(side, 1), 0, 1, -2);
                    spanOnTape("n", (x, n) -> x.check(0, n), 0, 8, -2);
                    hasNotSoMany(x -> x.check(0, 1), -2);
                    firstBytes((x, n) -> x.check(0, n), NONE, 0, 0);
                    due("none of an empty tape is right", new WeddingPews().check(1, 0), NONE);
                    due("none of a tape is right", onTape(x -> x.check(1, 0), -2), NONE);
                    due("the first is not so", onTape(x -> x.check(1, 8), -2), 0);
                });
    }

    // ---- what a call changes that is refused ----

    private static void refusedCalls() {
        test("A call that is refused (NONE, false) changes nothing but the tape, where it is told.",
                BoundaryCallTest::refusedChangesNothing);
    }

    /** Much has happened here, some of it was kept, and there are twenty bytes on the tape. */
    private static WeddingPews busyChurch() {
        WeddingPews x = new WeddingPews();
        law(x, "e9-r(q=s);y3(w<5);o(c=1)");
        list(x, "4ha5c,3gb6s,bp0cs,2hc9");
        x.come(5);
        x.coat(0, 3);
        x.keep();
        x.come(2);
        x.coat(143, 15);
        moves(x, "72!");
        x.seed(4711);
        tape(x, 1, 2, 3, 4, 5, 6, 7, 8, 9, 10);
        return x;
    }

    /** What is due later shows the law, what is kept and the tape's bytes. */
    private static String later(ToIntFunction<WeddingPews> call) {
        WeddingPews x = busyChurch();
        call.applyAsInt(x);
        StringBuilder builder = new StringBuilder();
        for (int what = 0; what < 5; what++) {
            builder.append(x.tried(200, what)).append(' ');
        }
        builder.append(x.ushers(20, 2, 100)).append(' ').append(x.undo());
        for (int what = 0; what < 26; what++) {
            builder.append(' ').append(x.count(what));
        }
        return builder.append(x.coatAt(0)).append(x.coatAt(143)).toString();
    }

    private static void refusedChangesNothing() {
        String before = state(BoundaryCallTest::busyChurch);
        String laterBefore = later(x -> NONE);
        List<ToIntFunction<WeddingPews>> calls = refused();
        for (int i = 0; i < calls.size(); i++) {
            ToIntFunction<WeddingPews> call = calls.get(i);
            due("refused " + i, call.applyAsInt(busyChurch()), NONE);
            due("refused " + i + " changes nothing", state(() -> {
                WeddingPews x = busyChurch();
                call.applyAsInt(x);
                return x;
            }), before);
            due("refused " + i + " changes nothing later", later(call), laterBefore);
        }
        WeddingPews full = churchWithTape(260);
        due("a full tape", full.feed(0, 0, 0, 0, 0), NONE);
        due("a full tape stays", full.count(8), 260);
        due("its bytes stay", full.ushers(20, 1, 100), 20);
    }

    private static List<ToIntFunction<WeddingPews>> refused() {
        List<ToIntFunction<WeddingPews>> calls = new ArrayList<>();
        calls.add(x -> oneOrNone(x.coat(-1, 1)));
        calls.add(x -> oneOrNone(x.coat(144, 1)));
        calls.add(x -> oneOrNone(x.coat(5, -2)));
        calls.add(x -> oneOrNone(x.coat(5, 16)));
        calls.add(x -> oneOrNone(x.seed(-1)));
        calls.add(x -> oneOrNone(x.seed(65536)));
        for (int n : new int[] {Integer.MIN_VALUE, -1, 0, 21, 121, 241, Integer.MAX_VALUE}) {
            calls.add(x -> x.law(n));
            calls.add(x -> x.list(n));
            calls.add(x -> x.moves(n));
            calls.add(x -> x.come(n == 21 || n == 121 ? 201 : n));
            calls.add(x -> x.tried(n, 9) == -1000 ? NONE : 1);
            calls.add(x -> x.even(n, 0, 0, 0));
            calls.add(x -> x.moreFit(n, 0));
            calls.add(x -> x.ushers(n, 1, 100));
            calls.add(x -> x.leastTime(n, 1));
            calls.add(x -> x.hats(n, 0));
            calls.add(x -> x.check(0, n == 0 ? 9 : n) == -2 ? NONE : 1);
            calls.add(x -> x.check(n == 0 ? 2 : n, 1) == -2 ? NONE : 1);
        }
        for (int far : new int[] {Integer.MIN_VALUE, -1, 300, Integer.MAX_VALUE}) {
            calls.add(x -> x.even(1, far, 0, 0));
            calls.add(x -> x.even(1, 0, far, 0));
            calls.add(x -> x.even(1, 0, 0, far));
            calls.add(x -> x.moreFit(1, far));
            calls.add(x -> x.ushers(1, far, 100));
            calls.add(x -> x.ushers(1, 1, far));
            calls.add(x -> x.leastTime(1, far));
            calls.add(x -> x.hats(1, far));
            calls.add(x -> x.guestAt(far, 0));
            calls.add(x -> x.guestAt(0, far));
            calls.add(x -> x.coatAt(far));
            calls.add(x -> x.pew(far, 0, 0));
            calls.add(x -> x.pew(0, far, 0));
            calls.add(x -> x.pew(0, 0, far));
            calls.add(x -> x.together(far, 0));
            calls.add(x -> x.together(0, far));
            calls.add(x -> x.seesNothing(far));
            calls.add(x -> x.order(far, 0, 0));
            calls.add(x -> x.order(0, far, 0));
            calls.add(x -> x.order(0, 0, far));
            calls.add(x -> x.fathers(far, 0, 0));
            calls.add(x -> x.fathers(0, far, 0));
            calls.add(x -> x.fathers(0, 0, far));
            calls.add(x -> x.singers(far));
            calls.add(x -> x.strangers(far));
            calls.add(x -> x.inLine(far));
            calls.add(x -> x.edge(far));
            calls.add(x -> x.photo(far));
            calls.add(x -> x.count(far));
        }
        return calls;
    }
}
