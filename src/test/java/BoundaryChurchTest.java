/** The boundaries of the words in capitals, but for the texts: each sentence that names one has its test here. */
public final class BoundaryChurchTest extends Talk {
    /** Pews are filled from her first one on, each from the aisle on. */
    private static final String IN_ORDER = "e[99-8*q]-r(1=1)";

    public static void main(String[] args) {
        church();
        coming();
        looksOfFamilies();
        looksOfPews();
        sums();
        keptAndUndone();
        end("boundaries of the church");
    }

    // ---- pews, guests, coats ----

    private static void church() {
        test("ROWS 0 (in front) to 7 on each, each of SEATS 0 (at the aisle) to 8 (at the wall)",
                BoundaryChurchTest::rowsAndSeats);
        test("a SEAT is 72 times the side, 9 times the ROW, and its place (0 to 143)", BoundaryChurchTest::allSeats);
        test("of a side (0 hers, 1 his, 2 both), a FAMILY a to p (0 to 15), a HEIGHT (0 to 9), a child or not, "
                + "a singer or not", BoundaryChurchTest::guests);
        test("They stand in THE LINE (200 at most), have come to a SEAT, or STAND at the back.",
                BoundaryChurchTest::whereTheyAre);
        test("COATS: a SEAT is kept for a FAMILY, or not (not at first).", BoundaryChurchTest::coats);
    }

    private static void rowsAndSeats() {
        int[][] ends = {{0, 0, 0, 8}, {0, 7, 63, 71}, {1, 0, 72, 80}, {1, 7, 135, 143}};
        for (int[] end : ends) {
            String pew = "e1(q=" + end[0] + "&r=" + end[1] + ")";
            due(pew + " aisle", led(pew, "ha5"), end[2]);
            due(pew + " wall", led(pew + ";o(1=1)", "ha5"), end[3]);
            WeddingPews x = new WeddingPews();
            law(x, pew);
            list(x, "9ha5,ha5");
            x.come(9);
            due(pew + " nine sit there", x.pew(end[0], end[1], 0), 9);
            due(pew + " a tenth stands", x.tried(1, 2), -2);
        }
        due("no row above 7", led("e1(r>7)", "ha5"), -2);
        due("no row below 0", led("e1(r<0)", "ha5"), -2);
        due("no side but two", led("e1(q<0|q>1)", "ha5"), -2);
    }

    private static void allSeats() {
        WeddingPews x = churchWithLine(145);
        law(x, IN_ORDER);
        x.come(144);
        for (int seat = 0; seat < 144; seat++) {
            due("seat " + seat, x.guestAt(seat, 5), seat);
        }
        due("below the first", x.guestAt(-1, 5), NONE);
        due("behind the last", x.guestAt(144, 5), NONE);
        due("there is no more", x.tried(1, 2), -2);
        moves(x, "78!");
        due("72 + 0 + 6", x.pew(1, 0, 0), 8);
        due("and then there is", x.tried(1, 2), 78);
    }

    private static void guests() {
        WeddingPews x = new WeddingPews();
        law(x, IN_ORDER);
        list(x, "ha0,gp9c,bh5s,hp0cs");
        x.come(4);
        int[][] want = {{0, 0, 0, 0, 0, 0}, {1, 15, 9, 1, 0, 1}, {2, 7, 5, 0, 1, 2}, {0, 15, 0, 1, 1, 3}};
        for (int seat = 0; seat < 4; seat++) {
            for (int what = 0; what < 6; what++) {
                due("seat " + seat + ", what " + what, x.guestAt(seat, what), want[seat][what]);
            }
        }
        for (int kind = 0; kind < 3 * 16 * 10 * 2 * 2; kind++) {
            int[] parts = {kind % 3, kind / 3 % 16, kind / 48 % 10, kind / 480 % 2, kind / 960};
            String guest = "hgb".charAt(parts[0]) + "" + (char) ('a' + parts[1]) + parts[2] + (parts[3] == 1 ? "c" : "")
                    + (parts[4] == 1 ? "s" : "");
            WeddingPews one = new WeddingPews();
            law(one, "e1(1=1)");
            list(one, guest);
            one.come(1);
            for (int what = 0; what < 5; what++) {
                due(guest + ", what " + what, one.guestAt(0, what), parts[what]);
            }
        }
        for (int height = 0; height < 10; height++) {
            due("the law knows " + height, led("e1(t=" + height + ")", "ha" + height), 0);
        }
        for (int family = 0; family < 16; family++) {
            due("the law knows " + family, led("e1(f=" + family + ")", "h" + (char) ('a' + family) + "5"), 0);
        }
    }

    private static void whereTheyAre() {
        WeddingPews x = churchWithLine(200);
        due("200 wait", x.count(1), 200);
        due("not 201", list(x, "ha5"), -4000);
        law(x, IN_ORDER);
        x.come(200);
        due("144 sit", x.count(3), 144);
        due("56 stand", x.count(2), 56);
        due("none waits", x.count(1), 0);
        due("200 have come", x.count(0), 200);
    }

    private static void coats() {
        WeddingPews x = new WeddingPews();
        for (int seat = 0; seat < 144; seat++) {
            due("not at first " + seat, x.coatAt(seat), -2);
        }
        for (int side = 0; side < 2; side++) {
            for (int row = 0; row < 8; row++) {
                due("none in the pew", x.pew(side, row, 4), 0);
            }
        }
        list(x, "hp5");
        law(x, "e1+k(1=1)");
        due("no seat is better", x.tried(1, 2), 0);
        x.coat(143, 15);
        due("the pew of the coat is, he sits at its aisle", x.tried(1, 2), 135);
        x.coat(143, 14);
        due("it is another's now", x.tried(1, 2), 0);
    }

    // ---- one comes ----

    private static void coming() {
        test("ONE COMES: the first in THE LINE.", () -> {
            WeddingPews x = new WeddingPews();
            law(x, IN_ORDER);
            list(x, "hc1,hp2,ha3");
            x.come(1);
            due("the first sits", x.guestAt(0, 1), 2);
            due("the second is the first now", x.count(30), 15);
            due("two are left", x.count(1), 2);
            x.come(2);
            due("the last sits", x.guestAt(2, 1), 0);
            due("none is the first", x.count(30), NONE);
        });
        test("A SEAT is FREE for him if nobody sits there and it is kept for nobody, or for his FAMILY.",
                BoundaryChurchTest::freeSeats);
        test("With a DRAW below y (asked ahead) he likes the PEW of those with a SEAT FREE for him in which fewest "
                + "sit (of like ones the lowest side, then ROW)", BoundaryChurchTest::asHeLikes);
        test("else it is the PEW with a SEAT FREE for him with the greatest e above 0 (of like ones likewise).",
                BoundaryChurchTest::greatestE);
        test("None: he STANDS.", BoundaryChurchTest::stands);
        test("There: the SEAT FREE for him nearest to the wall, if o holds (asked of that PEW), else nearest to the "
                + "aisle.", BoundaryChurchTest::insideOrOutside);
        test("He CLIMBS over all that sit between that SEAT and the aisle.", BoundaryChurchTest::climbs);
        test("DRAWS: X = (25173 X + 13849) modulo 65536 (X is THE SEED at first, 1): X modulo 10.",
                BoundaryChurchTest::draws);
    }

    /** Where one of family a is led in her first pew, coats of which are told by letters (. for none). */
    private static int ledByCoats(String coats, String law) {
        WeddingPews x = new WeddingPews();
        for (int place = 0; place < 9; place++) {
            x.coat(place, coats.charAt(place) == '.' ? NONE : coats.charAt(place) - 'a');
        }
        law(x, law);
        list(x, "ha5");
        return x.tried(1, 2);
    }

    private static void freeSeats() {
        String first = "e1(q=0&r=0)";
        due("kept for nobody", ledByCoats(".........", first), 0);
        due("kept for his family", ledByCoats("a........", first), 0);
        due("kept for others", ledByCoats("bpbpbpbp.", first), 8);
        due("kept for others, then for his", ledByCoats("bpbpbpba.", first), 7);
        due("all kept for others", ledByCoats("bbbbbbbbb", first), -2);
        due("all kept for his", ledByCoats("aaaaaaaaa", first + ";o(1=1)"), 8);
        due("none of the pew: he likes another", ledByCoats("bbbbbbbbb", "y10(1=1)"), 9);
        WeddingPews x = seated("0:hb5");
        x.coat(0, 0);
        law(x, first);
        list(x, "ha5");
        due("kept for his, but somebody sits there", x.tried(1, 2), 1);
        x.coat(1, 1);
        x.coat(1, NONE);
        due("not kept any more", x.tried(1, 2), 1);
    }

    private static void asHeLikes() {
        WeddingPews x = new WeddingPews();
        law(x, "y10(1=1)");
        waitBehind(x, 145);
        for (int pew = 0; pew < 16; pew++) {
            due("of like ones the lowest, pew " + pew, x.tried(1, 2), 9 * pew);
            x.come(1);
        }
        due("all have one: the first again", x.tried(1, 2), 1);
        x.come(127);
        due("one seat is left", x.tried(1, 2), 143);
        x.come(1);
        due("no seat is left", x.tried(1, 2), -2);
        moves(x, "137!;4!;3!;70!;69!;68!");
        due("in which fewest sit", x.tried(1, 2), 68);
        moves(x, "139!;140!");
        due("of like ones the lowest side", x.tried(1, 2), 68);
        moves(x, "59!;60!;61!");
        due("of like ones the lowest row", x.tried(1, 2), 59);
        for (int seat = 59; seat < 62; seat++) {
            x.coat(seat, 1);
        }
        due("of those with a seat free for him", x.tried(1, 2), 68);
        x.coat(60, 0);
        due("one seat is free for him", x.tried(1, 2), 60);
        WeddingPews none = new WeddingPews();
        law(none, "y0(1=1);e1(q=1)");
        list(none, "ha5");
        due("no draw is below 0", none.tried(1, 2), 72);
        none.come(1);
        due("but one is drawn", none.count(9), 39022);
    }

    private static void greatestE() {
        due("the greatest", led("e5(r=2);e6(r=6);e1(1=1)", "ha5"), 54);
        due("of like ones the lowest side", led("e5(r=3)", "ha5"), 27);
        due("of like ones the lowest row", led("e5(q=1&r>4)", "ha5"), 117);
        due("side goes ahead of row", led("e5(q=0&r=7|q=1&r=0)", "ha5"), 63);
        due("1 is above 0", led("e1(q=1&r=7)", "ha5"), 135);
        due("0 is not", led("e0(q=1&r=7)", "ha5"), -2);
        due("below 0 is not", led("e0-1(q=1&r=7)", "ha5"), -2);
        due("9999 is the greatest", led("e9998(r=0);e9999(r=1);e9997(1=1)", "ha5"), 9);
        WeddingPews x = churchWithLeft(0, 1);
        law(x, "e9(r=0);e1(1=1)");
        list(x, "ha5");
        due("the greatest is full", x.tried(1, 2), 9);
        x.coat(9, 3);
        due("the next is kept", x.tried(1, 2), -2);
        x.coat(9, 0);
        due("the next is kept for him", x.tried(1, 2), 9);
    }

    private static void stands() {
        due("no law", new WeddingPews().count(7), 0);
        WeddingPews x = churchWithLine(3);
        due("no law: he stands", x.tried(1, 2), -2);
        due("no law: over nobody", x.come(1), 0);
        due("one stands", x.count(2), 1);
        due("he has come", x.count(0), 1);
        due("none sits", x.count(3), 0);
        WeddingPews full = churchWithLeft();
        list(full, "2ha5");
        due("full, as he likes", full.tried(1, 2), -2);
        law(full, "e9(1=1)");
        due("full, led", full.tried(1, 2), -2);
        due("full", full.come(2), 0);
        due("two stand", full.count(2), 2);
        due("146 have come", full.count(0), 146);
        due("144 sit", full.count(3), 144);
        WeddingPews kept = new WeddingPews();
        for (int seat = 0; seat < 144; seat++) {
            kept.coat(seat, 1);
        }
        list(kept, "ha5,hb5");
        law(kept, "y10(1=1)");
        due("all kept, as he likes", kept.tried(1, 2), -2);
        law(kept, "e9(1=1)");
        due("all kept, led", kept.tried(1, 2), -2);
        due("whose they are sits", kept.tried(2, 2), 0);
    }

    private static void insideOrOutside() {
        String first = "e1(q=0&r=0)";
        due("nearest to the wall", ledByCoats(".........", first + ";o(1=1)"), 8);
        due("nearest to the wall that is free", ledByCoats("......bbb", first + ";o(1=1)"), 5);
        due("nearest to the aisle that is free", ledByCoats("bbb......", first), 3);
        due("the only one, inside", ledByCoats("bbbb.bbbb", first + ";o(1=1)"), 4);
        due("the only one, outside", ledByCoats("bbbb.bbbb", first), 4);
        due("the only one is at the aisle, inside", ledByCoats(".bbbbbbbb", first + ";o(1=1)"), 0);
        due("the only one is at the wall, outside", ledByCoats("bbbbbbbb.", first), 8);
        due("as he likes, inside", led("y10(1=1);o(1=1)", "ha5"), 8);
        WeddingPews x = new WeddingPews();
        law(x, "e1(q=1&r=3);o(q=1&r=3&n=2)");
        list(x, "4ha5");
        due("n is 0", x.tried(1, 2), 99);
        due("n is 1", x.tried(2, 2), 100);
        due("n is 2", x.tried(3, 2), 107);
        due("n is 3", x.tried(4, 2), 101);
        law(x, "e1(q=1&r=3);o(q=0|r=2)");
        due("it is asked of that pew alone", x.tried(1, 2), 99);
        law(x, "y10(1=1);o(m=1)");
        due("as he likes, m is 0", x.tried(1, 2), 0);
        due("as he likes, m is 1", x.tried(2, 2), 9);
        x.coat(107, 0);
        law(x, "e1(q=1&r=3);o(k=1)");
        due("k is 1", x.tried(1, 2), 107);
        due("k is 0 then", x.tried(2, 2), 99);
    }

    private static void climbs() {
        WeddingPews x = churchWithLeft(0, 9);
        list(x, "9ha5");
        law(x, "e1(1=1)");
        due("at the aisle over nobody", x.tried(1, 0), 0);
        due("at the wall over eight and all that went ahead", x.tried(9, 0), 36);
        x.come(8);
        due("at the wall over eight", x.tried(1, 0), 8);
        moves(x, "9!;10!;11!");
        law(x, "e1(1=1);o(1=1)");
        due("empty seats don't count", x.tried(1, 2), 17);
        due("over five", x.tried(1, 0), 5);
        x.coat(9, 2);
        due("coats don't count", x.tried(1, 0), 5);
        WeddingPews y = seated("0:ha5 8:ha5 72:ha5 9:ha5");
        law(y, "e1(q=0&r=0)");
        list(y, "ha5");
        due("those nearer to the wall don't count, nor other pews", y.tried(1, 0), 1);
        due("the last three have climbed over the first, moves are no climbing", y.count(4), 3);
    }

    private static void draws() {
        int[] seeds = {0, 1, 2, 9, 10, 32767, 32768, 65534, 65535};
        for (int seed : seeds) {
            WeddingPews x = new WeddingPews();
            due("the seed at first", x.count(9), 1);
            x.seed(seed);
            waitBehind(x, 20);
            long drawn = seed;
            for (int i = 0; i < 20; i++) {
                drawn = (25173 * drawn + 13849) % 65536;
                law(x, "y" + drawn % 10 + "(1=1)");
                due("not below itself", x.tried(1, 1), 1);
                law(x, "y" + (drawn % 10 + 1) + "(1=1)");
                due("below the next", x.tried(1, 1), 0);
                x.come(1);
                due("X of " + seed + " behind " + i, x.count(9), drawn);
            }
        }
        WeddingPews x = new WeddingPews();
        x.come(5);
        due("nobody comes, nothing is drawn", x.count(9), 1);
    }

    // ---- how it looks, by families and heights ----

    private static void looksOfFamilies() {
        test("TRIED: n more come by the DRAWS that will come (nothing is changed).", BoundaryChurchTest::tried);
        test("TORN: FAMILIES of which some sit in unlike PEWS.", BoundaryChurchTest::torn);
        test("TOGETHER: the fewest of a FAMILY's sitting ones that must change their PEW so that all sit in one (SEATS "
                + "that are not taken there must be enough, COATS no matter)", BoundaryChurchTest::enoughSeats);
        test("in which PEW (of like ones the lowest side, then ROW)", () -> {
            due("the last of her side, the first of his", seated("72:ha1 63:ha1").together(0, 1), 7);
            due("two rows of his side", seated("99:ha1 90:ha1").together(0, 1), 10);
            due("the last pew of all", seated("143:ha1").together(0, 1), 15);
            due("not the lowest, but fewer", seated("0:ha1 135:ha1 143:ha1").together(0, 1), 15);
        });
        test("SEES NOTHING: a GUEST on whose side, at the same place of the ROW just ahead, one sits who is taller: "
                + "how many; the first SEAT of one.", BoundaryChurchTest::seesNothing);
        test("VIEW: of a GUEST how many ROWS ahead the nearest one at his place is who is as tall as he or taller.",
                BoundaryChurchTest::view);
    }

    private static int seatOfNumber(WeddingPews x, int number) {
        for (int seat = 0; seat < 144; seat++) {
            if (x.guestAt(seat, 5) == number) {
                return seat;
            }
        }
        return -2;
    }

    private static WeddingPews readyToCome() {
        WeddingPews x = new WeddingPews();
        law(x, "y5(1=1);e[99-8*q]-r(r>5);o(w%3=0)");
        list(x, "3ha5,9gb5,9bc6s,4ha1c");
        return x;
    }

    private static void tried() {
        for (int n = 1; n <= 25; n++) {
            WeddingPews x = readyToCome();
            int last = x.tried(n, 2);
            int climbs = x.tried(n, 0);
            due("climbs of " + n, x.come(n), climbs);
            due("the last of " + n, seatOfNumber(x, n - 1), last);
        }
        String before = state(BoundaryChurchTest::readyToCome);
        for (int what = 0; what < 5; what++) {
            int asked = what;
            due("nothing is changed by " + what, state(() -> {
                WeddingPews x = readyToCome();
                x.tried(200, asked);
                return x;
            }), before);
        }
    }

    private static void torn() {
        String allButP = "ha1,hb1,hc1,hd1,he1,hf1,hg1,hh1,hi1,hj1,hk1,hl1,hm1,hn1,ho1";
        WeddingPews x = new WeddingPews();
        due("nobody", x.torn(), 0);
        law(x, "y10(1=1)");
        list(x, allButP + ",hp1");
        x.come(16);
        due("one of each", x.torn(), 0);
        x.keep();
        list(x, allButP + ",hp1");
        x.come(16);
        due("two of each side by side", x.torn(), 0);
        x.undo();
        list(x, "hp1," + allButP);
        due("all will be torn", x.tried(16, 4), 65535);
        x.come(16);
        due("all are torn", x.torn(), 65535);
        due("the wall and the next aisle", seated("8:ha1 9:ha1").torn(), 1);
        due("both ends of a pew", seated("0:ha1 8:ha1").torn(), 0);
        due("both sides", seated("0:hp1 72:hp1").torn(), 32768);
        due("the last of hers, the first of his", seated("71:hp1 72:hp1").torn(), 32768);
        WeddingPews y = seated("0:ha1 9:ha1");
        moves(y, "9!");
        due("one stands", y.torn(), 0);
        list(y, "ha1");
        due("one waits", y.torn(), 0);
    }

    private static void isTogether(WeddingPews x, int many, int pew) {
        due("how many", x.together(0, 0), many);
        due("in which", x.together(0, 1), pew);
    }

    private static void enoughSeats() {
        WeddingPews x = seated("0:ha1 1:ha1 2:hb1 3:hb1 4:hb1 5:hb1 6:hb1 7:hb1 9:ha1");
        isTogether(x, 1, 0);
        x.coat(8, 5);
        isTogether(x, 1, 0);
        x.coat(8, NONE);
        seat(x, "8:hb1");
        isTogether(x, 2, 1);
        WeddingPews nine = new WeddingPews();
        law(nine, "y10(1=1)");
        list(nine, "9ha1,ha1");
        nine.come(9);
        isTogether(nine, 8, 0);
        due("ten have no pew", nine.tried(1, 4), 1);
        nine.come(1);
        isTogether(nine, -2, -2);
        moves(nine, "81!");
        seat(nine, "1:hb1");
        isTogether(nine, 8, 1);
        WeddingPews all = new WeddingPews();
        law(all, IN_ORDER);
        list(all, "9ha1,hb1");
        all.come(10);
        isTogether(all, 0, 0);
        due("of b", all.together(1, 0), 0);
        due("of b, in which", all.together(1, 1), 1);
        due("of c nobody sits", all.together(2, 0), -3);
        WeddingPews elsewhere = new WeddingPews();
        law(elsewhere, IN_ORDER);
        list(elsewhere, "ha1,8hb1,ha1,8hc1");
        elsewhere.come(18);
        isTogether(elsewhere, 2, 2);
        isTogether(churchWithLeft(8, 8), -2, -2);
        isTogether(churchWithLeft(), -2, -2);
    }

    private static void isBlind(String told, int many, int first) {
        WeddingPews x = seated(told);
        due(told, x.seesNothing(0), many);
        due(told + ", the first", x.seesNothing(1), first);
    }

    private static void seesNothing() {
        isBlind("0:ha9 9:ha8", 1, 9);
        isBlind("0:ha1 9:ha0", 1, 9);
        isBlind("0:ha9 9:ha9", 0, -2);
        isBlind("0:ha8 9:ha9", 0, -2);
        isBlind("0:ha9 18:ha0", 0, -2);
        isBlind("0:ha9 10:ha0", 0, -2);
        isBlind("8:ha9 9:ha0", 0, -2);
        isBlind("63:ha9 72:ha0", 0, -2);
        isBlind("134:ha9 143:ha0", 1, 143);
        isBlind("134:ha9 143:ha0 62:ha9 71:ha0", 2, 71);
        isBlind("0:ha9", 0, -2);
        WeddingPews x = new WeddingPews();
        due("nobody", x.seesNothing(0), 0);
        due("nobody, the first", x.seesNothing(1), -2);
        law(x, IN_ORDER);
        list(x, "9ha9,9ha8,9ha7,9ha6,9ha5,9ha4,9ha3,9ha2,9ha9,9ha8,9ha7,9ha6,9ha5,9ha4,9ha3,9ha2");
        x.come(144);
        due("all but those in front", x.seesNothing(0), 126);
        due("the first of them", x.seesNothing(1), 9);
    }

    private static void view() {
        for (int row = 1; row < 8; row++) {
            int seat = 9 * row + 4;
            due("as tall, " + row + " ahead", seated("4:ha5 " + seat + ":ha5").guestAt(seat, 6), row);
            due("taller, " + row + " ahead", seated("4:ha6 " + seat + ":ha5").guestAt(seat, 6), row);
            due("smaller, " + row + " ahead", seated("4:ha4 " + seat + ":ha5").guestAt(seat, 6), 0);
            due("nobody, row " + row, seated(seat + ":ha5").guestAt(seat, 6), 0);
        }
        due("the nearest", seated("0:ha9 18:ha5 36:ha5").guestAt(36, 6), 2);
        due("over a smaller one", seated("0:ha9 18:ha4 36:ha5").guestAt(36, 6), 4);
        due("at another place", seated("1:ha9 9:ha0").guestAt(9, 6), 0);
        due("his first row", seated("63:ha9 72:ha0").guestAt(72, 6), 0);
        due("his last row", seated("80:ha0 143:ha0").guestAt(143, 6), 7);
        due("her first row", seated("0:ha0 9:ha9").guestAt(0, 6), 0);
    }

    // ---- how it looks, by pews ----

    private static void looksOfPews() {
        test("ORDER: a PEW's GUESTS sit down anew, each at his SEAT: how many CLIMB if they come from the wall on (0), "
                + "from the aisle on; in the order that is told.", BoundaryChurchTest::order);
        test("in how many ways two could sit on SEATS of a side that are not taken, so many ROWS apart at least (0 to 7)",
                BoundaryChurchTest::fathers);
        test("the lowest two SEATS (the lower one first)", () -> {
            WeddingPews x = churchWithLeft(0, 0, 0, 1, 1, 0, 1);
            int[][] want = {{3, 27, 36}, {3, 27, 36}, {2, 27, 54}, {1, 27, 54}, {0, -2, -2}};
            for (int apart = 0; apart < want.length; apart++) {
                for (int what = 0; what < 3; what++) {
                    due(apart + " apart, what " + what, x.fathers(0, apart, what), want[apart][what]);
                }
            }
            due("his lowest", new WeddingPews().fathers(1, 0, 1), 72);
            due("his next", new WeddingPews().fathers(1, 0, 2), 73);
        });
        test("SINGERS that sit: the place (ROW, of all on both sides) that is their median (of two the lower); how far "
                + "they are from it in all.", BoundaryChurchTest::singers);
        test("EDGE: children that sit with nobody between them and the aisle, or not: how many of each.",
                BoundaryChurchTest::edge);
        test("RING: the longest row of SEATS of one PEW side by side that are taken; by one FAMILY.",
                BoundaryChurchTest::ring);
        test("STRANGERS: GUESTS that sit beside somebody in their PEW, but beside nobody of their FAMILY; the first one's "
                + "SEAT.", BoundaryChurchTest::strangers);
        test("PHOTO: the most GUESTS of one side no two of which sit side by side in a PEW, or one behind the other at the "
                + "same place of the next ROW.", BoundaryChurchTest::photo);
    }

    private static void isOrder(WeddingPews x, int fromAisle, int asTheyCame) {
        due("from the wall on", x.order(0, 0, 0), 0);
        due("from the aisle on", x.order(0, 0, 1), fromAisle);
        due("as they came", x.order(0, 0, 2), asTheyCame);
    }

    private static void order() {
        isOrder(new WeddingPews(), 0, 0);
        isOrder(seated("8:ha1"), 0, 0);
        isOrder(seated("0:ha1 8:ha1"), 1, 1);
        isOrder(seated("8:ha1 0:ha1"), 1, 0);
        isOrder(seated("9:ha1 0:ha1 72:ha1"), 0, 0);
        WeddingPews x = new WeddingPews();
        law(x, "e1(q=0&r=0)");
        list(x, "9ha1");
        x.come(9);
        isOrder(x, 36, 36);
        moves(x, "0=8;1=7;2=6;3=5");
        isOrder(x, 36, 0);
        moves(x, "0!");
        isOrder(x, 28, 0);
    }

    private static void fathers() {
        WeddingPews x = new WeddingPews();
        int[] ways = {72 * 71 / 2, 28 * 81, 21 * 81, 15 * 81, 10 * 81, 6 * 81, 3 * 81, 81};
        for (int apart = 0; apart < 8; apart++) {
            due("her side, " + apart, x.fathers(0, apart, 0), ways[apart]);
            due("his side, " + apart, x.fathers(1, apart, 0), ways[apart]);
            due("his lower, " + apart, x.fathers(1, apart, 1), 72);
            due("his other, " + apart, x.fathers(1, apart, 2), apart == 0 ? 73 : 72 + 9 * apart);
        }
        for (int seat = 0; seat < 9; seat++) {
            x.coat(seat, 3);
        }
        due("coats no matter", x.fathers(0, 7, 0), 81);
        WeddingPews two = churchWithLeft(2, 0, 0, 0, 0, 0, 0, 0, 1);
        int[][] want = {{1, 0, 2}, {0, -2, -2}};
        for (int apart = 0; apart < 2; apart++) {
            for (int what = 0; what < 3; what++) {
                due("in one pew, " + apart, two.fathers(0, apart, what), want[apart][what]);
                due("one seat alone", two.fathers(1, apart, what), what == 0 ? 0 : -2);
            }
        }
        due("none is left", churchWithLeft().fathers(0, 0, 0), 0);
    }

    private static void isChoir(String told, int many, int row, int far) {
        WeddingPews x = seated(told);
        due(told + ": how many", x.singers(0), many);
        due(told + ": the row", x.singers(1), row);
        due(told + ": how far", x.singers(2), far);
    }

    private static void singers() {
        isChoir("0:ha1", 0, -2, -2);
        isChoir("0:ha1s", 1, 0, 0);
        isChoir("143:ha1s", 1, 7, 0);
        isChoir("0:ha1s 143:ha1s", 2, 0, 7);
        isChoir("63:ha1s 72:ha1s", 2, 0, 7);
        isChoir("0:ha1s 143:ha1s 63:ha1s", 3, 7, 7);
        isChoir("9:ha1s 99:ha1s 45:ha1s 135:ha1s", 4, 3, 8);
        isChoir("9:ha1s 99:ha1s 45:ha1s 135:ha1s 0:ha1 1:ha1c", 4, 3, 8);
        isChoir("9:ha1s 10:ha1s 81:ha1cs 135:ha1s 136:ha1s 137:ha1s", 6, 1, 18);
        WeddingPews x = new WeddingPews();
        list(x, "9ha1s");
        due("those in line don't sit", x.singers(0), 0);
        x.come(9);
        due("those that stand don't sit", x.singers(1), -2);
    }

    private static void isEdge(String told, int atEdge, int others) {
        WeddingPews x = seated(told);
        due(told + ": at the edge", x.edge(0), atEdge);
        due(told + ": others", x.edge(1), others);
    }

    private static void edge() {
        isEdge("0:ha1", 0, 0);
        isEdge("0:ha1c", 1, 0);
        isEdge("8:ha1c", 1, 0);
        isEdge("0:ha1 8:ha1c", 0, 1);
        isEdge("0:ha1c 1:ha1c", 1, 1);
        isEdge("8:ha1 9:ha1c", 1, 0);
        isEdge("71:ha1 72:ha1c", 1, 0);
        isEdge("4:ha1c 5:ha1", 1, 0);
        isEdge("143:ha1c 142:ha1c 141:ha1", 0, 2);
        due("nobody", new WeddingPews().edge(0), 0);
        due("nobody, others", new WeddingPews().edge(1), 0);
    }

    private static void isRing(String told, int side, int row, int taken, int oneFamily) {
        WeddingPews x = seated(told);
        due(told + ": taken", x.pew(side, row, 2), taken);
        due(told + ": one family", x.pew(side, row, 3), oneFamily);
    }

    private static void ring() {
        isRing("9:ha1", 0, 0, 0, 0);
        isRing("0:ha1", 0, 0, 1, 1);
        isRing("7:ha1 8:ha1 9:ha1 10:ha1 11:ha1", 0, 0, 2, 2);
        isRing("7:ha1 8:ha1 9:ha1 10:ha1 11:ha1", 0, 1, 3, 3);
        isRing("0:ha1 1:hb1 2:ha1", 0, 0, 3, 1);
        isRing("135:ha1 136:ha1 138:ha1 139:ha1 140:ha1 143:ha1", 1, 7, 3, 3);
        isRing("135:ha1 136:hp1 137:hp1 138:ha1 139:ha1 140:ha1 142:hp1 143:hp1", 1, 7, 6, 3);
        isRing("0:ha1 1:ha1 2:ha1 3:ha1 4:ha1 5:ha1 6:ha1 7:ha1 8:ha1", 0, 0, 9, 9);
        isRing("0:ha1 1:ha1 2:ha1 3:ha1 4:hp1 5:hp1 6:hp1 7:hp1 8:hp1", 0, 0, 9, 5);
    }

    private static void areStrangers(String told, int many, int first) {
        WeddingPews x = seated(told);
        due(told + ": how many", x.strangers(0), many);
        due(told + ": the first", x.strangers(1), first);
    }

    private static void strangers() {
        areStrangers("0:ha1", 0, -2);
        areStrangers("0:ha1 2:hb1", 0, -2);
        areStrangers("0:ha1 1:hb1", 2, 0);
        areStrangers("0:ha1 1:ha1", 0, -2);
        areStrangers("0:ha1 1:ha1 2:hb1", 1, 2);
        areStrangers("0:hb1 1:ha1 2:ha1", 1, 0);
        areStrangers("0:ha1 1:hb1 2:ha1", 3, 0);
        areStrangers("8:ha1 9:hb1", 0, -2);
        areStrangers("71:ha1 72:hb1", 0, -2);
        areStrangers("142:ha1 143:hb1", 2, 142);
        areStrangers("7:ha1 8:hb1 9:hb1", 2, 7);
        areStrangers("8:ha1 9:hb1 10:ha1", 2, 9);
        due("nobody", new WeddingPews().strangers(0), 0);
    }

    private static void isPhoto(String told, int hers, int his) {
        WeddingPews x = seated(told);
        due(told + ": hers", x.photo(0), hers);
        due(told + ": his", x.photo(1), his);
    }

    private static void photo() {
        due("nobody", new WeddingPews().photo(0), 0);
        isPhoto("0:ha1", 1, 0);
        isPhoto("143:ha1", 0, 1);
        isPhoto("0:ha1 1:ha1", 1, 0);
        isPhoto("0:ha1 9:ha1", 1, 0);
        isPhoto("0:ha1 10:ha1", 2, 0);
        isPhoto("8:ha1 9:ha1", 2, 0);
        isPhoto("0:ha1 18:ha1", 2, 0);
        isPhoto("0:ha1 2:ha1", 2, 0);
        isPhoto("63:ha1 72:ha1", 1, 1);
        isPhoto("71:ha1 72:ha1", 1, 1);
        isPhoto("72:ha1 73:ha1 74:ha1 81:ha1 82:ha1", 0, 3);
        isPhoto("126:ha1 135:ha1 134:ha1 143:ha1 136:ha1", 0, 3);
        WeddingPews full = churchWithLeft();
        due("full, hers", full.photo(0), 36);
        due("full, his", full.photo(1), 36);
        moves(full, "0!");
        due("but one", full.photo(0), 36);
        WeddingPews rows = churchWithLeft(0, 9, 0, 9, 0, 9, 0, 9);
        due("every other row", rows.photo(0), 20);
    }

    // ---- what is reckoned of the tape ----

    private static void sums() {
        test("EVEN: which of some FAMILIES (so many each, 0 to 255) of friends of both should go to her side so that, "
                + "with so many that sit there and so many here, both sides are as even as can be: how uneven; which "
                + "(bits; of like ones the least).", BoundaryChurchTest::even);
        test("MORE FIT: of 1 to 6 families (1 to 9 each) as many as can be sit each together on one PEW's SEATS that are "
                + "not taken", BoundaryChurchTest::moreFit);
        test("(COATS no matter; several families may share a PEW): how many; of like ones the least bits.",
                BoundaryChurchTest::moreFitShared);
        test("USHERS: 1 to 8 lead 1 to 20 GUESTS, each of whom takes so many minutes (0 to 255), in their row, each by "
                + "whoever is free first (of like ones the lowest): behind how many minutes the last one is led; when the "
                + "GUEST at a place begins to be", BoundaryChurchTest::ushers);
        test("the least time in which so many ushers could, in any row (1 to 10 GUESTS)", BoundaryChurchTest::leastTime);
        test("HATS: 1 to 12 heights in a row (0 to 255): how many are seen from the front (higher than all ahead)", () -> {
            areHats(0, 1, 0);
            areHats(0, 1, 255);
            areHats(0, 1, 255, 255);
            areHats(0, 2, 254, 255);
            areHats(0, 2, 0, 0, 1);
            areHats(0, 1, 255, 254, 0);
            areHats(0, 12, 0, 1, 2, 3, 4, 5, 127, 128, 129, 253, 254, 255);
            areHats(0, 1, 12, 11, 10, 9, 8, 7, 6, 5, 4, 3, 2, 1);
            areHats(0, 2, 11, 11, 10, 9, 8, 7, 6, 5, 4, 3, 2, 12);
        });
        test("in how many places two neighbours must change till none is lower than one ahead", () -> {
            areHats(1, 0, 0);
            areHats(1, 0, 255, 255);
            areHats(1, 1, 128, 127);
            areHats(1, 1, 255, 0);
            areHats(1, 0, 0, 255);
            areHats(1, 3, 3, 2, 1);
            areHats(1, 66, 12, 11, 10, 9, 8, 7, 6, 5, 4, 3, 2, 1);
            areHats(1, 11, 1, 1, 1, 1, 1, 1, 1, 1, 1, 1, 1, 0);
        });
        test("the fewest that must go so that those left rise", () -> {
            areHats(2, 0, 0);
            areHats(2, 1, 255, 255);
            areHats(2, 0, 254, 255);
            areHats(2, 1, 255, 254);
            areHats(2, 0, 0, 1, 2, 3, 4, 5, 127, 128, 129, 253, 254, 255);
            areHats(2, 11, 12, 11, 10, 9, 8, 7, 6, 5, 4, 3, 2, 1);
            areHats(2, 11, 7, 7, 7, 7, 7, 7, 7, 7, 7, 7, 7, 7);
            areHats(2, 1, 9, 1, 2);
        });
    }

    private static void isEven(int hers, int his, int uneven, int which, int... families) {
        for (int what = 0; what < 2; what++) {
            WeddingPews x = new WeddingPews();
            tape(x, families);
            due("even " + hers + ", " + his + ", what " + what, x.even(families.length, hers, his, what),
                    what == 0 ? uneven : which);
        }
    }

    private static void even() {
        isEven(0, 0, 0, 0, 0);
        isEven(0, 0, 255, 0, 255);
        isEven(0, 200, 55, 1, 255);
        isEven(200, 0, 55, 0, 255);
        isEven(0, 200, 0, 1, 200);
        isEven(200, 200, 0, 0, 0, 0);
        isEven(0, 200, 200, 0, 0, 0, 0, 0, 0, 0, 0, 0, 0, 0, 0, 0);
        isEven(0, 1, 0, 2, 0, 1);
        isEven(0, 0, 0, 1, 5, 5);
        isEven(0, 0, 1, 1, 3, 2);
        isEven(200, 0, 200, 63, 255, 255, 255, 255, 255, 255, 255, 255, 255, 255, 255, 255);
        isEven(0, 200, 188, 7, 3, 4, 5);
        isEven(0, 0, 11, 2047, 1, 1, 1, 1, 1, 1, 1, 1, 1, 1, 1, 22);
        isEven(0, 11, 0, 2048, 0, 0, 0, 0, 0, 0, 0, 0, 0, 0, 0, 11);
    }

    private static void fit(WeddingPews x, int many, int which, int... families) {
        for (int what = 0; what < 2; what++) {
            tape(x, families);
            due("fit, what " + what, x.moreFit(families.length, what), what == 0 ? many : which);
        }
    }

    private static void moreFit() {
        WeddingPews empty = new WeddingPews();
        fit(empty, 1, 1, 1);
        fit(empty, 1, 1, 9);
        fit(empty, 6, 63, 9, 9, 9, 9, 9, 9);
        fit(empty, 6, 63, 1, 1, 1, 1, 1, 1);
        fit(empty, -2, -2, 0);
        fit(empty, -2, -2, 10);
        fit(empty, -2, -2, 255);
        fit(empty, -2, -2, 1, 2, 3, 4, 5, 0);
        fit(empty, -2, -2, 10, 2, 3, 4, 5, 6);
        WeddingPews five = churchWithLeft(9, 9, 9, 9, 9);
        fit(five, 5, 31, 9, 9, 9, 9, 9, 9);
        fit(five, 6, 63, 9, 9, 9, 9, 8, 1);
        fit(five, 5, 31, 9, 9, 9, 9, 8, 2);
        WeddingPews full = churchWithLeft();
        fit(full, 0, 0, 1);
        fit(full, 0, 0, 1, 2, 3, 4, 5, 9);
        WeddingPews some = churchWithLeft(0, 5, 4);
        fit(some, 1, 1, 5);
        fit(some, 0, 0, 6);
        fit(some, 0, 0, 9);
        fit(some, 2, 3, 5, 4);
        fit(some, 2, 3, 4, 5);
        fit(some, 1, 1, 5, 5);
        fit(churchWithLeft(0, 0, 0, 0, 0, 0, 0, 0, 0, 0, 0, 0, 0, 0, 0, 1), 1, 2, 2, 1);
    }

    private static void moreFitShared() {
        WeddingPews x = churchWithLeft(0, 5, 4);
        x.coat(9, 3);
        x.coat(11, 4);
        x.coat(13, 5);
        fit(x, 1, 1, 5);
        fit(x, 6, 63, 1, 1, 1, 2, 2, 2);
        fit(x, 4, 15, 3, 2, 2, 2);
        fit(x, 3, 7, 3, 2, 2, 3);
        fit(x, 3, 14, 5, 3, 2, 3);
        fit(x, 2, 3, 4, 4, 4);
        fit(x, 2, 6, 9, 4, 4, 5);
        fit(x, 3, 28, 9, 9, 3, 2, 4);
        fit(churchWithLeft(1), 1, 1, 1, 1, 1);
        fit(churchWithLeft(1), 1, 32, 2, 2, 2, 2, 2, 1);
    }

    /** What is asked of the ushers, and the minutes. */
    private static void areUshers(int many, int what, int want, int... minutes) {
        WeddingPews x = new WeddingPews();
        tape(x, minutes);
        due(many + " ushers, what " + what, x.ushers(minutes.length, many, what), want);
    }

    private static int[] alike(int many, int value) {
        int[] all = new int[many];
        java.util.Arrays.fill(all, value);
        return all;
    }

    private static void ushers() {
        areUshers(1, 100, 0, 0);
        areUshers(1, 100, 255, 255);
        areUshers(8, 100, 255, 255);
        areUshers(8, 0, 0, 255);
        areUshers(1, 100, 5100, alike(20, 255));
        areUshers(1, 19, 4845, alike(20, 255));
        areUshers(8, 100, 765, alike(20, 255));
        areUshers(8, 19, 510, alike(20, 255));
        areUshers(8, 7, 0, alike(20, 255));
        areUshers(8, 8, 255, alike(20, 255));
        areUshers(7, 7, 255, alike(20, 255));
        areUshers(8, 100, 0, alike(20, 0));
        areUshers(8, 19, 0, alike(20, 0));
        areUshers(2, 100, 10, 10, 1, 1, 1);
        areUshers(2, 3, 2, 10, 1, 1, 1);
        areUshers(2, 4, 3, 10, 1, 1, 1, 9);
        areUshers(2, 100, 12, 10, 1, 1, 1, 9);
        areUshers(2, 2, 5, 5, 5, 1, 1);
        areUshers(2, 3, 5, 5, 5, 1, 1);
        areUshers(3, 3, 0, 0, 7, 7, 7, 7);
        areUshers(3, 4, 7, 0, 7, 7, 7, 7);
    }

    private static void isLeast(int many, int want, int... minutes) {
        WeddingPews x = new WeddingPews();
        tape(x, minutes);
        due("least time of " + many, x.leastTime(minutes.length, many), want);
    }

    private static void leastTime() {
        isLeast(1, 0, 0);
        isLeast(8, 255, 255);
        isLeast(1, 2550, alike(10, 255));
        isLeast(8, 510, alike(10, 255));
        isLeast(5, 510, alike(10, 255));
        isLeast(4, 765, alike(10, 255));
        isLeast(8, 0, alike(10, 0));
        isLeast(2, 6, 3, 3, 2, 2, 2);
        isLeast(8, 9, 1, 2, 3, 4, 5, 6, 7, 8, 9, 0);
        isLeast(8, 9, 1, 2, 3, 4, 5, 6, 7, 8, 9, 9);
        isLeast(8, 10, 9, 9, 9, 9, 9, 9, 9, 9, 1, 1);
        isLeast(3, 9, 5, 5, 4, 4, 3, 3, 3);
        isLeast(2, 28, 10, 9, 8, 7, 6, 5, 4, 3, 2, 1);
        isLeast(2, 255, 255, 1, 2, 3, 4, 5, 6, 7, 8, 9);
    }

    private static void areHats(int what, int want, int... heights) {
        WeddingPews x = new WeddingPews();
        tape(x, heights);
        due("hats, what " + what, x.hats(heights.length, what), want);
    }

    // ---- kept and undone ----

    private static void keptAndUndone() {
        test("KEPT: who sits where, THE LINE, COATS, how many have come, STAND, CLIMBED, X", BoundaryChurchTest::kept);
        test("UNDONE: as they were KEPT last.", BoundaryChurchTest::undone);
        test("CHECK: how many sit in the PEWS of a side, ROW by ROW: right, or the first that is not so.",
                BoundaryChurchTest::check);
        test("All memory is the church's own.", BoundaryChurchTest::memory);
        test("An object is used for at most 512 calls after it has been made", BoundaryChurchTest::calls512);
    }

    private static WeddingPews someChurch() {
        WeddingPews x = new WeddingPews();
        law(x, "e9-r(q=s&n<3);o(c=1)");
        list(x, "4ha5c,3gb6s,bp0cs,2hc9");
        x.come(7);
        x.coat(0, 3);
        x.coat(70, 15);
        moves(x, "72!");
        return x;
    }

    private static void kept() {
        String before = state(BoundaryChurchTest::someChurch);
        java.util.List<java.util.function.Consumer<WeddingPews>> changes = java.util.List.of(
                x -> moves(x, "0>143"), x -> moves(x, "73=74"), x -> moves(x, "73!"), x -> list(x, "9gd4"),
                x -> x.come(1), x -> x.come(200), x -> x.coat(0, NONE), x -> x.coat(143, 9), x -> x.seed(65535), x -> { });
        for (int i = 0; i < changes.size(); i++) {
            java.util.function.Consumer<WeddingPews> change = changes.get(i);
            due("undone, change " + i, state(() -> {
                WeddingPews x = someChurch();
                x.keep();
                change.accept(x);
                x.undo();
                return x;
            }), before);
        }
        WeddingPews x = someChurch();
        due("keep tells how many have come", x.keep(), 7);
        law(x, "e1(1=1)");
        tape(x, 1);
        due("undone", x.undo(), true);
        due("the law is not undone", x.count(7), 1);
        due("the tape is not undone", x.count(8), 20);
        x.check(0, 0);
        due("the law is the new one", x.tried(1, 2), 1);
    }

    private static void undone() {
        WeddingPews x = new WeddingPews();
        due("none was kept", x.undo(), false);
        due("nobody has come", x.keep(), 0);
        x.coat(1, 1);
        due("undone", x.undo(), true);
        due("as kept", x.coatAt(1), -2);
        x.coat(1, 2);
        x.keep();
        x.coat(1, 3);
        due("undone again", x.undo(), true);
        due("as kept last", x.coatAt(1), 2);
        x.coat(1, 4);
        due("undone once more", x.undo(), true);
        due("still as kept last", x.coatAt(1), 2);
        due("undone with nothing between", x.undo(), true);
        due("as it was", x.coatAt(1), 2);
        law(x, IN_ORDER);
        list(x, "3ha1");
        x.come(2);
        due("two have come", x.keep(), 2);
        x.come(1);
        x.undo();
        due("the third waits again", x.count(1), 1);
        x.come(1);
        due("he comes as he would have", x.guestAt(3, 5), 2);
    }

    private static void check() {
        WeddingPews x = seated("0:ha1 1:ha1 63:ha1 72:ha1");
        int[][] rows = {{2, 0, 0, 0, 0, 0, 0, 1}, {2, 0, 0, 0, 0, 0, 0, 0}, {1, 0, 0, 0, 0, 0, 0, 1},
            {2, 0, 0, 255, 0, 0, 0, 0}, {3, 1, 1, 1, 1, 1, 1, 2}};
        int[] want = {NONE, 7, 0, 3, 0};
        for (int i = 0; i < rows.length; i++) {
            tape(x, rows[i]);
            due("check " + i, x.check(0, 8), want[i]);
        }
        for (int n = 0; n <= 8; n++) {
            tape(x, rows[1]);
            due("the first " + n, x.check(0, n), n == 8 ? 7 : NONE);
            tape(x, 1, 0, 0, 0, 0, 0, 0, 0);
            due("his first " + n, x.check(1, n), NONE);
        }
        tape(x, 0, 1);
        due("his first row is not so", x.check(1, 2), 0);
        WeddingPews full = churchWithLeft();
        tape(full, alike(8, 9));
        due("full", full.check(1, 8), NONE);
        tape(full, 9, 9, 9, 9, 9, 9, 9, 8);
        due("not quite", full.check(1, 8), 7);
    }

    private static void memory() {
        WeddingPews x = someChurch();
        WeddingPews other = new WeddingPews();
        other.keep();
        for (int what = 0; what < 26; what++) {
            due("the other is new, count " + what, other.count(what), what == 9 ? 1 : 0);
        }
        law(other, "o(1=1);o(1=2)");
        tape(other, 1, 2, 3);
        due("this one's law", x.count(7), 2);
        due("this one's tape", x.count(8), 0);
        due("this one was not kept", x.undo(), false);
        due("this one's coats", x.coatAt(70), 15);
        due("the other's coats", other.coatAt(70), -2);
        due("the other's tape", other.count(8), 20);
    }

    private static void calls512() {
        WeddingPews x = new WeddingPews();
        int calls = 0;
        while (calls < 480) {
            due("feed", x.feed(0x39686135, 0x2c396762, 0x3600ffff, 0, 0), 20);
            due("list", x.list(9), 18);
            due("come", x.come(200), 0);
            calls += 3;
        }
        due("have come", x.count(0), 18 * 160);
        due("stand", x.count(2), 18 * 160);
        x.feed(0x65312831, 0x3d312900, 0, 0, 0);
        due("the law", x.law(7), 1);
        x.feed(0x39686135, 0, 0, 0, 0);
        due("nine more", x.list(4), 9);
        due("they sit", x.come(200), 36);
        calls += 7;
        while (calls < 511) {
            due("they still do", x.pew(0, 0, 0), 9);
            calls++;
        }
        due("the 512th", x.guestAt(8, 5), 18 * 160 + 8);
    }
}
