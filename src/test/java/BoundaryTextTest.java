import java.util.function.IntUnaryOperator;
import java.util.function.ToIntFunction;

/** The boundaries of the three languages: each sentence of the document that names one has its test here. */
public final class BoundaryTextTest extends Talk {
    private static final ToIntFunction<String> LIST = text -> list(new WeddingPews(), text);
    /** Seats 0 and 1 are taken. */
    private static final ToIntFunction<String> MOVES = text -> moves(twoInFront(), text);
    private static final ToIntFunction<String> LAW = text -> law(new WeddingPews(), text);

    public static void main(String[] args) {
        lists();
        moves();
        laws();
        lawFaults();
        end("boundaries of texts");
    }

    // ---- help ----

    /** Each of the 256 bytes at one place of a text. */
    private static void eachByte(ToIntFunction<String> reader, String before, String behind, IntUnaryOperator want) {
        for (int sign = 0; sign < 256; sign++) {
            due(before + "<" + sign + ">" + behind, reader.applyAsInt(before + (char) sign + behind),
                    want.applyAsInt(sign));
        }
    }

    private static boolean isOf(int sign, String signs) {
        return signs.indexOf(sign) >= 0;
    }

    /** A blank at each place of a text that stands. */
    private static void eachBlank(ToIntFunction<String> reader, String text) {
        due(text, reader.applyAsInt(text) > 0, true);
        for (int at = 0; at <= text.length(); at++) {
            String blank = text.substring(0, at) + " " + text.substring(at);
            due(blank, reader.applyAsInt(blank), -1000 - at);
        }
    }

    /** Each beginning of a text: those that stand are told as their length and what they answer. */
    private static void eachBeginning(ToIntFunction<String> reader, String text, int... standing) {
        for (int length = 1; length <= text.length(); length++) {
            int want = -1000 - length;
            for (int i = 0; i < standing.length; i += 2) {
                want = standing[i] == length ? standing[i + 1] : want;
            }
            due(text.substring(0, length), reader.applyAsInt(text.substring(0, length)), want);
        }
    }

    private static void each(ToIntFunction<String> reader, String... textsAndAnswers) {
        for (int i = 0; i < textsAndAnswers.length; i += 2) {
            due(textsAndAnswers[i], reader.applyAsInt(textsAndAnswers[i]), Integer.parseInt(textsAndAnswers[i + 1]));
        }
    }

    // ---- a list ----

    private static void lists() {
        test("A LIST: a TEXT of at most 120 bytes, no blanks", BoundaryTextTest::listOf120);
        test("PARTS with a , (44) between two", () -> each(LIST, "ha5,gb6", "2", ",ha5", "-1000", "ha5,", "-1004",
                "ha5,,gb6", "-1004", "ha5gb6", "-1003", "ha5+gb6", "-1003", "ha5-gb6", "-1003", "ha5;gb6", "-1003"));
        test("perhaps a digit 2 to 9 (so many alike), then h (hers), g (his) or b (both)",
                BoundaryTextTest::listAlike);
        test("a letter a to p (FAMILY)", () -> eachByte(LIST, "h", "5",
                sign -> sign >= 'a' && sign <= 'p' ? 1 : -1001));
        test("a digit (HEIGHT)", () -> eachByte(LIST, "ha", "", sign -> isOf(sign, "0123456789") ? 1 : -1002));
        test("then perhaps c (a child), then perhaps s (a singer)", BoundaryTextTest::listMarks);
        test("They come behind THE LINE.", BoundaryTextTest::listBehindLine);
        test("FAULTS, the first from the left: 1 what can't stand there (the end, too); 4 more than 200",
                BoundaryTextTest::listFirstFault);
        test("4 more than 200 in THE LINE with them, at the first byte of the PART by which they are",
                BoundaryTextTest::listMoreThan200);
        test("by which they are (asked when it ends)", BoundaryTextTest::listAskedWhenItEnds);
        test("Nobody comes behind THE LINE by a LIST with a FAULT.", BoundaryTextTest::listWithFault);
    }

    private static void listOf120() {
        String longest = "ha5,".repeat(29) + "2ha5";
        due("120 bytes", LIST.applyAsInt(longest), 31);
        WeddingPews x = new WeddingPews();
        text(x, longest + "c");
        due("121 bytes", x.list(121), NONE);
        due("121 bytes: nobody comes", x.count(1), 0);
        due("121 bytes: the tape stays", x.count(8), 140);
        due("120 bytes of them", x.list(120), 31);
        due("the end of 120 bytes", LIST.applyAsInt("ha5,".repeat(30)), -1120);
        due("the last of 120 bytes", LIST.applyAsInt("ha5,".repeat(29) + "gb6x"), -1119);
        eachBlank(LIST, "2ha5cs,gb6");
    }

    private static void listAlike() {
        for (int alike = 2; alike <= 9; alike++) {
            due(alike + " alike", LIST.applyAsInt(alike + "bp9"), alike);
        }
        each(LIST, "0ha5", "-1000", "1ha5", "-1000", "22ha5", "-1001", "29ha5", "-1001", "9", "-1001", "9a5", "-1001");
        eachByte(LIST, "", "a5", sign -> isOf(sign, "hgb") ? 1 : isOf(sign, "23456789") ? -1001 : -1000);
        eachByte(LIST, "2", "a5", sign -> isOf(sign, "hgb") ? 2 : -1001);
        eachByte(LIST, "ha5,", "a5", sign -> isOf(sign, "hgb") ? 2 : isOf(sign, "23456789") ? -1005 : -1004);
    }

    private static void listMarks() {
        eachByte(LIST, "ha5", "", sign -> isOf(sign, "cs") ? 1 : sign == ',' ? -1004 : -1003);
        eachByte(LIST, "ha5c", "", sign -> sign == 's' ? 1 : sign == ',' ? -1005 : -1004);
        eachByte(LIST, "ha5s", "", sign -> sign == ',' ? -1005 : -1004);
        eachByte(LIST, "ha5cs", "", sign -> sign == ',' ? -1006 : -1005);
        WeddingPews x = new WeddingPews();
        list(x, "ha5,ha5c,ha5s,ha5cs");
        due("children", x.inLine(3), 2);
        due("singers", x.inLine(4), 2);
    }

    private static void listBehindLine() {
        WeddingPews x = new WeddingPews();
        list(x, "ha5,2gb5");
        list(x, "bp5,hc5");
        for (int i = 0; i < 5; i++) {
            due("in line " + i, x.count(30 + i), new int[] {0, 1, 1, 15, 2}[i]);
        }
        due("no sixth", x.count(35), NONE);
        WeddingPews full = churchWithLine(199);
        list(full, "bp5");
        due("the 200th", full.count(229), 15);
        full.come(1);
        due("no 200th any more", full.count(229), NONE);
        due("now the 199th", full.count(228), 15);
        due("one more", list(full, "go5"), 1);
        due("a 200th again", full.count(229), 14);
    }

    private static void listFirstFault() {
        eachBeginning(LIST, "2ha5cs,3gp0cs,b", 4, 2, 5, 2, 6, 2, 11, 5, 12, 5, 13, 5);
        each(LIST, "hz,zz", "-1001", "zz,hz", "-1000", "ha5,hz,zz", "-1005");
        WeddingPews x = churchWithLine(200);
        due("4 ahead of 1", list(x, "ha5,z"), -4000);
        due("1 ahead of 4", list(x, "z,ha5"), -1000);
        due("the first 4 of two", list(churchWithLine(199), "2ha5,2ha5"), -4000);
        due("not the second", list(churchWithLine(198), "2ha5,2ha5"), -4005);
    }

    private static void listMoreThan200() {
        due("201 by one", list(churchWithLine(200), "ha5"), -4000);
        due("200 by one", list(churchWithLine(199), "ha5"), 1);
        due("201 by two", list(churchWithLine(199), "2ha5"), -4000);
        due("200 by two", list(churchWithLine(198), "2ha5"), 2);
        due("200 by nine", list(churchWithLine(191), "9ha5"), 9);
        due("201 by nine", list(churchWithLine(192), "9ha5"), -4000);
        due("by the second", list(churchWithLine(199), "gb1,gb2"), -4004);
        due("by the third", list(churchWithLine(196), "gb1cs,2gb2,2gb3"), -4011);
        due("200 by three", list(churchWithLine(196), "gb1cs,2gb2,gb3"), 4);
        due("200 by one list", list(new WeddingPews(), "9ha5,".repeat(22) + "2ha5"), 200);
        due("201 by one list", list(new WeddingPews(), "9ha5,".repeat(22) + "3ha5"), -4110);
        WeddingPews x = churchWithLine(200);
        x.come(2);
        due("those that have come don't count", list(x, "3ha5"), -4000);
        due("two are gone", list(x, "2ha5"), 2);
    }

    private static void listAskedWhenItEnds() {
        WeddingPews x = churchWithLine(199);
        due("it has not ended", list(x, "2"), -1001);
        due("it has not ended yet", list(x, "2h"), -1002);
        due("it has still not ended", list(x, "2ha"), -1003);
        due("a family that is none", list(x, "2hq5"), -1002);
        due("a height that is none", list(x, "2hax"), -1003);
        due("in the second", list(x, "ha5,ha"), -1006);
        due("it has ended", list(x, "2ha5"), -4000);
        due("it has ended with its marks", list(x, "2ha5cs"), -4000);
        due("it has ended, what is behind can't stand", list(x, "2ha5cs,"), -4000);
    }

    private static void listWithFault() {
        String[] faulty = {"x", "ha5,", "2gb5,3hp0cs,x", "gb5,9ha5,9ha5", "gb5,9ha5,9ha5,9ha5x"};
        String before = state(() -> churchWithLine(190));
        for (String text : faulty) {
            due(text, list(churchWithLine(190), text) <= -1000, true);
            due(text, state(() -> {
                WeddingPews x = churchWithLine(190);
                list(x, text);
                return x;
            }), before);
        }
        WeddingPews x = churchWithLine(190);
        list(x, "9gp0,bx");
        due("what comes next stands behind those before", list(x, "hc5"), 1);
        due("the 191st", x.count(220), 2);
        due("none behind him", x.count(221), NONE);
    }

    // ---- moves ----

    private static void moves() {
        test("MOVES: a TEXT of at most 120 bytes, no blanks", BoundaryTextTest::movesOf120);
        test("LINES with a ; (59) between two (20 at most)", () -> {
            each(MOVES, "0=1;0=1", "2", ";0=1", "-1000", "0=1;", "-1004", "0=1;;0=1", "-1004", "0=1:0=1", "-1003",
                    "0=1<0=1", "-1003", "0=1,0=1", "-1003", "0!;1!", "2", "0!1!", "-1002");
            each(MOVES, "0=1" + ";0=1".repeat(19), "20", "0=1" + ";0=1".repeat(18), "19");
        });
        test("a number (SEAT, one to three digits)", BoundaryTextTest::movesNumber);
        test("then > and a number (he goes to that SEAT), or = and a number (both change), or ! "
                + "(he goes to the back, STANDS)", BoundaryTextTest::movesDeeds);
        test("FAULTS: 1 what can't stand there (the end, too); 2 a fourth digit, at it",
                () -> eachBeginning(MOVES, "0>9;1=9;9!;1>099;", 3, 1, 7, 2, 10, 3, 14, 4, 15, 4, 16, 4));
        test("2 a fourth digit, at it", () -> each(MOVES, "0000!", "-2003", "0001!", "-2003", "9999!", "-2003",
                "1430!", "-2003", "0>0002", "-2005", "0>9999", "-2005", "0=0001", "-2005", "0=1;0000!", "-2007",
                "00000", "-2003", "000!", "1", "0>143", "1"));
        test("3 a SEAT above 143, at its first digit (asked when it ends)", () -> each(MOVES, "144!", "-3000",
                "144", "-3000", "144x", "-3000", "999!", "-3000", "0>144", "-3002", "0>144x", "-3002", "0=144", "-3002",
                "0>999", "-3002", "0>143", "1", "143!", "-7000", "0>143;144!", "-3006", "144>145", "-3000",
                "1440!", "-2003", "0>1440", "-2005"));
        test("4 a 21st LINE, at its first digit (if that can stand there)", BoundaryTextTest::movesLine21);
        test("7 nobody is there (also at the second one, with =), at the SEAT's first digit (behind 3; by LINES "
                + "ahead, too)", () -> each(MOVES, "2!", "-7000", "2>3", "-7000", "2=0", "-7000", "2=3", "-7000",
                "0=2", "-7002", "0=143", "-7002", "0=1", "1", "0=0", "1", "0=1;2!", "-7004", "143!", "-7000",
                "144!", "-3000", "0=144", "-3002", "0!;0!", "-7003", "0>2;0!", "-7004", "0>2;2!", "2", "0!;1=0", "-7005",
                "0>2;0=1", "-7004", "0>2;1=2", "2", "0>2;1=0", "-7006", "002!", "-7000", "0=002", "-7002"));
        test("8 somebody is there already (with >), at the second SEAT's first digit (he himself, too)",
                () -> each(MOVES, "0>1", "-8002", "1>0", "-8002", "0>0", "-8002", "00>00", "-8003", "0>001", "-8002",
                "0>2;1>2", "-8006", "0>2;1>0", "2", "0>2;2>1", "-8006", "0>2;2>2", "-8006", "1!;0>1", "2"));
        test("Nothing is done by MOVES with a FAULT.", BoundaryTextTest::movesWithFault);
    }

    private static void movesOf120() {
        String longest = "000=001;".repeat(9) + "00=001;".repeat(6) + "00=001";
        due("as long as that", longest.length(), 120);
        due("120 bytes", MOVES.applyAsInt(longest), 16);
        WeddingPews x = twoInFront();
        text(x, longest + ";0!");
        due("121 bytes", x.moves(121), NONE);
        due("121 bytes: nothing is done", x.guestAt(0, 5), 0);
        due("121 bytes: the tape stays", x.count(8), 140);
        due("120 bytes of them", x.moves(120), 16);
        due("the end of 120 bytes", MOVES.applyAsInt("000=001;".repeat(15)), -1120);
        eachBlank(MOVES, "0>9;1=9;9!;1>099");
    }

    private static void movesNumber() {
        each(MOVES, "0!", "1", "00!", "1", "000!", "1", "01!", "1", "001!", "1", "!", "-1000", ">2", "-1000",
                "0>2", "1", "0>02", "1", "0>002", "1", "0>", "-1002", "0=", "-1002", "0>!", "-1002", "-1!", "-1000",
                "0>-1", "-1002");
        eachByte(MOVES, "", "!", sign -> isOf(sign, "01") ? 1 : isOf(sign, "23456789") ? -7000 : -1000);
        eachByte(MOVES, "0=", "", sign -> isOf(sign, "01") ? 1 : isOf(sign, "23456789") ? -7002 : -1002);
        eachByte(MOVES, "0>", "", sign -> isOf(sign, "01") ? -8002 : isOf(sign, "23456789") ? 1 : -1002);
        WeddingPews x = twoInFront();
        due("to the last seat", moves(x, "1>143"), 1);
        due("he sits there", x.guestAt(143, 5), 1);
        due("from there", moves(x, "143>42"), 1);
        due("he sits here", x.guestAt(42, 5), 1);
    }

    private static void movesDeeds() {
        eachByte(MOVES, "0", "2", sign -> sign == '>' ? 1 : sign == '=' ? -7002 : sign == '!' ? -1002
                : isOf(sign, "0123456789") ? -7000 : -1001);
        eachByte(MOVES, "0!", "", sign -> sign == ';' ? -1003 : -1002);
        eachByte(MOVES, "0>2", "", sign -> isOf(sign, "0123456789") ? 1 : sign == ';' ? -1004 : -1003);
        WeddingPews x = twoInFront();
        due("he changes with himself", moves(x, "0=0"), 1);
        due("he still sits there", x.guestAt(0, 5), 0);
        due("both go to the back", moves(x, "0!;1!"), 2);
        due("nobody sits", x.count(3), 0);
        due("both stand", x.count(2), 2);
    }

    private static void movesLine21() {
        String twenty = "0=1" + ";0=1".repeat(19);
        due("20 lines", MOVES.applyAsInt(twenty), 20);
        eachByte(MOVES, twenty + ";", "!", sign -> isOf(sign, "0123456789") ? -4080 : -1080);
        each(MOVES, twenty + ";", "-1080", twenty + ";0", "-4080", twenty + ";999", "-4080", twenty + ";0000", "-4080",
                twenty + "x", "-1079", twenty + ";0=1;x", "-4080");
        String other = "1!;" + "00=0;".repeat(18) + "0!";
        due("20 others", MOVES.applyAsInt(other), 20);
        due("21 others", MOVES.applyAsInt(other + ";0!"), -4000 - other.length() - 1);
    }

    private static void movesWithFault() {
        String[] faulty = {"0>9;x", "0!;0!", "0=1;0>1", "1!;144!", "0>9;9>72;9!", "0!;1!;", "0>9;0000!",
            "1!;" + "0=0;".repeat(19) + "0!"};
        String before = state(Talk::twoInFront);
        for (String text : faulty) {
            due(text, moves(twoInFront(), text) <= -1000, true);
            due(text, state(() -> {
                WeddingPews x = twoInFront();
                moves(x, text);
                return x;
            }), before);
        }
    }

    // ---- the law ----

    private static void laws() {
        test("THE LAW: a TEXT of at most 240 bytes, no blanks (none at first)", BoundaryTextTest::lawOf240);
        test("RULES (16 at most) with a ; (59) between two", () -> each(LAW, "o(1=1)" + ";o(1=1)".repeat(15), "16",
                "o(1=1);e1(1=1)", "2", ";o(1=1)", "-1000", "o(1=1);", "-1007", "o(1=1);;o(1=1)", "-1007",
                "o(1=1)o(1=1)", "-1006", "o(1=1):o(1=1)", "-1006", "o(1=1)<o(1=1)", "-1006", "o(1=1),o(1=1)", "-1006"));
        test("a letter, E, and (C), of o only (C)", BoundaryTextTest::lawRule);
        test("e how well a PEW is for a GUEST (0 to 9999)", () -> {
            due("10000 is 9999", led("e9999(r=1);e10000(1=1)", "ha5"), 0);
            due("9998 is below 9999", led("e9998(r=0);e10000(1=1)", "ha5"), 9);
            due("0 is 0", led("e0(1=1)", "ha5"), -2);
            due("1 is above 0", led("e1(1=1)", "ha5"), 0);
        });
        test("y tenths that he is told to sit where he likes (0 to 10)", BoundaryTextTest::lawTenths);
        test("o he sits inside (any will do; without an o in THE LAW none does)", () -> {
            due("without an o", led("e1(1=1)", "ha5"), 0);
            due("one that does not hold", led("e1(1=1);o(1=2)", "ha5"), 0);
            due("the last of three", led("o(1=2);e1(1=1);o(1=3);o(1=1)", "ha5"), 8);
            due("the first of three", led("o(1=1);e1(1=1);o(1=3);o(1=2)", "ha5"), 8);
        });
        test("of the first RULE of e, y whose C holds the E (beyond its bounds the bound; none: 0)",
                BoundaryTextTest::lawFirstRule);
        test("C: PARTS with a | between two, one of which must hold; a PART: TESTS with an & between two, all of "
                + "which must", () -> each(LAW, "o()", "-1002", "o(|1=1)", "-1002", "o(1=1|)", "-1006",
                "o(1=1||1=1)", "-1006", "o(&1=1)", "-1002", "o(1=1&)", "-1006", "o(1=1&|1=1)", "-1006",
                "o(1=1&&1=1)", "-1006", "o(())", "-1003", "o((1=1)(1=1))", "-1007", "o((1=1)|(1=1))", "1"));
        test("a TEST: !TEST, (C), or E, one of < > =, and E", BoundaryTextTest::lawTest);
        test("E: TERMS with + or - between two; a TERM: FACTORS with one of * / % between two; from the left on",
                BoundaryTextTest::lawSum);
        test("a FACTOR: [E], a number of one to five digits, or a letter", BoundaryTextTest::lawFactor);
        test("s his side, f his FAMILY, t his HEIGHT, c a child (1, 0), g a singer (1, 0), q the PEW's side, r its ROW, n "
                + "how many sit there, m how many of his FAMILY sit there, k how many SEATS there are kept for his FAMILY "
                + "that are not taken", BoundaryTextTest::lawLetters);
        test("d how many more sit on side 0 than on side 1 (below 0: fewer)", BoundaryTextTest::lawMoreOnHers);
        test("w how many have come so far modulo 1000 (q, r, n, m, k in y 0)", BoundaryTextTest::lawCome);
        test("All is reckoned with 32 bits, as the machine does", BoundaryTextTest::law32Bits);
        test("what is divided by 0 is REFUSED: then the whole C of the RULE does not hold, the E of it is 0.",
                BoundaryTextTest::lawDividedBy0);
        test("Of a C as much is asked, from the left, as matters.", BoundaryTextTest::lawAsMuchAsMatters);
    }

    private static void holds(String c, boolean want) {
        due(c, led("e1(" + c + ")", "hc4") >= 0, want);
    }

    private static void lawOf240() {
        due("none at first", new WeddingPews().count(7), 0);
        String longest = "e11" + "+1".repeat(116) + "(1=1)";
        due("240 bytes", LAW.applyAsInt(longest), 1);
        WeddingPews x = new WeddingPews();
        text(x, longest + ";");
        due("241 bytes", x.law(241), NONE);
        due("241 bytes: no law", x.count(7), 0);
        due("241 bytes: the tape stays", x.count(8), 260);
        due("240 bytes of them", x.law(240), 1);
        list(x, "ha5");
        due("all 240 are the law", x.tried(1, 2), 0);
        due("the end of 240 bytes", LAW.applyAsInt("e11" + "+1".repeat(118) + "+"), -1240);
        due("the last of 240 bytes", LAW.applyAsInt("e1" + "+1".repeat(116) + "(1=1))"), -1239);
        due("59 tests, all of which hold", led("e1(" + "1=1&".repeat(58) + "1=1)", "ha5"), 0);
        due("59 tests, the last does not", led("e1(" + "1=1&".repeat(58) + "1=2)", "ha5"), -2);
        due("59 parts, the last holds", led("e1(" + "1=2|".repeat(58) + "1=1)", "ha5"), 0);
        due("59 parts, none holds", led("e1(" + "1=2|".repeat(58) + "1=2)", "ha5"), -2);
        WeddingPews often = new WeddingPews();
        for (int i = 0; i < 30; i++) {
            due("240 bytes, time " + i, law(often, longest), 1);
        }
        list(often, "ha5");
        due("the last of many is the law", often.tried(1, 2), 0);
        eachBlank(LAW, "e[1+n]*2(!s=0&(t>3|c=1));y5(w<9);o(m=0)");
    }

    private static void lawRule() {
        eachByte(LAW, "", "5(1=1)", sign -> isOf(sign, "ey") ? 1 : sign == 'o' ? -1001 : -1000);
        eachByte(LAW, "", "(1=1)", sign -> sign == 'o' ? 1 : isOf(sign, "ey") ? -1001 : -1000);
        eachByte(LAW, "e5(1=1)", "o(1=1)", sign -> sign == ';' ? 2 : -1007);
        each(LAW, "e", "-1001", "y", "-1001", "o", "-1001", "e5", "-1002", "y5(", "-1003", "o(", "-1002", "e(1=1)",
                "-1001", "o5(1=1)", "-1001", "e5()", "-1003", "e5(1=1", "-1006", "e5(1=1))", "-1007");
    }

    /** A seed whose next draw is that one. */
    private static int seedOf(int draw) {
        int x = 0;
        while ((25173 * x + 13849) % 65536 % 10 != draw) {
            x++;
        }
        return x;
    }

    private static void lawTenths() {
        for (int draw = 0; draw < 10; draw++) {
            WeddingPews x = new WeddingPews();
            list(x, "ha5");
            due("seed", x.seed(seedOf(draw)), true);
            for (int tenths = 0; tenths <= 12; tenths++) {
                law(x, "y" + tenths + "(1=1);e1(q=1&r=7)");
                due("y " + tenths + ", draw " + draw, x.tried(1, 2), draw < tenths ? 0 : 135);
            }
            law(x, "y0-1(1=1);e1(q=1&r=7)");
            due("y below 0, draw " + draw, x.tried(1, 2), 135);
            law(x, "y99999(1=1);e1(q=1&r=7)");
            due("y far above 10, draw " + draw, x.tried(1, 2), 0);
        }
    }

    private static void lawFirstRule() {
        due("the first that holds", led("e1(r=9);e2(r=3);e9(r=3);e3(r=4)", "ha5"), 36);
        due("it is 0, and no other is asked", led("e0(1=1);e9(1=1)", "ha5"), -2);
        due("it is below 0, and no other is asked", led("e0-9(1=1);e9(1=1)", "ha5"), -2);
        due("below its bound it is the bound", led("e0-99999*99999(r=0);e1(r=1)", "ha5"), 9);
        due("above its bound it is the bound", led("e99999(r=6);e9999(r=5)", "ha5"), 45);
        due("none holds", led("e9(1=2)", "ha5"), -2);
        due("none is there", led("o(1=1)", "ha5"), -2);
        due("y is no e", led("y0(1=1);o(1=1)", "ha5"), -2);
        due("the first y that holds", led("y10(1=2);y0(1=1);y10(1=1);e1(q=1)", "ha5"), 72);
        due("y holds", led("y0(1=2);y10(1=1);y0(1=1);e1(q=1)", "ha5"), 0);
        due("no y holds", led("y10(1=2);e1(q=1)", "ha5"), 72);
    }

    private static void lawTest() {
        eachByte(LAW, "o(1", "1)", sign -> isOf(sign, "<>=") ? 1 : isOf(sign, "0123456789+-*/%") ? -1005 : -1003);
        eachByte(LAW, "o(1=1", "1=1)", sign -> isOf(sign, "|&") ? 1 : sign == ')' ? -1006
                : isOf(sign, "0123456789+-*/%") ? -1007 : -1005);
        each(LAW, "o(1)", "-1003", "o(1=)", "-1004", "o(=1)", "-1002", "o(1=1=1)", "-1005", "o(1<=1)", "-1004", "o(!)",
                "-1003", "o(!1)", "-1004", "o(1!=1)", "-1003", "o(1=!1)", "-1004", "o((1)=1)", "-1004", "o((1=1)=1)",
                "-1007", "o(1=(1))", "-1004", "o(!!1=1)", "1", "o(!(1=1))", "1", "o((!1=1))", "1");
        holds("1<1", false);
        holds("1>1", false);
        holds("1=1", true);
        holds("0-1<0", true);
        holds("!1=2", true);
        holds("!1=1", false);
        holds("!1<2", false);
        holds("!2>1", false);
        holds("!!1=2", false);
        holds("!1=2&1=2", false);
        holds("!1=1|1=1", true);
    }

    private static void lawSum() {
        eachByte(LAW, "e5", "5(1=1)", sign -> isOf(sign, "0123456789+-*/%") ? 1 : sign == '(' ? -1004 : -1002);
        each(LAW, "e+5(1=1)", "-1001", "e5+(1=1)", "-1003", "e5++5(1=1)", "-1003", "e5*(1=1)", "-1003", "e*5(1=1)",
                "-1001", "e5*-5(1=1)", "-1003", "e5-(1=1)", "-1003");
        holds("9-3-2=4", true);
        holds("9-3+2=8", true);
        holds("100/10/5=2", true);
        holds("100/10*5=50", true);
        holds("17%10%4=3", true);
        holds("7/2*2=6", true);
        holds("1+2*3=7", true);
        holds("[0-7]/2=0-3", true);
        holds("[0-7]%3=0-1", true);
        holds("7%[0-3]=1", true);
        holds("7/[0-2]=0-3", true);
    }

    private static void lawFactor() {
        eachByte(LAW, "e", "(1=1)", sign -> isOf(sign, "0123456789sftcgqrnmkdw") ? 1 : sign == '[' ? -1002 : -1001);
        eachByte(LAW, "o(1=", ")", sign -> isOf(sign, "0123456789sftcgqrnmkdw") ? 1 : sign == '[' ? -1005 : -1004);
        eachByte(LAW, "e[5", "(1=1)", sign -> sign == ']' ? 1 : isOf(sign, "0123456789+-*/%") ? -1004 : -1003);
        each(LAW, "e0(1=1)", "1", "e00000(1=1)", "1", "e99999(1=1)", "1", "e100000(1=1)", "-2006", "e[](1=1)", "-1002",
                "ess(1=1)", "-1002", "e5s(1=1)", "-1002", "es5(1=1)", "-1002", "e[5(1=1)", "-1003", "e5](1=1)", "-1002",
                "e[5][5](1=1)", "-1004");
        holds("99999=99998+1", true);
        holds("00007=7", true);
    }

    private static void lawLetters() {
        String[] guests = {"ha0", "gh5c", "bp9s", "ga0cs"};
        int[][] facts = {{0, 0, 0, 0, 0}, {1, 7, 5, 1, 0}, {2, 15, 9, 0, 1}, {1, 0, 0, 1, 1}};
        for (int i = 0; i < guests.length; i++) {
            for (int fact = 0; fact < 5; fact++) {
                String c = "sftcg".charAt(fact) + "=" + facts[i][fact];
                due(guests[i] + " " + c, led("e1(" + c + ")", guests[i]), 0);
                due(guests[i] + " !" + c, led("e1(!" + c + ")", guests[i]), -2);
            }
        }
        for (int pew = 0; pew < 16; pew++) {
            due("pew " + pew, led("e1(q=" + pew / 8 + "&r=" + pew % 8 + ")", "ha5"), 9 * pew);
        }
        for (int many = 0; many < 9; many++) {
            WeddingPews x = new WeddingPews();
            list(x, "ha1,hb1,ha1,hb1,ha1,hb1,ha1,hb1".substring(0, Math.max(3, 4 * many - 1)));
            law(x, many == 0 ? "o(1=1)" : "e1(q=0&r=0)");
            x.come(9);
            list(x, "ha1");
            int his = (many + 1) / 2;
            law(x, "e1(q=0&r=0&n=" + many + "&m=" + his + ")");
            due("n is " + many + ", m is " + his, x.tried(1, 2), many);
            law(x, "e1(q=0&r=0&(!n=" + many + "|!m=" + his + "))");
            due("they are not anything else", x.tried(1, 2), -2);
        }
        for (int place = 0; place < 9; place++) {
            WeddingPews x = new WeddingPews();
            list(x, "hp1");
            x.coat(9 + place, 15);
            law(x, "e1(k=1)");
            due("k by place " + place, x.tried(1, 2), 9);
            x.coat(9 + place, 14);
            due("k is 0 by another's " + place, x.tried(1, 2), -2);
        }
        WeddingPews beside = new WeddingPews();
        list(beside, "hp1");
        beside.coat(8, 15);
        beside.coat(18, 15);
        law(beside, "e1(q=0&r=1&k=0)");
        due("the coats beside a pew are not in it", beside.tried(1, 2), 9);
        WeddingPews x = new WeddingPews();
        for (int seat = 135; seat < 144; seat++) {
            x.coat(seat, 15);
        }
        list(x, "2hp1");
        law(x, "e1(k=9)");
        due("k is 9", x.tried(1, 2), 135);
        x.come(1);
        due("k is 9 no more", x.tried(1, 2), -2);
        law(x, "e1(k=8)");
        due("k is 8, one is taken", x.tried(1, 2), 136);
    }

    private static void lawMoreOnHers() {
        String[] churches = {"0:ha1 1:ha1", "0:ha1 72:ha1", "72:ha1 143:ha1", "71:ha1", "72:ha1"};
        int[] more = {2, 0, -2, 1, -1};
        for (int i = 0; i < churches.length; i++) {
            WeddingPews x = seated(churches[i]);
            law(x, "e1(d=" + (more[i] < 0 ? "0-" + -more[i] : more[i]) + ")");
            list(x, "ha1");
            due(churches[i], x.tried(1, 2) >= 0, true);
        }
        WeddingPews x = churchWithLeft(9, 9, 9, 9, 9);
        moves(x, "45!;46!;47!;48!;49!;50!;51!;52!;53!;54!;55!;56!;57!;58!;59!");
        moves(x, "60!;61!;62!;63!;64!;65!;66!;67!;68!;69!;70!;71!");
        law(x, "e1(d=0-72);e5(1=1)");
        list(x, "ha1");
        due("72 fewer", x.tried(1, 3), -71);
        law(x, "e1(d<0-72)");
        due("not fewer than that", x.tried(1, 2), -2);
        law(x, "y10(d=0-72)");
        due("in y, too", x.tried(1, 2), 0);
    }

    private static void lawCome() {
        WeddingPews x = new WeddingPews();
        law(x, "e1(w=998&r=0);e2(w=999&r=1);e3(w=0&r=2);e4(w=1&r=3)");
        list(x, "ha1");
        due("0 at first", x.tried(1, 2), 18);
        x.come(1);
        for (int i = 0; i < 5; i++) {
            waitBehind(x, i == 0 ? 197 : 200);
            x.come(200);
        }
        due("so many have come", x.count(0), 998);
        waitBehind(x, 4);
        int[] want = {0, 9, 19, 28};
        for (int i = 0; i < 4; i++) {
            due("w is " + (998 + i) % 1000, x.tried(1, 2), want[i]);
            x.come(1);
        }
        due("how many have come is no modulo", x.count(0), 1002);
        due("q, r, n, m, k are 0 in y", led("y10(q+r+n+m+k=0);e1(q=1)", "ha5"), 0);
        WeddingPews y = seated("0:ha1 1:ha1");
        y.coat(2, 0);
        list(y, "ha1");
        law(y, "y10(q=0&r=0&n=0&m=0&k=0);e1(q=1)");
        due("though some sit there", y.tried(1, 2), 9);
        law(y, "y1+10*n+10*m+10*k+10*q+10*r(1=1);e1(q=1)");
        y.seed(seedOf(1));
        due("in the E, too", y.tried(1, 2), 72);
        y.seed(seedOf(0));
        due("in the E, too: below 1", y.tried(1, 2), 9);
    }

    private static void law32Bits() {
        String most = "[46340*46340+88047]";
        String least = "[0-46340*46340-88048]";
        holds("46340*46340>0", true);
        holds("46341*46341<0", true);
        holds(most + ">0", true);
        holds(most + "+1<0", true);
        holds(most + "+1=" + least, true);
        holds(least + "-1=" + most, true);
        holds(least + "<0", true);
        holds("0-" + least + "=" + least, true);
        holds(least + "/[0-1]=" + least, true);
        holds(least + "%[0-1]=0", true);
        holds(least + "*[0-1]=" + least, true);
        holds(most + "*2=0-2", true);
        holds(most + "*" + most + "=1", true);
        holds("65536*65536=0", true);
        holds("1/[65536*65536]=0", false);
        due("e wraps around below 0", led("e46341*46341(1=1)", "ha5"), -2);
        due("e wraps around above 0", led("e[46341*46341]*2(1=1)", "ha5"), 0);
    }

    private static void lawDividedBy0() {
        holds("1/0=0", false);
        holds("1%0=1", false);
        holds("0/0=0", false);
        holds("!1/0=0", false);
        holds("!!1/0=0", false);
        holds("!(1=2|1/0=0)", false);
        holds("1/0=0|1=1", false);
        holds("(1/0=0)|1=1", false);
        holds("1=1&1%0=0|1=1", false);
        holds("1=2|(1=1&1/0=0)|1=1", false);
        holds("0*[1/0]=0", false);
        holds("1/[1-1]=1", false);
        holds("0/1=0", true);
        holds("1/[0-1]=0-1", true);
        due("C: the next rule", led("e9(1/0=0|1=1);e1(r=5)", "ha5"), 45);
        due("E: 0, not the next rule", led("e1/0(1=1);e1(r=5)", "ha5"), -2);
        due("E: 0, all of it", led("e5+1/0(1=1)", "ha5"), -2);
        due("E: 0, of it alone", led("e9/r(1=1)", "ha5"), 9);
        due("E: not asked where C does not hold", led("e1/0(1=2);e1(r=5)", "ha5"), 45);
        due("y: C", led("y10(1/0=0|1=1);e1(r=5)", "ha5"), 45);
        due("y: E", led("y10+1/0(1=1);y10(1=1);e1(r=5)", "ha5"), 45);
        due("o: another", led("e1(1=1);o(1/0=0|1=1);o(1=1)", "ha5"), 8);
        due("o: none", led("e1(1=1);o(1/0=0|1=1)", "ha5"), 0);
    }

    private static void lawAsMuchAsMatters() {
        holds("1=1|1/0=0", true);
        holds("1=2&1/0=0|1=1", true);
        holds("1=2&1=1&1/0=0|1=1", true);
        holds("1=1|1=2|1/0=0", true);
        holds("!(1=2&1/0=0)", true);
        holds("(1=1|1/0=0)&1=1", true);
        holds("(1=2|1=1|1/0=0)&(1=1|1/0=0)", true);
        holds("!(1=1|1/0=0)|1=1", true);
        holds("1=1&1=1|1/0=0", true);
        holds("1=2|1/0=0", false);
        holds("1=1&1/0=0", false);
        holds("1=2&1/0=0", false);
    }

    // ---- the faults of the law ----

    private static void lawFaults() {
        test("FAULTS, the first from the left: 1 what can't stand there (the end, too); 2 a sixth digit",
                BoundaryTextTest::lawFirstFault);
        test("2 a sixth digit, at it; 4 a 17th RULE", () -> each(LAW, "e99999(1=1)", "1", "e999990(1=1)", "-2006",
                "e000001(1=1)", "-2006", "e0000000(1=1)", "-2006", "o(1=99999)", "1", "o(1=999999)", "-2009",
                "e[123456](1=1)", "-2007", "e1+123456(1=1)", "-2008", "o(123456=1)", "-2007"));
        test("4 a 17th RULE, at its letter (if that can stand there)", BoundaryTextTest::lawRule17);
        test("5 a seventh of ( [ ! that are open in one another, at it", () -> each(LAW, "o((((((1=1))))))", "1",
                "o(((((((1=1)))))))", "-5007", "o([[[[[1]]]]]=1)", "1", "o([[[[[[1]]]]]]=1)", "-5007", "o(!!!!!1=1)", "1",
                "o(!!!!!!1=1)", "-5007", "o(!(!([1]=1)))", "1", "o(!(!([[1]]=1)))", "-5007", "o((((((!1=1))))))", "-5007",
                "o((((((1=[1]))))))", "-5009", "o(((((1=[1])))))", "1", "o(((((!1=1)))))", "1",
                "o([[[[[1]]]]]=[[[[[1]]]]]|((((1=1))))&!!!!!1=1)", "1"));
        test("(the ( of the RULE counts; a ! is open till its TEST ends; the E of a RULE stands ahead of it)",
                BoundaryTextTest::lawOpenOnes);
    }

    private static void lawFirstFault() {
        eachBeginning(LAW, "e[1+n]*2(!s=0&(t>3|c=1));y5(w<9);o(m=0)", 24, 1, 32, 2, 39, 3);
        each(LAW, "x123456", "-1000", "e123456x", "-2006", "e1x123456", "-1002", "o(((((((1=1)x", "-5007",
                "o((((((1x((1=1)", "-1008", "o((((((1=(1)", "-1009", "o((((((x", "-1007", "o((((((1=[x", "-5009");
    }

    private static void lawRule17() {
        String sixteen = "o(1=1)" + ";o(1=1)".repeat(15);
        eachByte(LAW, sixteen + ";", "", sign -> isOf(sign, "eyo") ? -4112 : -1112);
        each(LAW, sixteen, "16", sixteen + ";", "-1112", sixteen + ";o(1=1)", "-4112", sixteen + ";e123456", "-4112",
                sixteen + ";e1(1=1);x", "-4112", sixteen + "x", "-1111", sixteen + ")", "-1111");
    }

    private static void lawOpenOnes() {
        each(LAW, "o(((((([1]=1))))))", "-5007", "o((((([1]=1)))))", "1");
        each(LAW, "e[[[[[[1]]]]]](1=1)", "1", "e[[[[[[[1]]]]]]](1=1)", "-5007", "y[[[[[[1]]]]]]((((((1=1))))))", "1",
                "e[[[[[[1]]]]]](((((((1=1)))))))", "-5020");
        each(LAW, "o(!!!!!1=1&!!!!!1=1|!!!!!1=1)", "1", "o(!1=[[[[1]]]])", "1", "o(!1=[[[[[1]]]]])", "-5009",
                "o(![[[[1]]]]=1)", "1", "o(![[[[[1]]]]]=1)", "-5007", "o(!((((1=1)))))", "1", "o(!(((((1=1))))))",
                "-5007", "o(!1=1&(((((1=1))))))", "1", "o(!(1=1)&(((((1=1))))))", "1", "o(!(1=1&((((1=1))))))", "-5011");
        each(LAW, "o((((((1=1))))));o((((((1=1))))))", "2");
        String eight = "1+1*[1+1*[1+1*[1+1*[1+1*[1+1*[1+1*1]]]]]]";
        due("six are reckoned", led("e7(r=0);e" + eight + "(r=1)", "ha5"), 9);
        due("six are reckoned, no more", led("e9(r=0);e" + eight + "(r=1)", "ha5"), 0);
        holds("2=2-1*[1+1*[1+1*[1+1*[1-1*[1+1*1]]]]]+1*1+1", true);
        holds("!!!!!1=2", true);
        holds("(((([1]=1))))", true);
    }
}
