import java.lang.reflect.Constructor;
import java.lang.reflect.Member;
import java.lang.reflect.Method;
import java.lang.reflect.Modifier;
import java.util.Arrays;

/** For each promise of the document: ordinary calls, the edges that it names, and wrong inputs. */
public final class PromiseTest extends Talk {
    private static final int[] FAR_OFF = {Integer.MIN_VALUE, -1000, -2, 1000, Integer.MAX_VALUE};

    public static void main(String[] args) {
        face();
        newObject();
        coat();
        feed();
        lawFaults();
        lawBrackets();
        lawStays();
        lawReckons();
        lawRefused();
        lawChooses();
        listFaults();
        listGuests();
        movesFaults();
        movesMove();
        come();
        comeByCoats();
        comeAsHeLikes();
        tried();
        guestAt();
        coatAt();
        pew();
        torn();
        together();
        seesNothing();
        even();
        order();
        moreFit();
        fathers();
        singers();
        strangers();
        inLine();
        edge();
        ushers();
        leastTime();
        photo();
        hats();
        seed();
        keepAndUndo();
        check();
        count();
        tapeStays();
        longRun();
        end("promises");
    }

    private static void holds(String c, boolean want) {
        due(c, led("e1(" + c + ")", "hc4") >= 0, want);
    }

    // ---- the promises ----

    private static void face() {
        due("NONE", WeddingPews.NONE, -1);
        String[] names = {"coat", "feed", "law", "list", "moves", "come", "tried", "guestAt", "coatAt",
            "pew", "torn", "together", "seesNothing", "even", "order", "moreFit", "fathers", "singers",
            "strangers", "inLine", "edge", "ushers", "leastTime", "photo", "hats", "seed", "keep",
            "undo", "check", "count"};
        int open = 0;
        for (Method method : WeddingPews.class.getDeclaredMethods()) {
            if (!Modifier.isPrivate(method.getModifiers()) && !method.isSynthetic()) {
                open++;
                due("face has " + method.getName(), Arrays.asList(names).contains(method.getName()), true);
            } else {
                due("no private " + method.getName(), Arrays.asList(names).contains(method.getName()), false);
            }
        }
        due("methods", open, names.length);
        due("final", Modifier.isFinal(WeddingPews.class.getModifiers()), true);
        Constructor<?>[] makers = WeddingPews.class.getDeclaredConstructors();
        due("constructors", makers.length, 1);
        due("public constructor", Modifier.isPublic(makers[0].getModifiers()), true);
        for (Member field : WeddingPews.class.getDeclaredFields()) {
            boolean isNone = field.getName().equals("NONE");
            due("field " + field.getName(), Modifier.isPrivate(field.getModifiers()), !isNone);
        }
    }

    private static void newObject() {
        WeddingPews x = new WeddingPews();
        for (int what = 0; what < 9; what++) {
            due("new count " + what, x.count(what), 0);
        }
        due("new X", x.count(9), 1);
        for (int seat = 0; seat < 144; seat++) {
            due("new guestAt " + seat, x.guestAt(seat, 0), -2);
            due("new coatAt " + seat, x.coatAt(seat), -2);
        }
        due("new undo", x.undo(), false);
        due("new torn", x.torn(), 0);
        list(x, "ha5");
        due("no law: he stands", x.tried(1, 2), -2);
        due("no law", x.come(1), 0);
        due("no law: stand", x.count(2), 1);
        due("no law: a draw all the same", x.count(9), 39022);
    }

    private static void coat() {
        WeddingPews x = new WeddingPews();
        due("coat 0 0", x.coat(0, 0), true);
        due("coat 143 15", x.coat(143, 15), true);
        due("coatAt 0", x.coatAt(0), 0);
        due("coatAt 143", x.coatAt(143), 15);
        due("coat anew", x.coat(0, 7), true);
        due("coatAt anew", x.coatAt(0), 7);
        due("coat off", x.coat(0, NONE), true);
        due("coatAt off", x.coatAt(0), -2);
        due("coat off again", x.coat(0, NONE), true);
        due("coat -1", x.coat(-1, 0), false);
        due("coat 144", x.coat(144, 0), false);
        due("coat family 16", x.coat(143, 16), false);
        due("coat family -2", x.coat(143, -2), false);
        for (int far : FAR_OFF) {
            due("coat far", x.coat(far, 0), false);
            due("coat far family", x.coat(143, far), false);
        }
        due("coatAt stays", x.coatAt(143), 15);
    }

    private static void feed() {
        WeddingPews x = new WeddingPews();
        for (int i = 1; i <= 13; i++) {
            due("feed " + i, x.feed(-1, 0, 1, 2, 3), 20 * i);
        }
        due("feed 14", x.feed(0, 0, 0, 0, 0), NONE);
        due("feed full", x.count(8), 260);
        due("list reads the first", x.list(1), -1000);
        due("empty then", x.count(8), 0);
        x.feed(0x01020304, 0x05060708, 0x090a0b0c, 0xfffefdfc, 0x80000000);
        due("highest first", x.hats(12, 0), 12);
        x.feed(0xff7f0000, 0, 0, 0, 0);
        due("bytes are 0 to 255", x.hats(2, 1), 1);
    }

    private static void lawFaults() {
        String[][] faults = {{"z", "-1000"}, {"e", "-1001"}, {"o", "-1001"}, {"y", "-1001"}, {"e5", "-1002"},
            {" e5(1=1)", "-1000"}, {"e 5(1=1)", "-1001"}, {"e5(1=1) ", "-1007"}, {"e5(1=1);", "-1008"},
            {"e5(1=1);;", "-1008"}, {"e5(1=1)e", "-1007"}, {"e5()", "-1003"}, {"e5(1)", "-1004"},
            {"e5(1=)", "-1005"}, {"e5(1==1)", "-1005"}, {"e5(1=1=1)", "-1006"}, {"e5(1=1", "-1006"},
            {"e5(1=1|)", "-1007"}, {"e5(1=1&)", "-1007"}, {"e5(|1=1)", "-1003"}, {"e5(1=1||1=1)", "-1007"},
            {"e5(!)", "-1004"}, {"e5((1=1)", "-1008"}, {"e5((1=1))", "1"}, {"e5((1)=1)", "-1005"},
            {"e5((1=1)=1)", "-1008"}, {"e-5(1=1)", "-1001"}, {"e5+(1=1)", "-1003"}, {"e5-(1=1)", "-1003"},
            {"e5*(1=1)", "-1003"}, {"e5/%5(1=1)", "-1003"}, {"e[5(1=1)", "-1003"}, {"e[5)(1=1)", "-1003"},
            {"e[](1=1)", "-1002"}, {"e5](1=1)", "-1002"}, {"e12345(1=1)", "1"}, {"e123456(1=1)", "-2006"},
            {"e00001(1=1)", "1"}, {"e000001(1=1)", "-2006"}, {"e5(1=123456)", "-2010"},
            {"es5(1=1)", "-1002"}, {"e5s(1=1)", "-1002"}, {"ess(1=1)", "-1002"}, {"e5(s=e)", "-1005"},
            {"ea(1=1)", "-1001"}, {"eb(1=1)", "-1001"}, {"ee(1=1)", "-1001"}, {"ez(1=1)", "-1001"},
            {"es(1=1)", "1"}, {"ef(1=1)", "1"}, {"et(1=1)", "1"}, {"ec(1=1)", "1"}, {"eg(1=1)", "1"},
            {"eq(1=1)", "1"}, {"er(1=1)", "1"}, {"en(1=1)", "1"}, {"em(1=1)", "1"}, {"ek(1=1)", "1"},
            {"ed(1=1)", "1"}, {"ew(1=1)", "1"}, {"E5(1=1)", "-1000"}, {"o5(1=1)", "-1001"},
            {"o(1=1)", "1"}, {"o1=1", "-1001"}, {"y(1=1)", "-1001"}, {"y5(1=1);o(1=1);e5(1=1)", "3"},
            {"e5(1=1&!2=1|(3=1))", "1"}, {"e5(!!1=1)", "1"}, {"e5(1!=1)", "-1004"}, {"e5(1=!1)", "-1005"},
            {"e5(1=(1))", "-1005"}, {"e(1=1)", "-1001"}, {"e5(1<1)", "1"}, {"e5(1>1)", "1"},
            {"e5(1<=1)", "-1005"}, {"e5(1=1),", "-1007"}, {"e5(1=[1)", "-1007"}, {"e5(1=[1])", "1"}};
        for (String[] fault : faults) {
            due(fault[0], law(new WeddingPews(), fault[0]), Integer.parseInt(fault[1]));
        }
        String sixteen = "o(1=1)" + ";o(1=1)".repeat(15);
        due("16 rules", law(new WeddingPews(), sixteen), 16);
        due("17 rules", law(new WeddingPews(), sixteen + ";o(1=1)"), -4000 - 112);
        due("17th letter alone", law(new WeddingPews(), sixteen + ";e"), -4000 - 112);
        due("17th can't stand", law(new WeddingPews(), sixteen + ";x"), -1000 - 112);
        due("17th is the end", law(new WeddingPews(), sixteen + ";"), -1000 - 112);
        String longest = "e1" + "+1".repeat(116) + "(1=1)" + "x";
        due("240 bytes", law(new WeddingPews(), longest), -1239);
        due("240 bytes that stand", law(new WeddingPews(), "e11" + "+1".repeat(116) + "(1=1)"), 1);
    }

    private static void lawBrackets() {
        due("six (", law(new WeddingPews(), "o((((((s=0))))))"), 1);
        due("seven (", law(new WeddingPews(), "o(((((((s=0)))))))"), -5007);
        due("six [ ahead", law(new WeddingPews(), "e[[[[[[1]]]]]](1=1)"), 1);
        due("seven [ ahead", law(new WeddingPews(), "e[[[[[[[1]]]]]]](1=1)"), -5007);
        due("five [ in (", law(new WeddingPews(), "o([[[[[1]]]]]=1)"), 1);
        due("six [ in (", law(new WeddingPews(), "o([[[[[[1]]]]]]=1)"), -5007);
        due("five ! in (", law(new WeddingPews(), "o(!!!!!1=1)"), 1);
        due("six ! in (", law(new WeddingPews(), "o(!!!!!!1=1)"), -5007);
        due("! ends with its test", law(new WeddingPews(), "o(!!!!!1=1&!!!!!1=1|!!!!!1=1)"), 1);
        due("mixed six", law(new WeddingPews(), "o(!(!([1]=1)))"), 1);
        due("mixed seven", law(new WeddingPews(), "o(!(!([[1]]=1)))"), -5007);
        due("! is open in its [", law(new WeddingPews(), "o(!1=[[[[1]]]])"), 1);
        due("! is open in its seventh [", law(new WeddingPews(), "o(!1=[[[[[1]]]]])"), -5009);
        due("closed ones don't count", law(new WeddingPews(), "o([[[[[1]]]]]=[[[[[1]]]]]&((((1=1)))))"), 1);
        due("can't stand is asked first", law(new WeddingPews(), "o(([[[[1]]]]=(1)))"), -1013);
        due("each rule anew", law(new WeddingPews(), "o((((((1=1))))));o((((((1=1))))))"), 2);
    }

    private static void lawStays() {
        WeddingPews x = new WeddingPews();
        law(x, "e1(q=1);o(1=1)");
        due("rules", x.count(7), 2);
        due("a fault", law(x, "e1(q=0);e1(q=1);x"), -1016);
        due("rules stay", x.count(7), 2);
        list(x, "ha5");
        due("the law stays", x.tried(1, 2), 80);
        due("tape is empty", x.count(8), 0);
        text(x, "e1(1=1)");
        for (int n : new int[] {0, -1, 21, 241, Integer.MIN_VALUE, Integer.MAX_VALUE}) {
            due("law n " + n, x.law(n), NONE);
        }
        due("tape stays", x.count(8), 20);
        due("then it stands", x.law(7), 1);
        due("in place of the one before", x.tried(1, 2), 0);
        x.keep();
        law(x, "e1(q=1);e2(q=1);e3(q=1)");
        x.undo();
        due("no law is undone", x.count(7), 3);
    }

    private static void lawReckons() {
        holds("1+2*3=7", true);
        holds("[1+2]*3=9", true);
        holds("9-3-2=4", true);
        holds("100/10/5=2", true);
        holds("17%10%4=3", true);
        holds("7/2*2=6", true);
        holds("0-7/2=0-3", true);
        holds("[0-7]/2=0-3", true);
        holds("[0-7]%3=0-1", true);
        holds("7%[0-3]=1", true);
        holds("99999*99999/10000=14098*10+6", true);
        holds("99999*99999<0", false);
        holds("99999*99999%10000=5409", true);
        holds("65536*32768<0", true);
        holds("65536*32768=0-65536*32768", true);
        holds("65536*32768/[0-1]<0", true);
        holds("65536*32768%[0-1]=0", true);
        holds("s=0&f=2&t=4&c=0&g=0", true);
        holds("d=0&w=0&n=0&m=0&k=0", true);
        holds("1<2&2>1&!1=2", true);
        holds("1=2|1=1", true);
        holds("1=2|1=3", false);
        holds("1=1&1=2|1=1", true);
        holds("1=1|1=1&1=2", true);
        holds("!1=1|1=1", true);
        holds("!(1=1|1=1)", false);
        holds("!!1=1", true);
        holds("(1=2|1=1)&1=2", false);
        due("a child, a singer", led("e1(c=1&g=1&s=2&f=15&t=9)", "bp9cs"), 0);
        due("a singer only", led("e1(c=1)", "ha1s"), -2);
        due("a child only", led("e1(g=1)", "ha1c"), -2);
    }

    private static void lawRefused() {
        holds("1/0=0", false);
        holds("1%0=0", false);
        holds("!1/0=0", false);
        holds("!(1/0=0)", false);
        holds("1/0=0|1=1", false);
        holds("1=1|1/0=0", true);
        holds("1=2&1/0=0|1=1", true);
        holds("1=1&1/0=0|1=1", false);
        holds("!(1=1|1/0=0)", false);
        holds("!(1=2&1/0=0)", true);
        holds("(1=2|1=1|1/0=1)&1=1", true);
        holds("0*[1/0]=0", false);
        holds("1/[s]=1", false);
        due("E is 0: he stands", led("e1/0(1=1);e5(1=1)", "ha5"), -2);
        due("C does not hold: the next", led("e1(1/0=1);e5(q=1)", "ha5"), 72);
        due("E is 0 of the first alone", led("e1/r(1=1)", "ha5"), 9);
        due("y is 0", led("y10/0(1=1);e5(q=1)", "ha5"), 72);
        due("o does not hold", led("e1(1=1);o(1/0=1)", "ha5"), 0);
        due("another o will do", led("e1(1=1);o(1/0=1);o(1=1)", "ha5"), 8);
    }

    private static void lawChooses() {
        due("greatest e", led("er(1=1)", "ha5"), 63);
        due("of like ones the lowest side", led("e5(r=3)", "ha5"), 27);
        due("his side", led("e9-r(q=s)", "ga5"), 72);
        due("e 0 is none", led("e0(1=1)", "ha5"), -2);
        due("e below 0 is 0", led("e0-5(1=1)", "ha5"), -2);
        due("e above 9999 is 9999", led("e9999(r=1);e99999(1=1)", "ha5"), 0);
        due("below the bound", led("e9998(r=0);e99999(1=1)", "ha5"), 9);
        due("first rule whose C holds", led("e1(r=0);e2(r<2);e1(1=1)", "ha5"), 9);
        due("o: inside", led("e1(1=1);o(c=1)", "ha5c"), 8);
        due("o: not", led("e1(1=1);o(c=1)", "ha5"), 0);
        due("o of that pew", led("er(1=1);o(r=0)", "ha5"), 63);
        due("o of that pew holds", led("er(1=1);o(r=7)", "ha5"), 71);
        WeddingPews x = new WeddingPews();
        law(x, "e1+m(1=1)");
        put(x, 20, "hc1");
        put(x, 30, "hd1");
        law(x, "e1+m(1=1)");
        list(x, "gd5");
        due("m", x.tried(1, 2), 27);
        law(x, "e9-n(r<4)");
        due("n", x.tried(1, 2), 0);
        x.coat(99, 3);
        x.coat(100, 3);
        x.coat(45, 4);
        law(x, "e1+k(1=1)");
        due("k", x.tried(1, 2), 99);
        law(x, "e1(d=2&w=2)");
        due("d, w", x.tried(1, 2), 0);
        law(x, "e1(q=1&r=7&d>1)");
        due("q, r", x.tried(1, 2), 135);
    }

    private static void listFaults() {
        String[][] faults = {{"x", "-1000"}, {"h", "-1001"}, {"ha", "-1002"}, {"ha5", "1"}, {"hq5", "-1001"},
            {"ba0cs", "1"}, {"ba0sc", "-1004"}, {"ba0cc", "-1004"}, {"ba0ss", "-1004"}, {"0ha5", "-1000"},
            {"1ha5", "-1000"}, {"9ha5", "9"}, {"2ha5", "2"}, {"22ha5", "-1001"}, {"ha5,", "-1004"},
            {",ha5", "-1000"}, {"ha5,,ha5", "-1004"}, {"ha5;ha5", "-1003"}, {"ha5 ", "-1003"}, {"h a5", "-1001"},
            {"ha5,gb6c,3bp0s", "5"}, {"ha55", "-1003"}, {"Ha5", "-1000"}, {"hA5", "-1001"}, {"2", "-1001"},
            {"ha5,2", "-1005"}, {"a5", "-1000"}};
        for (String[] fault : faults) {
            due(fault[0], list(new WeddingPews(), fault[0]), Integer.parseInt(fault[1]));
        }
        WeddingPews x = new WeddingPews();
        String nine = "9ha5";
        due("198", list(x, nine + (",9ha5").repeat(21)), 198);
        due("a fault leaves the line", list(x, "gb1,gb2,x"), -1008);
        due("198 still", x.count(1), 198);
        due("201", list(x, "3ha5"), -4000);
        due("two parts", list(x, "ha5,2ha5"), -4004);
        due("by the second of three", list(x, "2ha5,ha5,x"), -4005);
        due("asked when it ends", list(x, "2ha5,2ha"), -1008);
        due("asked when it ends, a bad sign behind it", list(x, "2ha5,2ha5cx"), -4005);
        due("198 yet", x.count(1), 198);
        due("200", list(x, "gp1,gp2"), 2);
        due("201 by one", list(x, "ha5"), -4000);
        due("the last", x.count(229), 15);
        text(x, "ha5");
        for (int n : new int[] {0, -1, 21, 121, Integer.MIN_VALUE, Integer.MAX_VALUE}) {
            due("list n " + n, x.list(n), NONE);
        }
        due("tape stays", x.count(8), 20);
    }

    private static void listGuests() {
        WeddingPews x = new WeddingPews();
        law(x, "e1(1=1)");
        list(x, "2gc7,bp0cs,ha9c,hb3s");
        list(x, "gd1");
        x.come(200);
        int[][] guests = {{1, 2, 7, 0, 0, 0}, {1, 2, 7, 0, 0, 1}, {2, 15, 0, 1, 1, 2}, {0, 0, 9, 1, 0, 3},
            {0, 1, 3, 0, 1, 4}, {1, 3, 1, 0, 0, 5}};
        for (int seat = 0; seat < guests.length; seat++) {
            for (int what = 0; what < 6; what++) {
                due("guest " + seat + " " + what, x.guestAt(seat, what), guests[seat][what]);
            }
        }
        WeddingPews y = new WeddingPews();
        String longest = "ha5,".repeat(29) + "2ha5";
        due("120 bytes", list(y, longest), 31);
        due("121 bytes", list(y, longest + "c"), NONE);
    }

    private static void movesFaults() {
        String[][] faults = {{"x", "-1000"}, {"!", "-1000"}, {"0", "-1001"}, {"0x", "-1001"}, {"0>", "-1002"},
            {"0>x", "-1002"}, {"0=", "-1002"}, {"0!!", "-1002"}, {"0!;", "-1003"}, {"0!;;", "-1003"},
            {" 0!", "-1000"}, {"0 !", "-1001"}, {"000!", "1"}, {"0000!", "-2003"}, {"0>0050", "-2005"},
            {"144!", "-3000"}, {"144", "-3000"}, {"144x", "-3000"}, {"9999!", "-2003"}, {"0>144", "-3002"},
            {"0=999", "-3002"}, {"143!", "-7000"}, {"143", "-7000"}, {"143x", "-7000"}, {"0=143", "-7002"},
            {"143=0", "-7000"}, {"143>144", "-7000"}, {"0>143", "1"}, {"0>1", "-8002"}, {"0>0", "-8002"},
            {"0>1x", "-8002"}, {"0=0", "1"}, {"0=1", "1"}, {"0>9;0!", "-7004"}, {"0>9;9!", "2"},
            {"0>9;1>0;9>1", "3"}, {"0!;1>0", "2"}, {"0!;0=1", "-7003"}, {"0!;1=0", "-7005"},
            {"0>9;1>9", "-8006"}, {"0>9x", "-1003"}, {"0>9,", "-1003"}, {"0<9", "-1001"}};
        for (String[] fault : faults) {
            WeddingPews x = twoInFront();
            int want = Integer.parseInt(fault[1]);
            due(fault[0], moves(x, fault[0]), want);
            if (want < 0) {
                due(fault[0] + ": nothing is done", x.guestAt(0, 5) == 0 && x.guestAt(1, 5) == 1, true);
                due(fault[0] + ": sit", x.count(3), 2);
                due(fault[0] + ": stand", x.count(2), 0);
            }
            due("tape is empty", x.count(8), 0);
        }
        WeddingPews x = twoInFront();
        String twenty = "0=1" + ";0=1".repeat(19);
        due("20 lines", moves(x, twenty), 20);
        due("21 lines", moves(x, twenty + ";0=1"), -4080);
        due("a digit alone", moves(x, twenty + ";9"), -4080);
        due("it can't stand there", moves(x, twenty + ";="), -1080);
        due("the end", moves(x, twenty + ";"), -1080);
        text(x, "0!");
        for (int n : new int[] {0, -1, 21, 121, Integer.MIN_VALUE, Integer.MAX_VALUE}) {
            due("moves n " + n, x.moves(n), NONE);
        }
        due("tape stays", x.count(8), 20);
    }

    private static void movesMove() {
        WeddingPews x = twoInFront();
        x.coat(143, 9);
        moves(x, "1>143");
        due("coats no matter", x.guestAt(143, 5), 1);
        for (int what = 0; what < 6; what++) {
            due("all of him goes " + what, x.guestAt(143, what), new int[] {1, 1, 6, 1, 1, 1}[what]);
        }
        due("his seat", x.guestAt(1, 0), -2);
        moves(x, "143=0");
        due("both change", x.guestAt(0, 5), 1);
        due("both change, the other", x.guestAt(143, 5), 0);
        due("climbed stays", x.count(4), 1);
        moves(x, "0!");
        due("stands", x.count(2), 1);
        due("sit", x.count(3), 1);
        due("come stays", x.count(0), 2);
        due("X stays", x.count(9), 61087);
        due("line stays", x.count(1), 0);
    }

    private static void come() {
        WeddingPews x = new WeddingPews();
        law(x, "e9-r(q=0)");
        list(x, "9ha1,9hb2,9hc3,9hd4,9he5,9hf6,9hg7,9hh8,3hi9");
        due("come 5", x.come(5), 10);
        due("come", x.count(0), 5);
        due("in line", x.count(1), 70);
        due("the first in line", x.count(30), 0);
        due("the fifth in line", x.count(34), 1);
        due("come 200", x.come(200), 8 * 36 - 10);
        due("come all", x.count(0), 75);
        due("sit", x.count(3), 72);
        due("stand", x.count(2), 3);
        due("climbed", x.count(4), 8 * 36);
        due("nobody left", x.come(1), 0);
        due("come yet", x.count(0), 75);
        for (int n : new int[] {0, -1, 201, Integer.MIN_VALUE, Integer.MAX_VALUE}) {
            due("come n " + n, x.come(n), NONE);
        }
        due("guests in row", x.guestAt(71, 5), 71);
        int drawn = 1;
        for (int i = 0; i < 75; i++) {
            drawn = (25173 * drawn + 13849) % 65536;
        }
        due("a draw each", x.count(9), drawn);
        WeddingPews y = new WeddingPews();
        law(y, "e1(1=1);o(1=1)");
        list(y, "3ha1");
        due("inside nobody is climbed over", y.come(3), 0);
        due("at the wall", y.guestAt(8, 5), 0);
        due("next to it", y.guestAt(7, 5), 1);
    }

    private static void comeByCoats() {
        WeddingPews x = new WeddingPews();
        law(x, "e8-r(q=0)");
        for (int place = 0; place < 9; place++) {
            x.coat(place, place < 4 ? 1 : 2);
        }
        list(x, "ha5,hb5,hc5,hb5,hb5,hb5,hb5");
        due("a: the next pew", x.tried(1, 2), 9);
        due("b", x.tried(2, 2), 0);
        due("c", x.tried(3, 2), 4);
        due("they climb", x.come(3), 1);
        due("b's fill", x.come(4), 1 + 2 + 3 + 1);
        due("no coat is left for b", x.guestAt(10, 1), 1);
        due("coats stay", x.coatAt(0), 1);
        law(x, "e8-r(q=0);o(1=1)");
        list(x, "hc5");
        due("nearest to the wall", x.come(1), 5);
        due("c sits there", x.guestAt(8, 1), 2);
        WeddingPews y = new WeddingPews();
        law(y, "e1(r=0&q=0)");
        for (int place = 0; place < 9; place++) {
            y.coat(place, 5);
        }
        list(y, "ha5");
        y.come(1);
        due("none is free: he stands", y.count(2), 1);
    }

    private static void comeAsHeLikes() {
        WeddingPews x = new WeddingPews();
        law(x, "y10(1=1);e9(r=7)");
        list(x, "9ha1,8ha1");
        x.come(16);
        for (int pew = 0; pew < 16; pew++) {
            due("one in each pew " + pew, x.guestAt(9 * pew, 5), pew);
        }
        due("then the first again", x.tried(1, 2), 1);
        law(x, "y99999(1=1);o(1=1)");
        due("y is 10 at most, inside", x.tried(1, 2), 8);
        law(x, "y3(1=1);e9(r=7)");
        x.seed(1);
        due("a draw of 2 below 3", x.tried(1, 2), 1);
        law(x, "y2(1=1);e9(r=7)");
        due("a draw of 2 not below 2", x.tried(1, 2), 64);
        law(x, "y0-1(1=1);e9(r=7)");
        due("y below 0", x.tried(1, 2), 64);
        law(x, "y10(q+r+n+m+k=0);e9(r=7)");
        due("the pew's are 0", x.tried(1, 2), 1);
        law(x, "y10(w=16&d=0&s=0&f=0&t=1);e9(r=7)");
        due("the others are not", x.tried(1, 2), 1);
        law(x, "y10(n>0);y10(m>0);y10(k>0);y10(q>0);y10(r>0);e9(r=7)");
        due("none holds", x.tried(1, 2), 64);
        law(x, "y0(1=1);y10(1=1);e9(r=7)");
        due("the first y", x.tried(1, 2), 64);
        WeddingPews y = new WeddingPews();
        law(y, "y10(1=1)");
        for (int seat = 0; seat < 144; seat++) {
            y.coat(seat, 3);
        }
        y.coat(100, NONE);
        list(y, "2ha1");
        due("only there", y.tried(1, 2), 100);
        due("none: he stands", y.tried(2, 2), -2);
        due("stand", y.tried(2, 1), 1);
    }

    private static void tried() {
        WeddingPews x = new WeddingPews();
        law(x, "e9-r(q=0&n<2);e1(q=1)");
        list(x, "3ha1,gb2");
        x.coat(9, 1);
        due("climbs", x.tried(4, 0), 1);
        due("stand", x.tried(4, 1), 0);
        due("the last", x.tried(4, 2), 9);
        due("the third", x.tried(3, 2), 10);
        due("more on side 0", x.tried(4, 3), 4);
        due("torn", x.tried(4, 4), 1);
        due("torn by two", x.tried(2, 4), 0);
        due("more than are in line", x.tried(200, 3), 4);
        for (int what = 0; what < 10; what++) {
            due("nothing is changed " + what, x.count(what), new int[] {0, 4, 0, 0, 0, 0, 0, 2, 0, 1}[what]);
        }
        law(x, "e1(q=1)");
        due("below 0", x.tried(4, 3), -4);
        law(x, "e1(1=2)");
        due("all stand", x.tried(4, 1), 4);
        due("the last stands", x.tried(4, 2), -2);
        x.come(4);
        due("nobody comes", x.tried(1, 2), -2);
        due("nobody climbs", x.tried(1, 0), 0);
        due("nobody stands", x.tried(1, 1), 0);
        for (int n : new int[] {0, -1, 201, Integer.MIN_VALUE, Integer.MAX_VALUE}) {
            due("tried n " + n, x.tried(n, 0), -1000);
        }
        for (int what : new int[] {-1, 5, Integer.MIN_VALUE, Integer.MAX_VALUE}) {
            due("tried what " + what, x.tried(1, what), -1000);
        }
        WeddingPews y = twoInFront();
        moves(y, "1>9");
        put(y, 18, "ha5");
        due("nobody comes: side 0", y.tried(1, 3), 3);
        due("nobody comes: torn", y.tried(1, 4), 1);
    }

    private static void guestAt() {
        WeddingPews x = new WeddingPews();
        put(x, 4, "ha5");
        put(x, 22, "hb3");
        put(x, 31, "hb4");
        put(x, 67, "gc5");
        put(x, 139, "ba1");
        put(x, 76, "ba0");
        due("in front", x.guestAt(4, 6), 0);
        due("two ahead", x.guestAt(22, 6), 2);
        due("over a smaller one", x.guestAt(31, 6), 3);
        due("as tall", x.guestAt(67, 6), 7);
        due("nobody", x.guestAt(139, 6), 0);
        put(x, 130, "ba1");
        due("just ahead", x.guestAt(139, 6), 1);
        due("his side begins anew", x.guestAt(76, 6), 0);
        due("number", x.guestAt(76, 5), 5);
        due("empty", x.guestAt(5, 6), -2);
        due("empty, no such what", x.guestAt(5, 7), NONE);
        for (int what : new int[] {-1, 7, Integer.MIN_VALUE, Integer.MAX_VALUE}) {
            due("guestAt what " + what, x.guestAt(4, what), NONE);
        }
        for (int seat : new int[] {-1, 144, Integer.MIN_VALUE, Integer.MAX_VALUE}) {
            due("guestAt seat " + seat, x.guestAt(seat, 0), NONE);
        }
    }

    private static void coatAt() {
        WeddingPews x = new WeddingPews();
        x.coat(5, 0);
        due("kept", x.coatAt(5), 0);
        due("not kept", x.coatAt(6), -2);
        put(x, 5, "ha1");
        due("kept when taken", x.coatAt(5), 0);
        moves(x, "5!");
        due("kept when left", x.coatAt(5), 0);
        for (int seat : new int[] {-1, 144, Integer.MIN_VALUE, Integer.MAX_VALUE}) {
            due("coatAt " + seat, x.coatAt(seat), NONE);
        }
    }

    private static void pew() {
        WeddingPews x = new WeddingPews();
        String families = "aab.bbbpp";
        for (int place = 0; place < 9; place++) {
            if (families.charAt(place) != '.') {
                put(x, 135 + place, "h" + families.charAt(place) + "5");
            }
        }
        x.coat(135, 3);
        x.coat(138, 3);
        x.coat(126, 3);
        int[] want = {8, 1 | 2 | 1 << 15, 5, 3, 1};
        for (int what = 0; what < 5; what++) {
            due("pew " + what, x.pew(1, 7, what), want[what]);
            due("empty pew " + what, x.pew(0, 7, what), 0);
        }
        due("a coat alone", x.pew(1, 6, 4), 1);
        put(x, 138, "gb5");
        due("full", x.pew(1, 7, 2), 9);
        due("five of b", x.pew(1, 7, 3), 5);
        put(x, 0, "ha5");
        due("one of a", x.pew(0, 0, 3), 1);
        put(x, 8, "hp5");
        put(x, 7, "hp5");
        due("two of p", x.pew(0, 0, 3), 2);
        due("no coat is left", x.pew(1, 7, 4), 0);
        for (int far : new int[] {-1, 8, Integer.MIN_VALUE, Integer.MAX_VALUE}) {
            due("pew side", x.pew(far, 0, 0), NONE);
            due("pew row", x.pew(0, far, 0), NONE);
            due("pew what", x.pew(0, 0, far), NONE);
        }
        due("pew side 2", x.pew(2, 0, 0), NONE);
        due("pew what 5", x.pew(0, 0, 5), NONE);
    }

    private static void torn() {
        WeddingPews x = new WeddingPews();
        put(x, 0, "ha5");
        put(x, 8, "ha5");
        put(x, 1, "hp5");
        due("not torn", x.torn(), 0);
        put(x, 72, "ha5");
        due("by the aisle", x.torn(), 1);
        put(x, 9, "gp5");
        due("by rows", x.torn(), 1 | 1 << 15);
        moves(x, "1!");
        due("one stands", x.torn(), 1);
    }

    private static void together() {
        WeddingPews x = new WeddingPews();
        due("nobody sits", x.together(0, 0), -3);
        due("nobody sits, where", x.together(0, 1), -3);
        put(x, 135, "ha5");
        due("one alone", x.together(0, 0), 0);
        due("one alone, where", x.together(0, 1), 15);
        put(x, 140, "hp5");
        due("of p", x.together(15, 1), 15);
        moves(x, "140!");
        put(x, 20, "ga5");
        due("two", x.together(0, 0), 1);
        due("of like ones the lowest", x.together(0, 1), 2);
        put(x, 130, "ga5");
        put(x, 131, "ga5");
        due("to the two", x.together(0, 0), 2);
        due("to the two, where", x.together(0, 1), 14);
        for (int seat = 126; seat < 135; seat++) {
            if (x.guestAt(seat, 0) == -2) {
                x.coat(seat, 9);
                put(x, seat, seat == 126 ? "ga5" : "hb5");
            }
        }
        due("no room there", x.together(0, 0), 4);
        due("no room there, where", x.together(0, 1), 2);
        WeddingPews y = new WeddingPews();
        law(y, "e9-r(q=0);e1(1=1)");
        list(y, "9ha1,ha1");
        y.come(200);
        due("ten have no pew", y.together(0, 0), -2);
        due("ten have no pew, where", y.together(0, 1), -2);
        moves(y, "0!");
        due("nine", y.together(0, 0), 1);
        due("nine, where", y.together(0, 1), 0);
        moves(y, "1!;2!;3!;4!;5!;6!;7!");
        due("coats no matter", y.together(0, 1), 0);
        WeddingPews z = new WeddingPews();
        law(z, "y10(1=1)");
        list(z, "9ha1" + ",9ha1".repeat(14));
        z.come(200);
        list(z, "9ha1");
        z.come(200);
        due("all full", z.together(0, 0), -2);
        for (int far : new int[] {-1, 16, Integer.MIN_VALUE, Integer.MAX_VALUE}) {
            due("together family", z.together(far, 0), NONE);
            due("together what", z.together(0, far), NONE);
        }
        due("together what 2", z.together(0, 2), NONE);
    }

    private static void seesNothing() {
        WeddingPews x = new WeddingPews();
        due("none", x.seesNothing(0), 0);
        due("none, where", x.seesNothing(1), -2);
        put(x, 68, "ha9");
        put(x, 77, "ha1");
        due("the sides are apart", x.seesNothing(0), 0);
        put(x, 86, "ha1");
        due("as tall", x.seesNothing(0), 0);
        put(x, 95, "ha0");
        due("smaller", x.seesNothing(0), 1);
        due("smaller, where", x.seesNothing(1), 95);
        put(x, 50, "ha9");
        due("not just ahead", x.seesNothing(0), 1);
        put(x, 59, "ha8");
        due("two", x.seesNothing(0), 2);
        due("the first", x.seesNothing(1), 59);
        put(x, 44, "ha9");
        put(x, 45, "ha1");
        due("another place", x.seesNothing(0), 2);
        for (int far : new int[] {-1, 2, Integer.MIN_VALUE, Integer.MAX_VALUE}) {
            due("seesNothing what", x.seesNothing(far), NONE);
        }
    }

    private static int even(int hers, int his, int what, int... families) {
        WeddingPews x = new WeddingPews();
        tape(x, families);
        int answer = x.even(families.length, hers, his, what);
        due("even empties the tape", x.count(8), answer == NONE ? 20 : 0);
        return answer;
    }

    private static void even() {
        due("even", even(10, 12, 0, 3, 4, 5), 0);
        due("even, which", even(10, 12, 1, 3, 4, 5), 3);
        due("all to hers", even(0, 200, 1, 3, 4, 5), 7);
        due("none to hers", even(200, 0, 1, 3, 4, 5), 0);
        due("none to hers, how uneven", even(200, 0, 0, 3, 4, 5), 188);
        due("of like ones the least", even(0, 0, 1, 5, 5), 1);
        due("nobody of a family", even(0, 0, 1, 0, 0), 0);
        due("odd", even(0, 0, 0, 5), 5);
        due("odd, which", even(0, 0, 1, 5), 0);
        due("bytes to 255", even(0, 0, 0, 255, 200, 55), 0);
        due("bytes to 255, which", even(0, 0, 1, 255, 200, 55), 1);
        due("twelve", even(0, 0, 0, 1, 2, 4, 8, 16, 32, 64, 128, 255, 255, 255, 255), 1);
        due("twelve, which", even(0, 0, 1, 1, 2, 4, 8, 16, 32, 64, 128, 255, 255, 255, 255), 895);
        due("hers 201", even(201, 0, 0, 1), NONE);
        due("hers -1", even(-1, 0, 0, 1), NONE);
        due("his 201", even(0, 201, 0, 1), NONE);
        due("his -1", even(0, -1, 0, 1), NONE);
        due("200 each", even(200, 200, 0, 1), 1);
        due("what 2", even(0, 0, 2, 1), NONE);
        due("what -1", even(0, 0, -1, 1), NONE);
        due("thirteen", even(0, 0, 0, new int[13]), NONE);
    }

    private static void order() {
        WeddingPews x = new WeddingPews();
        due("nobody", x.order(0, 0, 1), 0);
        int[] places = {4, 0, 8, 2};
        for (int place : places) {
            put(x, 81 + place, "ha5");
        }
        due("from the wall on", x.order(1, 1, 0), 0);
        due("from the aisle on", x.order(1, 1, 1), 6);
        due("as they came", x.order(1, 1, 2), 3);
        due("another pew", x.order(1, 2, 2), 0);
        for (int far : new int[] {-1, 8, Integer.MIN_VALUE, Integer.MAX_VALUE}) {
            due("order side", x.order(far, 0, 0), NONE);
            due("order row", x.order(0, far, 0), NONE);
            due("order what", x.order(0, 0, far), NONE);
        }
        due("order side 2", x.order(2, 0, 0), NONE);
        due("order what 3", x.order(0, 0, 3), NONE);
    }

    private static int moreFit(WeddingPews x, int what, int... families) {
        tape(x, families);
        int answer = x.moreFit(families.length, what);
        due("moreFit empties the tape", x.count(8), 0);
        return answer;
    }

    private static void moreFit() {
        WeddingPews x = churchWithLeft(5, 0, 4, 3);
        due("all share", moreFit(x, 0, 2, 2, 3, 3, 1, 1), 6);
        due("all share, which", moreFit(x, 1, 2, 2, 3, 3, 1, 1), 63);
        due("one is too many", moreFit(x, 0, 6), 0);
        due("one is too many, which", moreFit(x, 1, 6), 0);
        due("three of 4", moreFit(x, 0, 4, 4, 4), 2);
        due("three of 4, the least bits", moreFit(x, 1, 4, 4, 4), 3);
        due("the least bits", moreFit(x, 1, 9, 5, 4, 4, 3), 2 | 4 | 16);
        due("more small ones", moreFit(x, 1, 5, 4, 3, 2, 2, 1), 62);
        WeddingPews empty = new WeddingPews();
        for (int seat = 0; seat < 144; seat++) {
            empty.coat(seat, 1);
        }
        due("coats no matter", moreFit(empty, 0, 9, 9, 9, 9, 9, 9), 6);
        due("full", moreFit(churchWithLeft(), 0, 1, 1), 0);
        due("a family of 0", moreFit(x, 0, 1, 0), -2);
        due("a family of 10", moreFit(x, 1, 1, 10, 1), -2);
        due("a family of 255", moreFit(x, 0, 255), -2);
        tape(x, 1, 1, 1, 1, 1, 1, 1);
        for (int n : new int[] {0, -1, 7, Integer.MIN_VALUE, Integer.MAX_VALUE}) {
            due("moreFit n " + n, x.moreFit(n, 0), NONE);
        }
        due("moreFit what 2", x.moreFit(1, 2), NONE);
        due("moreFit what -1", x.moreFit(1, -1), NONE);
        due("tape stays", x.count(8), 20);
        due("a zero behind n", x.moreFit(6, 0), 6);
        due("none on the tape", x.moreFit(1, 0), NONE);
    }

    private static void fathers() {
        WeddingPews x = new WeddingPews();
        due("any two", x.fathers(0, 0, 0), 72 * 71 / 2);
        due("another row", x.fathers(0, 1, 0), 72 * 63 / 2);
        due("first and last", x.fathers(1, 7, 0), 81);
        due("first and last, lower", x.fathers(1, 7, 1), 72);
        due("first and last, other", x.fathers(1, 7, 2), 135);
        due("beside", x.fathers(1, 0, 2), 73);
        WeddingPews y = churchWithLeft(1, 0, 2);
        y.coat(0, 3);
        due("three seats", y.fathers(0, 0, 0), 3);
        due("a row apart", y.fathers(0, 1, 0), 2);
        due("two apart", y.fathers(0, 2, 0), 2);
        due("two apart, lower", y.fathers(0, 2, 1), 0);
        due("two apart, other", y.fathers(0, 2, 2), 18);
        due("three apart", y.fathers(0, 3, 0), 0);
        due("three apart, lower", y.fathers(0, 3, 1), -2);
        due("three apart, other", y.fathers(0, 3, 2), -2);
        due("none there", y.fathers(1, 0, 0), 0);
        for (int far : new int[] {-1, 8, Integer.MIN_VALUE, Integer.MAX_VALUE}) {
            due("fathers side", x.fathers(far, 0, 0), NONE);
            due("fathers apart", x.fathers(0, far, 0), NONE);
            due("fathers what", x.fathers(0, 0, far), NONE);
        }
        due("fathers side 2", x.fathers(2, 0, 0), NONE);
        due("fathers what 3", x.fathers(0, 0, 3), NONE);
    }

    private static void singers() {
        WeddingPews x = new WeddingPews();
        put(x, 0, "ha5");
        due("none", x.singers(0), 0);
        due("none, row", x.singers(1), -2);
        due("none, far", x.singers(2), -2);
        put(x, 63, "ha5s");
        due("one", x.singers(1), 7);
        due("one, far", x.singers(2), 0);
        put(x, 81, "ga5cs");
        due("of two the lower", x.singers(1), 1);
        due("of two, far", x.singers(2), 6);
        put(x, 27, "ga5s");
        due("of three", x.singers(1), 3);
        due("of three, far", x.singers(2), 6);
        put(x, 135, "ga5s");
        due("of four the lower", x.singers(1), 3);
        due("of four, far", x.singers(2), 10);
        due("four", x.singers(0), 4);
        put(x, 8, "ha1s");
        put(x, 1, "ha1s");
        put(x, 72, "ha1s");
        due("in front", x.singers(1), 1);
        due("in front, far", x.singers(2), 3 + 0 + 2 + 6 + 6);
        put(x, 73, "ha1s");
        due("of eight the lower", x.singers(1), 0);
        due("of eight, far", x.singers(2), 1 + 3 + 7 + 7);
        moves(x, "0!");
        put(x, 0, "ha1s");
        due("nine", x.singers(0), 9);
        for (int far : new int[] {-1, 3, Integer.MIN_VALUE, Integer.MAX_VALUE}) {
            due("singers what", x.singers(far), NONE);
        }
    }

    private static void strangers() {
        WeddingPews x = new WeddingPews();
        due("none", x.strangers(0), 0);
        due("none, where", x.strangers(1), -2);
        put(x, 8, "ha5");
        put(x, 9, "hb5");
        due("other pews", x.strangers(0), 0);
        put(x, 6, "hb5");
        due("a seat between", x.strangers(0), 0);
        put(x, 7, "hb5");
        due("at the wall", x.strangers(0), 1);
        due("at the wall, where", x.strangers(1), 8);
        put(x, 5, "hc5");
        due("two", x.strangers(0), 2);
        due("two, where", x.strangers(1), 5);
        put(x, 4, "hc5");
        due("one has come", x.strangers(1), 8);
        put(x, 72, "ha5");
        put(x, 73, "hb5");
        due("at the aisle", x.strangers(0), 3);
        put(x, 0, "ha5");
        put(x, 1, "hb5");
        due("the first of all", x.strangers(1), 0);
        put(x, 106, "hd5");
        put(x, 107, "hd5");
        put(x, 105, "he5");
        due("the last two are of one", x.strangers(0), 6);
        for (int far : new int[] {-1, 2, Integer.MIN_VALUE, Integer.MAX_VALUE}) {
            due("strangers what", x.strangers(far), NONE);
        }
    }

    private static void inLine() {
        WeddingPews x = new WeddingPews();
        list(x, "2ha5,3gb5c,4bp5s,gb5cs");
        int[] want = {2, 4, 4, 4, 5, 1 | 2 | 1 << 15};
        for (int what = 0; what < 6; what++) {
            due("inLine " + what, x.inLine(what), want[what]);
        }
        x.come(2);
        due("two are gone", x.inLine(0), 0);
        due("children stay", x.inLine(3), 4);
        due("singers stay", x.inLine(4), 5);
        due("a is gone", x.inLine(5), 2 | 1 << 15);
        for (int far : new int[] {-1, 6, Integer.MIN_VALUE, Integer.MAX_VALUE}) {
            due("inLine what", x.inLine(far), NONE);
        }
    }

    private static void edge() {
        WeddingPews x = new WeddingPews();
        due("none", x.edge(0), 0);
        put(x, 3, "ha5c");
        due("nobody between", x.edge(0), 1);
        put(x, 72, "ha5c");
        put(x, 9, "ha5c");
        put(x, 143, "ha5c");
        due("at the aisle and alone at the wall", x.edge(0), 4);
        moves(x, "72!;9!;143!");
        put(x, 5, "ha5c");
        put(x, 6, "ha5");
        put(x, 140, "ha5c");
        due("two at the edge", x.edge(0), 2);
        due("one not", x.edge(1), 1);
        put(x, 0, "ha5");
        due("one at the edge", x.edge(0), 1);
        due("two not", x.edge(1), 2);
        for (int far : new int[] {-1, 2, Integer.MIN_VALUE, Integer.MAX_VALUE}) {
            due("edge what", x.edge(far), NONE);
        }
    }

    private static int ushers(int many, int what, int... minutes) {
        WeddingPews x = new WeddingPews();
        tape(x, minutes);
        int answer = x.ushers(minutes.length, many, what);
        due("ushers empties the tape", x.count(8), answer == NONE ? (minutes.length + 19) / 20 * 20 : 0);
        return answer;
    }

    private static void ushers() {
        due("one usher", ushers(1, 100, 5, 3, 4), 12);
        due("one usher, the last", ushers(1, 2, 5, 3, 4), 8);
        due("one usher, the first", ushers(1, 0, 5, 3, 4), 0);
        due("one guest", ushers(1, 100, 7), 7);
        due("one guest begins", ushers(8, 0, 7), 0);
        due("the longest ends last", ushers(8, 100, 50, 3, 4), 50);
        due("two ushers", ushers(2, 100, 5, 3, 4), 7);
        due("two ushers, the last", ushers(2, 2, 5, 3, 4), 3);
        due("of like ones", ushers(2, 3, 5, 5, 1, 1), 5);
        due("of like ones, behind", ushers(2, 4, 5, 5, 1, 1, 1), 6);
        due("no minutes", ushers(3, 2, 0, 0, 0), 0);
        due("no minutes in all", ushers(3, 100, 0, 0, 0), 0);
        int[] twenty = new int[20];
        Arrays.fill(twenty, 255);
        due("twenty", ushers(8, 100, twenty), 765);
        due("twenty, the last", ushers(8, 19, twenty), 510);
        due("what n", ushers(2, 3, 5, 3, 4), NONE);
        due("what -1", ushers(2, -1, 5, 3, 4), NONE);
        due("what 99", ushers(2, 99, 5, 3, 4), NONE);
        due("what 101", ushers(2, 101, 5, 3, 4), NONE);
        due("none leads", ushers(0, 100, 5), NONE);
        due("nine lead", ushers(9, 100, 5), NONE);
        due("21", ushers(8, 100, new int[21]), NONE);
        WeddingPews x = new WeddingPews();
        due("no tape", x.ushers(1, 1, 100), NONE);
        tape(x, 1);
        due("n 0", x.ushers(0, 1, 100), NONE);
        due("n -1", x.ushers(-1, 1, 100), NONE);
    }

    private static int leastTime(int many, int... minutes) {
        WeddingPews x = new WeddingPews();
        tape(x, minutes);
        int answer = x.leastTime(minutes.length, many);
        due("leastTime empties the tape", x.count(8), answer == NONE ? 20 : 0);
        return answer;
    }

    private static void leastTime() {
        due("two", leastTime(2, 3, 3, 2, 2, 2), 6);
        due("one", leastTime(1, 255, 255), 510);
        due("as many as guests", leastTime(8, 1, 2, 3, 4, 5, 6, 7, 200), 200);
        due("ten alike", leastTime(3, 255, 255, 255, 255, 255, 255, 255, 255, 255, 255), 1020);
        due("ten", leastTime(3, 9, 8, 7, 6, 5, 4, 3, 2, 1, 0), 15);
        due("no minutes", leastTime(4, 0, 0, 0), 0);
        due("one alone", leastTime(4, 7), 7);
        due("not the greedy way", leastTime(3, 5, 5, 4, 4, 3, 3, 3), 9);
        due("eleven", leastTime(3, new int[11]), NONE);
        due("none leads", leastTime(0, 5), NONE);
        due("nine lead", leastTime(9, 5), NONE);
        WeddingPews x = new WeddingPews();
        due("no tape", x.leastTime(1, 1), NONE);
        tape(x, 1);
        due("n 0", x.leastTime(0, 1), NONE);
    }

    private static void photo() {
        WeddingPews x = new WeddingPews();
        due("nobody", x.photo(0), 0);
        put(x, 8, "ha5");
        put(x, 9, "gb5");
        due("the wall and the next aisle", x.photo(0), 2);
        put(x, 17, "gb5");
        due("one behind the other", x.photo(0), 2);
        put(x, 7, "gb5");
        due("side by side", x.photo(0), 3);
        put(x, 80, "gb5");
        due("his side", x.photo(1), 1);
        WeddingPews full = churchWithLeft();
        due("full", full.photo(0), 36);
        due("full, his", full.photo(1), 36);
        moves(full, "1!;9!");
        due("not two-coloured alike", full.photo(0), 36);
        moves(full, "0!;10!");
        due("a hole", full.photo(0), 34);
        for (int far : new int[] {-1, 2, Integer.MIN_VALUE, Integer.MAX_VALUE}) {
            due("photo side", x.photo(far), NONE);
        }
    }

    private static int hats(int what, int... heights) {
        WeddingPews x = new WeddingPews();
        tape(x, heights);
        int answer = x.hats(heights.length, what);
        due("hats empties the tape", x.count(8), answer == NONE ? 20 : 0);
        return answer;
    }

    private static void hats() {
        due("seen", hats(0, 2, 5, 3, 6), 3);
        due("as high is not seen", hats(0, 4, 4, 4), 1);
        due("a height of 0 is seen", hats(0, 0), 1);
        due("the first alone", hats(0, 255, 254, 3), 1);
        due("changes", hats(1, 2, 5, 3, 6), 1);
        due("changes of like ones", hats(1, 4, 4, 4), 0);
        due("all turned", hats(1, 12, 11, 10, 9, 8, 7, 6, 5, 4, 3, 2, 1), 66);
        due("changes in many places", hats(1, 3, 1, 2), 2);
        due("go", hats(2, 2, 5, 3, 6), 1);
        due("like ones don't rise", hats(2, 4, 4, 4), 2);
        due("none goes", hats(2, 0, 1, 255), 0);
        due("all but one", hats(2, 12, 11, 10, 9, 8, 7, 6, 5, 4, 3, 2, 1), 11);
        due("not the greedy way", hats(2, 9, 1, 2, 8, 3, 4), 2);
        due("what 3", hats(3, 1), NONE);
        due("what -1", hats(-1, 1), NONE);
        due("13", hats(0, new int[13]), NONE);
        WeddingPews x = new WeddingPews();
        due("no tape", x.hats(1, 0), NONE);
        tape(x, 1);
        due("n 0", x.hats(0, 0), NONE);
    }

    private static void seed() {
        WeddingPews x = new WeddingPews();
        due("seed 0", x.seed(0), true);
        due("X 0", x.count(9), 0);
        list(x, "ha5");
        x.come(1);
        due("the next of 0", x.count(9), 13849);
        due("seed 65535", x.seed(65535), true);
        due("X 65535", x.count(9), 65535);
        list(x, "ha5");
        x.come(1);
        due("the next of 65535", x.count(9), 54212);
        due("seed -1", x.seed(-1), false);
        due("seed 65536", x.seed(65536), false);
        due("X stays", x.count(9), 54212);
    }

    private static void keepAndUndo() {
        WeddingPews x = twoInFront();
        list(x, "3gc5");
        x.coat(50, 5);
        moves(x, "1!");
        due("keep", x.keep(), 2);
        x.coat(50, 6);
        x.coat(51, 6);
        x.come(2);
        list(x, "hd1");
        x.seed(7);
        moves(x, "0!");
        tape(x, 1, 2, 3);
        law(x, "o(1=1)");
        tape(x, 1, 2, 3);
        due("undo", x.undo(), true);
        int[] want = {2, 3, 1, 1, 1, 1, 0, 1, 20, 61087};
        for (int what = 0; what < 10; what++) {
            due("undone " + what, x.count(what), want[what]);
        }
        due("coat 50", x.coatAt(50), 5);
        due("coat 51", x.coatAt(51), -2);
        due("guest", x.guestAt(0, 5), 0);
        due("the line", x.count(32), 2);
        due("the line's end", x.count(33), NONE);
        x.check(0, 0);
        moves(x, "0>9");
        due("again", x.undo(), true);
        due("as kept", x.guestAt(0, 5), 0);
        x.coat(51, 8);
        x.keep();
        x.coat(51, 9);
        x.undo();
        due("kept last", x.coatAt(51), 8);
    }

    private static void check() {
        WeddingPews x = new WeddingPews();
        put(x, 72, "ha5");
        put(x, 73, "ha5");
        put(x, 140, "ha5");
        tape(x, 2, 0, 0, 0, 0, 0, 0, 1);
        due("right", x.check(1, 8), NONE);
        due("empty then", x.count(8), 0);
        tape(x, 2, 0, 0, 0, 0, 0, 0, 1);
        due("the other side", x.check(0, 8), 0);
        tape(x, 2, 0, 0, 0, 0, 0, 0, 2);
        due("the last is not", x.check(1, 8), 7);
        tape(x, 2, 0, 0, 0, 0, 0, 0, 2);
        due("not asked so far", x.check(1, 7), NONE);
        tape(x, 2, 1, 1);
        due("the first that is not", x.check(1, 3), 1);
        tape(x, 3);
        due("none asked", x.check(1, 0), NONE);
        due("none asked: empty then", x.count(8), 0);
        due("none on the tape", x.check(1, 0), NONE);
        due("it has not so many", x.check(1, 1), -2);
        tape(x, 2, 0, 0, 0, 0, 0, 0, 1, 0);
        due("n 9", x.check(1, 9), -2);
        due("n -1", x.check(1, -1), -2);
        due("side 2", x.check(2, 1), -2);
        due("side -1", x.check(-1, 1), -2);
        due("tape stays", x.count(8), 20);
        tape(x, 1);
        due("258 is not 2", x.check(1, 8), NONE);
    }

    private static void count() {
        WeddingPews x = new WeddingPews();
        law(x, "e1(q=0)");
        list(x, "3ha5,2hp5,gb5,gc5");
        x.come(5);
        due("of a", x.count(10), 3);
        due("of p", x.count(25), 2);
        due("of b", x.count(11), 0);
        due("on side 0", x.count(5), 5);
        due("on side 1", x.count(6), 0);
        due("the line's first", x.count(30), 1);
        due("the line's second", x.count(31), 2);
        due("the line's third", x.count(32), NONE);
        due("the line's last", x.count(229), NONE);
        tape(x, 1);
        due("tape", x.count(8), 20);
        for (int what : new int[] {-1, 26, 27, 28, 29, 230, 231, Integer.MIN_VALUE, Integer.MAX_VALUE}) {
            due("count " + what, x.count(what), NONE);
        }
        x.check(0, 0);
        moves(x, "0>72");
        due("moved to side 1", x.count(6), 1);
        due("moved from side 0", x.count(5), 4);
        due("sit", x.count(3), 5);
    }

    private static void tapeStays() {
        WeddingPews x = new WeddingPews();
        tape(x, 1, 1, 1);
        due("even n 13", x.even(13, 0, 0, 0), NONE);
        due("even n 0", x.even(0, 0, 0, 0), NONE);
        due("hats n 13", x.hats(13, 0), NONE);
        due("leastTime n 11", x.leastTime(11, 1), NONE);
        due("ushers n 21", x.ushers(21, 1, 100), NONE);
        due("moreFit n 7", x.moreFit(7, 0), NONE);
        due("law n 21", x.law(21), NONE);
        due("the tape stays", x.count(8), 20);
        due("even", x.even(3, 0, 0, 0), 1);
        due("even: it has not so many", x.even(1, 0, 0, 0), NONE);
        due("law: it has not so many", x.law(1), NONE);
        due("list: it has not so many", x.list(1), NONE);
        due("moves: it has not so many", x.moves(1), NONE);
    }

    /** The dearest calls, 512 of them, on one object. */
    private static void longRun() {
        WeddingPews x = new WeddingPews();
        law(x, "e1" + "+n-n".repeat(57) + "(1=1)");
        due("law", x.count(7), 1);
        for (int i = 0; i < 25; i++) {
            list(x, "9ha5" + ",9gb4cs".repeat(14));
            x.come(200);
            x.tried(200, 4);
            x.photo(i % 2);
        }
        due("come", x.count(0), 25 * 135);
        due("w is modulo 1000", x.count(0) % 1000, 375);
        law(x, "e1(w=375)");
        due("w", x.count(3), 144);
        moves(x, "100!");
        list(x, "ha1");
        due("w holds", x.tried(1, 2), 100);
    }
}
