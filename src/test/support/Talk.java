import java.io.IOException;
import java.nio.charset.StandardCharsets;
import java.nio.file.Files;
import java.nio.file.Path;
import java.util.function.Supplier;

/** What the project's tests have in common: how an answer is asked, and how a church is told by texts. */
abstract class Talk {
    static final int NONE = WeddingPews.NONE;

    private static int asked = 0;
    private static int wrong = 0;
    private static int sentences = 0;
    private static String sentence = "";
    private static String document = null;

    Talk() {
    }

    // ---- answers ----

    static void due(String what, long got, long want) {
        asked++;
        if (got != want) {
            wrong++;
            System.out.println(sentence + what + " answered " + got + ", due is " + want);
        }
    }

    static void due(String what, boolean got, boolean want) {
        due(what, got ? 1 : 0, want ? 1 : 0);
    }

    static void due(String what, String got, String want) {
        due(what + ": " + got + " for " + want, got.equals(want), true);
    }

    /** The test of one sentence, which must stand in the document word by word. */
    static void test(String quote, Runnable body) {
        sentence = "\"" + quote + "\": ";
        sentences++;
        due("it stands in the document", document().contains(quote), true);
        int before = asked;
        body.run();
        due("it asks for something", asked > before, true);
        sentence = "";
    }

    private static String document() {
        if (document == null) {
            try {
                document = Files.readString(Path.of("../shared/DOC.md"), StandardCharsets.UTF_8)
                        .replaceAll("\\s+", " ");
            } catch (IOException e) {
                throw new IllegalStateException("no document", e);
            }
        }
        return document;
    }

    static void end(String name) {
        System.out.println(name + ": " + asked + " asked"
                + (sentences > 0 ? " of " + sentences + " sentences" : "") + ", " + wrong + " wrong");
        if (wrong != 0) {
            System.exit(1);
        }
    }

    // ---- the tape ----

    static void tape(WeddingPews x, int... bytes) {
        for (int from = 0; from < bytes.length; from += 20) {
            int[] five = new int[5];
            for (int i = 0; i < 20; i++) {
                five[i / 4] = five[i / 4] << 8 | (from + i < bytes.length ? bytes[from + i] & 255 : 0);
            }
            x.feed(five[0], five[1], five[2], five[3], five[4]);
        }
    }

    static void text(WeddingPews x, String text) {
        tape(x, text.chars().toArray());
    }

    static int law(WeddingPews x, String text) {
        text(x, text);
        return x.law(text.length());
    }

    static int list(WeddingPews x, String text) {
        text(x, text);
        return x.list(text.length());
    }

    static int moves(WeddingPews x, String text) {
        text(x, text);
        return x.moves(text.length());
    }

    // ---- churches ----

    /** One guest is put on one seat: coats of nobody else's family keep all others. */
    static void put(WeddingPews x, int seat, String guest) {
        list(x, guest);
        law(x, "e1(q=" + seat / 72 + "&r=" + seat / 9 % 8 + ")");
        int family = guest.charAt(1) - 'a';
        int[] before = new int[9];
        for (int place = 0; place < 9; place++) {
            int other = seat / 9 * 9 + place;
            before[place] = x.coatAt(other);
            x.coat(other, other == seat ? NONE : (family + 1) % 16);
        }
        x.come(1);
        for (int place = 0; place < 9; place++) {
            x.coat(seat / 9 * 9 + place, before[place] == -2 ? NONE : before[place]);
        }
        due("put at " + seat, x.guestAt(seat, 1), family);
    }

    /** Where a guest is led by a law in an empty church, or -2. */
    static int led(String law, String guest) {
        WeddingPews x = new WeddingPews();
        due(law, law(x, law) > 0, true);
        list(x, guest);
        return x.tried(1, 2);
    }

    /** Two sit on the seats 0 and 1. */
    static WeddingPews twoInFront() {
        WeddingPews x = new WeddingPews();
        law(x, "e1(1=1)");
        list(x, "ha5,gb6cs");
        x.come(2);
        return x;
    }

    /** So many in the line, 200 at most, all alike. */
    static WeddingPews churchWithLine(int many) {
        WeddingPews x = new WeddingPews();
        waitBehind(x, many);
        return x;
    }

    static void waitBehind(WeddingPews x, int many) {
        StringBuilder builder = new StringBuilder("9ha5,".repeat(many / 9));
        int rest = many % 9;
        if (rest > 0) {
            builder.append(rest == 1 ? "" : Integer.toString(rest)).append("ha5,");
        }
        if (builder.length() > 0) {
            due("so many wait", list(x, builder.substring(0, builder.length() - 1)), many);
        }
    }

    /** A church in which so many seats of each pew, from the first on, are not taken; else none. */
    static WeddingPews churchWithLeft(int... left) {
        WeddingPews x = new WeddingPews();
        law(x, "y10(1=1)");
        list(x, "9ha1" + ",9ha1".repeat(15));
        x.come(200);
        due("full", x.count(3), 144);
        for (int pew = 0; pew < left.length; pew++) {
            for (int i = 0; i < left[pew]; i++) {
                moves(x, 9 * pew + 2 * i % 9 + "!");
            }
        }
        return x;
    }

    /** These sit down one behind the other, told as "seat:guest" with blanks between; the law is then e1(1=1). */
    static void seat(WeddingPews x, String told) {
        law(x, "e1(1=1)");
        for (String one : told.split(" ")) {
            String[] seatAndGuest = one.split(":");
            list(x, seatAndGuest[1]);
            int first = x.tried(1, 2);
            x.come(1);
            if (first != Integer.parseInt(seatAndGuest[0])) {
                due("seated " + one, moves(x, first + ">" + seatAndGuest[0]), 1);
            }
        }
    }

    static WeddingPews seated(String told) {
        WeddingPews x = new WeddingPews();
        seat(x, told);
        return x;
    }

    /**
     * All that can be asked of who sits, waits and stands, of coats, of X and of the tape's length. It is
     * asked of several churches that are made by the same calls: none is used for more than 512.
     */
    static String state(Supplier<WeddingPews> maker) {
        StringBuilder builder = new StringBuilder();
        int questions = 230 + 7 * 144 + 6;
        WeddingPews x = null;
        for (int question = 0; question < questions; question++) {
            if (question % 150 == 0) {
                x = maker.get();
            }
            builder.append(answer(x, question)).append(' ');
        }
        return builder.toString();
    }

    private static int answer(WeddingPews x, int question) {
        if (question < 230) {
            return x.count(question);
        }
        int seat = (question - 230) / 7;
        int what = (question - 230) % 7;
        if (seat < 144) {
            return what == 6 ? x.coatAt(seat) : x.guestAt(seat, what);
        }
        return x.inLine(what);
    }
}
