import java.lang.reflect.Method;
import java.nio.charset.StandardCharsets;
import java.util.ArrayList;
import java.util.Arrays;
import java.util.Comparator;
import java.util.HashMap;
import java.util.List;
import java.util.Map;
import java.util.Random;

/**
 * Random runs of calls on WeddingPews and on a slow model that was written from the document on its
 * own, with the Java library and by trying all ways. Every answer must be the same on both.
 */
public final class ModelTest {
    private static final int RUNS = 1500;
    private static final int CALLS = 500;

    private static int wrong = 0;
    private static final Map<String, Method> REAL = new HashMap<>();
    private static final Map<String, Method> MODEL = new HashMap<>();

    private final Random random;
    private final WeddingPews real = new WeddingPews();
    private final Model model = new Model();
    private final StringBuilder told = new StringBuilder();
    private int calls = 0;
    private boolean stopped = false;
    /** One in so many tests and factors of a random law opens a bracket. */
    private int nesting = 12;

    private ModelTest(long seed) {
        // Seeds that lie side by side would begin with like numbers.
        random = new Random(seed * 0x9E3779B97F4A7C15L);
    }

    public static void main(String[] args) {
        for (Method method : WeddingPews.class.getDeclaredMethods()) {
            if (java.lang.reflect.Modifier.isPublic(method.getModifiers())) {
                REAL.put(method.getName(), method);
            }
        }
        for (Method method : Model.class.getDeclaredMethods()) {
            MODEL.put(method.getName(), method);
        }
        int calls = 0;
        for (int run = 0; run < RUNS && wrong < 5; run++) {
            ModelTest test = new ModelTest(run);
            test.run();
            calls += test.calls;
        }
        System.out.println(wrong == 0 ? "model: " + calls + " answers are alike"
                : "model: " + wrong + " runs are not alike");
        if (wrong != 0) {
            System.exit(1);
        }
    }

    private long call(String name, Object... args) {
        if (stopped || calls >= CALLS) {
            return 0;
        }
        calls++;
        try {
            Object got = REAL.get(name).invoke(real, args);
            Object due = MODEL.get(name).invoke(model, args);
            told.append(name).append(Arrays.toString(args)).append(" -> ").append(got).append('\n');
            if (!got.equals(due)) {
                stopped = true;
                wrong++;
                int from = Math.max(0, told.length() - 3000);
                System.out.println("..\n" + told.substring(from) + "due is " + due);
            }
            return got instanceof Boolean ? ((Boolean) got ? 1 : 0) : (Integer) got;
        } catch (ReflectiveOperationException e) {
            throw new IllegalStateException(told.toString(), e);
        }
    }

    private void run() {
        int kind = random.nextInt(4);
        layLaw();
        while (!stopped && calls < CALLS) {
            int which = random.nextInt(100);
            if (which < 12) {
                tell("list", randomList(), 120);
                if (kind != 1 || random.nextInt(12) == 0) {
                    call("come", kind == 0 ? 200 : 1 + random.nextInt(40));
                }
            } else if (which < 20) {
                tell("moves", randomMoves(), 120);
            } else if (which < 26) {
                layLaw();
            } else if (which < 30) {
                call("coat", number(-1, 143), number(-1, 15));
            } else if (which < 32) {
                call("seed", number(0, 65535));
            } else if (which < 34) {
                call("keep");
            } else if (which < 36) {
                call("undo");
            } else if (which < 40) {
                call("come", number(1, kind == 1 ? 3 : 30));
            } else if (which < 60) {
                ask();
            } else if (which < 80) {
                askTape();
            } else {
                askState();
            }
        }
    }

    private void layLaw() {
        String text = randomLaw();
        tell("law", text, 240);
    }

    private void tell(String name, String text, int most) {
        if (text.length() > most) {
            text = text.substring(0, most);
        }
        if (text.isEmpty()) {
            return;
        }
        feedAll(text.getBytes(StandardCharsets.ISO_8859_1));
        call(name, random.nextInt(60) == 0 ? number(1, most) : text.length());
    }

    private void feedAll(byte[] bytes) {
        for (int from = 0; from < bytes.length; from += 20) {
            int[] five = new int[5];
            for (int i = 0; i < 20; i++) {
                int value = from + i < bytes.length ? bytes[from + i] & 255 : random.nextInt(256);
                five[i / 4] = five[i / 4] << 8 | value;
            }
            call("feed", five[0], five[1], five[2], five[3], five[4]);
        }
    }

    /** A number of a span, now and then just outside it or far off. */
    private int number(int least, int most) {
        int which = random.nextInt(40);
        if (which == 0) {
            return least - 1;
        }
        if (which == 1) {
            return most + 1;
        }
        if (which == 2) {
            return random.nextInt();
        }
        return least + random.nextInt(most - least + 1);
    }

    private void ask() {
        call("count", number(0, 230));
        call("tried", number(1, 200), number(0, 4));
        call("guestAt", number(0, 143), number(0, 6));
        call("coatAt", number(0, 143));
        call("inLine", number(0, 5));
        call("count", number(0, 30));
    }

    private void askState() {
        switch (random.nextInt(10)) {
            case 0:
                call("pew", number(0, 1), number(0, 7), number(0, 4));
                call("torn");
                break;
            case 1:
                call("together", number(0, 15), number(0, 1));
                break;
            case 2:
                call("seesNothing", number(0, 1));
                break;
            case 3:
                call("order", number(0, 1), number(0, 7), number(0, 2));
                break;
            case 4:
                call("fathers", number(0, 1), number(0, 7), number(0, 2));
                break;
            case 5:
                call("singers", number(0, 2));
                break;
            case 6:
                call("strangers", number(0, 1));
                break;
            case 7:
                call("edge", number(0, 1));
                break;
            case 8:
                call("photo", number(0, 1));
                break;
            default:
                call("count", number(0, 30));
                break;
        }
    }

    private void askTape() {
        byte[] bytes = new byte[20];
        int most = new int[] {3, 9, 10, 40, 256}[random.nextInt(5)];
        for (int i = 0; i < bytes.length; i++) {
            bytes[i] = (byte) random.nextInt(most);
        }
        switch (random.nextInt(7)) {
            case 0:
                feedAll(bytes);
                call("even", number(1, 12), number(0, 200), number(0, 200), number(0, 1));
                break;
            case 1:
                for (int i = 0; i < 6; i++) {
                    bytes[i] = (byte) (1 + random.nextInt(9));
                }
                if (random.nextInt(9) == 0) {
                    bytes[random.nextInt(6)] = (byte) random.nextInt(256);
                }
                feedAll(bytes);
                call("moreFit", number(1, 6), number(0, 1));
                break;
            case 2:
                feedAll(bytes);
                call("ushers", number(1, 20), number(1, 8),
                        random.nextBoolean() ? 100 : number(0, 19));
                break;
            case 3:
                feedAll(bytes);
                call("leastTime", random.nextInt(10) == 0 ? number(1, 10) : number(1, 7),
                        number(1, 8));
                break;
            case 4:
                feedAll(bytes);
                call("hats", number(1, 12), number(0, 2));
                break;
            case 5:
                int side = number(0, 1);
                for (int i = 0; i < 8; i++) {
                    int sitting = model.pew(side, i, 0);
                    bytes[i] = (byte) (random.nextInt(12) == 0 ? sitting + 1 : sitting);
                }
                feedAll(bytes);
                call("check", side, number(0, 8));
                break;
            default:
                for (int i = random.nextInt(30) == 0 ? 14 : 1; i > 0; i--) {
                    call("feed", random.nextInt(), 1, -1, 256, random.nextInt());
                }
                break;
        }
    }

    private String spoilt(String text) {
        String signs = "ehyogbcsdkmnqrtwfa0123456789()[]!|&<>=+-*/%;, ";
        if (random.nextInt(30) == 0) {
            return signsAtRandom(text.substring(0, random.nextInt(text.length())), signs);
        }
        if (random.nextInt(8) != 0) {
            return text;
        }
        StringBuilder builder = new StringBuilder(text);
        int at = random.nextInt(text.length() + 1);
        char sign = signs.charAt(random.nextInt(signs.length()));
        switch (random.nextInt(4)) {
            case 0:
                builder.insert(at, sign);
                break;
            case 1:
                if (at < builder.length()) {
                    builder.setCharAt(at, sign);
                }
                break;
            case 2:
                if (at < builder.length()) {
                    builder.deleteCharAt(at);
                }
                break;
            default:
                builder.setLength(at);
                break;
        }
        return builder.toString();
    }

    /** Behind a text's beginning whatever comes, bytes above 127 among it. */
    private String signsAtRandom(String beginning, String signs) {
        StringBuilder builder = new StringBuilder(beginning);
        int many = 1 + random.nextInt(30);
        for (int i = 0; i < many; i++) {
            builder.append(random.nextInt(20) == 0 ? (char) random.nextInt(256)
                    : signs.charAt(random.nextInt(signs.length())));
        }
        return builder.toString();
    }

    private String randomList() {
        StringBuilder builder = new StringBuilder();
        int parts = 1 + random.nextInt(random.nextInt(4) == 0 ? 24 : 6);
        int families = 1 + random.nextInt(16);
        for (int i = 0; i < parts; i++) {
            if (i > 0) {
                builder.append(',');
            }
            if (random.nextInt(2) == 0) {
                builder.append((char) ('2' + random.nextInt(8)));
            }
            builder.append("hgb".charAt(random.nextInt(3)));
            builder.append((char) ('a' + random.nextInt(families)));
            builder.append((char) ('0' + random.nextInt(10)));
            if (random.nextInt(4) == 0) {
                builder.append('c');
            }
            if (random.nextInt(4) == 0) {
                builder.append('s');
            }
        }
        return spoilt(builder.toString());
    }

    private String randomMoves() {
        StringBuilder builder = new StringBuilder();
        if (random.nextInt(12) == 0) {
            String seat = seatLike(true);
            String line = seat + "=" + seat;
            return spoilt(line + (";" + line).repeat(17 + random.nextInt(6)));
        }
        int lines = 1 + random.nextInt(4);
        for (int i = 0; i < lines; i++) {
            if (i > 0) {
                builder.append(';');
            }
            builder.append(seatLike(true));
            int kind = random.nextInt(4);
            if (kind == 0) {
                builder.append('!');
            } else if (kind == 1) {
                builder.append('=').append(seatLike(true));
            } else {
                builder.append('>').append(seatLike(false));
            }
        }
        return spoilt(builder.toString());
    }

    private String seatLike(boolean taken) {
        int seat = random.nextInt(144);
        for (int i = 0; i < 300 && random.nextInt(40) != 0 && (model.seats[seat] != null) != taken; i++) {
            seat = random.nextInt(144);
        }
        if (random.nextInt(60) == 0) {
            seat = 140 + random.nextInt(900);
        }
        return random.nextInt(10) == 0 ? String.format("%03d", seat) : Integer.toString(seat);
    }

    private String randomLaw() {
        StringBuilder builder = new StringBuilder();
        nesting = random.nextInt(3) == 0 ? 3 : 12;
        int rules = 1 + random.nextInt(random.nextInt(4) == 0 ? 18 : 5);
        boolean plain = rules > 6;
        for (int i = 0; i < rules; i++) {
            if (i > 0) {
                builder.append(';');
            }
            char letter = "eeeyo".charAt(random.nextInt(5));
            builder.append(letter);
            if (letter != 'o') {
                builder.append(plain ? "7" : sum(0));
            }
            builder.append('(').append(plain ? "s=" + random.nextInt(3) : choice(1)).append(')');
        }
        if (random.nextInt(3) == 0) {
            builder.append(";e5(1=1)");
        }
        return spoilt(builder.toString());
    }

    private String choice(int depth) {
        StringBuilder builder = new StringBuilder(part(depth));
        while (random.nextInt(4 + depth) == 0) {
            builder.append('|').append(part(depth));
        }
        return builder.toString();
    }

    private String part(int depth) {
        StringBuilder builder = new StringBuilder(test(depth));
        while (random.nextInt(4 + depth) == 0) {
            builder.append('&').append(test(depth));
        }
        return builder.toString();
    }

    private String test(int depth) {
        boolean nests = random.nextInt(nesting) == 0 && (depth < 6 || random.nextInt(8) == 0);
        if (nests) {
            return random.nextBoolean() ? "!" + test(depth + 1) : "(" + choice(depth + 1) + ")";
        }
        return sum(depth) + "<>=".charAt(random.nextInt(3)) + sum(depth);
    }

    private String sum(int depth) {
        StringBuilder builder = new StringBuilder(product(depth));
        while (random.nextInt(4) == 0) {
            builder.append("+-".charAt(random.nextInt(2))).append(product(depth));
        }
        return builder.toString();
    }

    private String product(int depth) {
        StringBuilder builder = new StringBuilder(factor(depth));
        while (random.nextInt(4) == 0) {
            builder.append("*/%".charAt(random.nextInt(3))).append(factor(depth));
        }
        return builder.toString();
    }

    private String factor(int depth) {
        if (random.nextInt(2 * nesting) == 0 && (depth < 6 || random.nextInt(8) == 0)) {
            return "[" + sum(depth + 1) + "]";
        }
        int most = new int[] {2, 10, 100, 1000, 100000, random.nextInt(8) == 0 ? 200000 : 5}[random.nextInt(6)];
        if (random.nextInt(5) < 2) {
            return Integer.toString(random.nextInt(most));
        }
        return "" + "sftcgqrnmkdw".charAt(random.nextInt(12));
    }

    // ------------------------------------------------------------------------------------------

    private static final class Guest {
        int side;
        int family;
        int height;
        boolean child;
        boolean singer;
        int number;

        Guest copy() {
            Guest other = new Guest();
            other.side = side;
            other.family = family;
            other.height = height;
            other.child = child;
            other.singer = singer;
            other.number = number;
            return other;
        }
    }

    @SuppressWarnings("serial")
    private static final class Fault extends RuntimeException {
        final int answer;

        Fault(int number, int place) {
            answer = -1000 * number - place;
        }
    }

    @SuppressWarnings("serial")
    private static final class Refused extends RuntimeException {
    }

    /** Reads and, with facts, asks a law straight from its text. */
    private static final class LawText {
        final String text;
        final Map<Character, Integer> facts;
        int at = 0;

        LawText(String text, Map<Character, Integer> facts) {
            this.text = text;
            this.facts = facts;
        }

        int peek() {
            return at < text.length() ? text.charAt(at) : -1;
        }

        boolean oneOf(String signs) {
            return peek() >= 0 && signs.indexOf(peek()) >= 0;
        }

        char need(String signs) {
            if (!oneOf(signs)) {
                throw new Fault(1, at);
            }
            return text.charAt(at++);
        }

        void open(int depth) {
            if (depth == 6) {
                throw new Fault(5, at);
            }
            at++;
        }

        int rules() {
            int rules = 0;
            do {
                if (rules > 0) {
                    need(";");
                }
                if (rules == 16 && oneOf("eyo")) {
                    throw new Fault(4, at);
                }
                if (need("eyo") != 'o') {
                    sum(0, false);
                }
                need("(");
                choice(1, false);
                need(")");
                rules++;
            } while (at < text.length());
            return rules;
        }

        /** Whether what is read is also asked. */
        boolean choice(int depth, boolean asked) {
            boolean holds = part(depth, asked);
            while (peek() == '|') {
                at++;
                holds |= part(depth, asked && !holds);
            }
            return holds;
        }

        boolean part(int depth, boolean asked) {
            boolean holds = test(depth, asked);
            while (peek() == '&') {
                at++;
                holds &= test(depth, asked && holds);
            }
            return holds;
        }

        boolean test(int depth, boolean asked) {
            if (peek() == '!') {
                open(depth);
                return !test(depth + 1, asked);
            }
            if (peek() == '(') {
                open(depth);
                boolean holds = choice(depth + 1, asked);
                need(")");
                return holds;
            }
            int left = sum(depth, asked);
            char sign = need("<>=");
            int right = sum(depth, asked);
            return sign == '<' ? left < right : sign == '>' ? left > right : left == right;
        }

        int sum(int depth, boolean asked) {
            int value = product(depth, asked);
            while (oneOf("+-")) {
                value = text.charAt(at++) == '+' ? value + product(depth, asked) : value - product(depth, asked);
            }
            return value;
        }

        int product(int depth, boolean asked) {
            int value = factor(depth, asked);
            while (oneOf("*/%")) {
                char sign = text.charAt(at++);
                int right = factor(depth, asked);
                if (sign == '*') {
                    value *= right;
                } else if (asked) {
                    if (right == 0) {
                        throw new Refused();
                    }
                    value = sign == '/' ? value / right : value % right;
                }
            }
            return value;
        }

        int factor(int depth, boolean asked) {
            if (peek() == '[') {
                open(depth);
                int value = sum(depth + 1, asked);
                need("]");
                return value;
            }
            if (oneOf("0123456789")) {
                int value = 0;
                for (int digits = 0; oneOf("0123456789"); digits++) {
                    if (digits == 5) {
                        throw new Fault(2, at);
                    }
                    value = 10 * value + text.charAt(at++) - '0';
                }
                return value;
            }
            char letter = need("sftcgqrnmkdw");
            return facts == null ? 0 : facts.get(letter);
        }
    }

    /** The face of WeddingPews once more, slow and plain. */
    static final class Model {
        Guest[] seats = new Guest[144];
        int[] coats = new int[144];
        List<Guest> line = new ArrayList<>();
        int come = 0;
        int stand = 0;
        int climbed = 0;
        int x = 1;
        List<Integer> tape = new ArrayList<>();
        List<String> law = new ArrayList<>();
        Model kept = null;
        int lastSeat = -2;

        Model() {
            Arrays.fill(coats, -1);
        }

        Model copy() {
            Model other = new Model();
            other.take(this);
            other.law = law;
            return other;
        }

        void take(Model other) {
            for (int i = 0; i < 144; i++) {
                seats[i] = other.seats[i] == null ? null : other.seats[i].copy();
            }
            coats = other.coats.clone();
            line = new ArrayList<>(other.line);
            come = other.come;
            stand = other.stand;
            climbed = other.climbed;
            x = other.x;
        }

        static boolean in(int value, int least, int most) {
            return least <= value && value <= most;
        }

        List<Integer> taken(int n) {
            List<Integer> first = new ArrayList<>(tape.subList(0, n));
            tape.clear();
            return first;
        }

        String takenText(int n) {
            StringBuilder builder = new StringBuilder();
            for (int value : taken(n)) {
                builder.append((char) value);
            }
            return builder.toString();
        }

        public boolean coat(int seat, int family) {
            if (!in(seat, 0, 143) || !in(family, -1, 15)) {
                return false;
            }
            coats[seat] = family;
            return true;
        }

        public int feed(int a, int b, int c, int d, int e) {
            if (tape.size() > 240) {
                return -1;
            }
            for (int four : new int[] {a, b, c, d, e}) {
                for (byte one : java.nio.ByteBuffer.allocate(4).putInt(four).array()) {
                    tape.add(one & 255);
                }
            }
            return tape.size();
        }

        public int law(int n) {
            if (!in(n, 1, 240) || n > tape.size()) {
                return -1;
            }
            String text = takenText(n);
            try {
                int rules = new LawText(text, null).rules();
                law = Arrays.asList(text.split(";"));
                return rules;
            } catch (Fault fault) {
                return fault.answer;
            }
        }

        public int list(int n) {
            if (!in(n, 1, 120) || n > tape.size()) {
                return -1;
            }
            String text = takenText(n);
            List<Guest> more = new ArrayList<>();
            int at = 0;
            while (true) {
                java.util.regex.Matcher part = java.util.regex.Pattern
                        .compile("([2-9]?)([hgb])([a-p])([0-9])(c?)(s?)").matcher(text).region(at, n);
                if (!part.lookingAt()) {
                    return -1000 - listFault(text, at);
                }
                int alike = part.group(1).isEmpty() ? 1 : Integer.parseInt(part.group(1));
                for (int i = 0; i < alike; i++) {
                    Guest guest = new Guest();
                    guest.side = "hgb".indexOf(part.group(2));
                    guest.family = part.group(3).charAt(0) - 'a';
                    guest.height = Integer.parseInt(part.group(4));
                    guest.child = !part.group(5).isEmpty();
                    guest.singer = !part.group(6).isEmpty();
                    more.add(guest);
                }
                if (line.size() + more.size() > 200) {
                    return -4000 - at;
                }
                at = part.end();
                if (at == n) {
                    line.addAll(more);
                    return more.size();
                }
                if (text.charAt(at) != ',') {
                    return -1000 - at;
                }
                at++;
            }
        }

        static int listFault(String text, int at) {
            String[] sets = {"hgb", "abcdefghijklmnop", "0123456789"};
            if (at < text.length() && "23456789".indexOf(text.charAt(at)) >= 0) {
                at++;
            }
            for (String set : sets) {
                if (at >= text.length() || set.indexOf(text.charAt(at)) < 0) {
                    return at;
                }
                at++;
            }
            return at;
        }

        public int moves(int n) {
            if (!in(n, 1, 120) || n > tape.size()) {
                return -1;
            }
            String text = takenText(n);
            Model trial = copy();
            try {
                int lines = trial.move(text);
                take(trial);
                return lines;
            } catch (Fault fault) {
                return fault.answer;
            }
        }

        int move(String text) {
            int lines = 0;
            int[] at = {0};
            while (true) {
                int first = at[0];
                if (first < text.length() && Character.isDigit(text.charAt(first)) && lines == 20) {
                    throw new Fault(4, first);
                }
                int from = seatNumber(text, at);
                if (seats[from] == null) {
                    throw new Fault(7, first);
                }
                char deed = at[0] < text.length() ? text.charAt(at[0]) : ' ';
                if (">=!".indexOf(deed) < 0) {
                    throw new Fault(1, at[0]);
                }
                at[0]++;
                if (deed == '!') {
                    seats[from] = null;
                    stand++;
                } else {
                    int second = at[0];
                    int to = seatNumber(text, at);
                    if (deed == '=' && seats[to] == null) {
                        throw new Fault(7, second);
                    }
                    if (deed == '>' && seats[to] != null) {
                        throw new Fault(8, second);
                    }
                    Guest guest = seats[from];
                    seats[from] = seats[to];
                    seats[to] = guest;
                }
                lines++;
                if (at[0] == text.length()) {
                    return lines;
                }
                if (text.charAt(at[0]) != ';') {
                    throw new Fault(1, at[0]);
                }
                at[0]++;
            }
        }

        static int seatNumber(String text, int[] at) {
            int first = at[0];
            while (at[0] < text.length() && in(text.charAt(at[0]), '0', '9')) {
                if (at[0] == first + 3) {
                    throw new Fault(2, at[0]);
                }
                at[0]++;
            }
            if (at[0] == first) {
                throw new Fault(1, first);
            }
            int seat = Integer.parseInt(text.substring(first, at[0]));
            if (seat > 143) {
                throw new Fault(3, first);
            }
            return seat;
        }

        public int come(int n) {
            if (!in(n, 1, 200)) {
                return -1;
            }
            int before = climbed;
            lastSeat = -2;
            for (int i = 0; i < n && !line.isEmpty(); i++) {
                lastSeat = oneComes(line.remove(0).copy());
            }
            return climbed - before;
        }

        boolean free(int seat, Guest guest) {
            return seats[seat] == null && (coats[seat] == -1 || coats[seat] == guest.family);
        }

        int oneComes(Guest guest) {
            int likes = worth('y', guest, -1, 10);
            x = (int) ((25173L * x + 13849L) % 65536L);
            boolean asHeLikes = x % 10 < likes;
            int best = -1;
            int bestWorth = asHeLikes ? -100 : 0;
            for (int pew = 0; pew < 16; pew++) {
                boolean room = false;
                for (int place = 0; place < 9; place++) {
                    room |= free(9 * pew + place, guest);
                }
                int worth = asHeLikes ? -sitting(pew) : worth('e', guest, pew, 9999);
                if (room && worth > bestWorth) {
                    best = pew;
                    bestWorth = worth;
                }
            }
            guest.number = come++;
            if (best < 0) {
                stand++;
                return -2;
            }
            come--;
            boolean inside = worth('o', guest, best, 1) == 1;
            come++;
            List<Integer> places = new ArrayList<>();
            for (int place = 0; place < 9; place++) {
                if (free(9 * best + place, guest)) {
                    places.add(place);
                }
            }
            int place = inside ? places.get(places.size() - 1) : places.get(0);
            for (int other = 0; other < place; other++) {
                climbed += seats[9 * best + other] == null ? 0 : 1;
            }
            seats[9 * best + place] = guest;
            return 9 * best + place;
        }

        int sitting(int pew) {
            int many = 0;
            for (int place = 0; place < 9; place++) {
                many += seats[9 * pew + place] == null ? 0 : 1;
            }
            return many;
        }

        Map<Character, Integer> facts(Guest guest, int pew) {
            Map<Character, Integer> facts = new HashMap<>();
            facts.put('s', guest.side);
            facts.put('f', guest.family);
            facts.put('t', guest.height);
            facts.put('c', guest.child ? 1 : 0);
            facts.put('g', guest.singer ? 1 : 0);
            facts.put('d', count(5) - count(6));
            facts.put('w', come % 1000);
            int many = 0;
            int his = 0;
            int kept = 0;
            for (int seat = 9 * pew; pew >= 0 && seat < 9 * pew + 9; seat++) {
                if (seats[seat] != null) {
                    many++;
                    his += seats[seat].family == guest.family ? 1 : 0;
                } else if (coats[seat] == guest.family) {
                    kept++;
                }
            }
            facts.put('q', pew < 8 ? 0 : 1);
            facts.put('r', pew < 0 ? 0 : pew % 8);
            facts.put('n', many);
            facts.put('m', his);
            facts.put('k', kept);
            return facts;
        }

        int worth(char letter, Guest guest, int pew, int bound) {
            for (String rule : law) {
                if (rule.charAt(0) == letter) {
                    Map<Character, Integer> facts = facts(guest, pew);
                    LawText skimmed = new LawText(rule, facts);
                    skimmed.at = 1;
                    if (letter != 'o') {
                        skimmed.sum(0, false);
                    }
                    skimmed.at++;
                    boolean holds;
                    try {
                        holds = skimmed.choice(1, true);
                    } catch (Refused refused) {
                        holds = false;
                    }
                    if (holds && letter == 'o') {
                        return 1;
                    }
                    if (holds) {
                        try {
                            LawText asked = new LawText(rule, facts);
                            asked.at = 1;
                            return Math.max(0, Math.min(bound, asked.sum(0, true)));
                        } catch (Refused refused) {
                            return 0;
                        }
                    }
                }
            }
            return 0;
        }

        public int tried(int n, int what) {
            if (!in(n, 1, 200) || !in(what, 0, 4)) {
                return -1000;
            }
            Model trial = copy();
            int climbs = trial.come(n);
            return new int[] {climbs, trial.stand - stand, trial.lastSeat,
                trial.count(5) - trial.count(6), trial.torn()}[what];
        }

        public int guestAt(int seat, int what) {
            if (!in(seat, 0, 143) || !in(what, 0, 6)) {
                return -1;
            }
            Guest guest = seats[seat];
            if (guest == null) {
                return -2;
            }
            int view = 0;
            for (int row = 0; row < seat / 9 % 8; row++) {
                Guest other = seats[seat / 72 * 72 + 9 * row + seat % 9];
                if (other != null && other.height >= guest.height) {
                    view = seat / 9 % 8 - row;
                }
            }
            return new int[] {guest.side, guest.family, guest.height, guest.child ? 1 : 0,
                guest.singer ? 1 : 0, guest.number, view}[what];
        }

        public int coatAt(int seat) {
            return !in(seat, 0, 143) ? -1 : coats[seat] == -1 ? -2 : coats[seat];
        }

        public int pew(int side, int row, int what) {
            if (!in(side, 0, 1) || !in(row, 0, 7) || !in(what, 0, 4)) {
                return -1;
            }
            int pew = 8 * side + row;
            int bits = 0;
            int left = 0;
            StringBuilder shape = new StringBuilder();
            for (int seat = 9 * pew; seat < 9 * pew + 9; seat++) {
                Guest guest = seats[seat];
                shape.append(guest == null ? '.' : (char) ('a' + guest.family));
                bits |= guest == null ? 0 : 1 << guest.family;
                left += guest == null && coats[seat] >= 0 ? 1 : 0;
            }
            int longest = 0;
            int alike = 0;
            for (int from = 0; from < 9; from++) {
                for (int to = from + 1; to <= 9; to++) {
                    String some = shape.substring(from, to);
                    if (some.indexOf('.') < 0) {
                        longest = Math.max(longest, to - from);
                        if (some.chars().distinct().count() == 1) {
                            alike = Math.max(alike, to - from);
                        }
                    }
                }
            }
            return new int[] {sitting(pew), bits, longest, alike, left}[what];
        }

        int pewsOf(int family) {
            int bits = 0;
            for (int seat = 0; seat < 144; seat++) {
                if (seats[seat] != null && seats[seat].family == family) {
                    bits |= 1 << seat / 9;
                }
            }
            return bits;
        }

        public int torn() {
            int bits = 0;
            for (int family = 0; family < 16; family++) {
                bits |= Integer.bitCount(pewsOf(family)) > 1 ? 1 << family : 0;
            }
            return bits;
        }

        public int together(int family, int what) {
            if (!in(family, 0, 15) || !in(what, 0, 1)) {
                return -1;
            }
            int all = count(10 + family);
            if (all == 0) {
                return -3;
            }
            for (int changes = 0; changes <= all; changes++) {
                for (int pew = 0; pew < 16; pew++) {
                    int there = 0;
                    for (int seat = 9 * pew; seat < 9 * pew + 9; seat++) {
                        there += seats[seat] != null && seats[seat].family == family ? 1 : 0;
                    }
                    if (all - there == changes && sitting(pew) + changes <= 9) {
                        return what == 0 ? changes : pew;
                    }
                }
            }
            return -2;
        }

        public int seesNothing(int what) {
            List<Integer> blind = new ArrayList<>();
            for (int side = 0; side < 2; side++) {
                for (int row = 1; row < 8; row++) {
                    for (int place = 0; place < 9; place++) {
                        int seat = 72 * side + 9 * row + place;
                        if (seats[seat] != null && seats[seat - 9] != null
                                && seats[seat - 9].height > seats[seat].height) {
                            blind.add(seat);
                        }
                    }
                }
            }
            return firstAnd(blind, what);
        }

        static int firstAnd(List<Integer> found, int what) {
            return what == 0 ? found.size() : what != 1 ? -1 : found.isEmpty() ? -2 : found.get(0);
        }

        public int even(int n, int hers, int his, int what) {
            if (!in(n, 1, 12) || n > tape.size() || !in(hers, 0, 200) || !in(his, 0, 200)
                    || !in(what, 0, 1)) {
                return -1;
            }
            List<Integer> families = taken(n);
            int best = Integer.MAX_VALUE;
            int which = -1;
            for (int bits = 0; bits < 1 << n; bits++) {
                int here = hers;
                int there = his;
                for (int i = 0; i < n; i++) {
                    if ((bits & 1 << i) != 0) {
                        here += families.get(i);
                    } else {
                        there += families.get(i);
                    }
                }
                if (Math.abs(here - there) < best) {
                    best = Math.abs(here - there);
                    which = bits;
                }
            }
            return what == 0 ? best : which;
        }

        public int order(int side, int row, int what) {
            if (!in(side, 0, 1) || !in(row, 0, 7) || !in(what, 0, 2)) {
                return -1;
            }
            List<Integer> coming = new ArrayList<>();
            for (int seat = 72 * side + 9 * row; seat < 72 * side + 9 * row + 9; seat++) {
                if (seats[seat] != null) {
                    coming.add(seat);
                }
            }
            coming.sort(what == 0 ? Comparator.reverseOrder() : what == 1 ? Comparator.naturalOrder()
                    : Comparator.comparingInt((Integer seat) -> seats[seat].number));
            int climbs = 0;
            List<Integer> sitting = new ArrayList<>();
            for (int seat : coming) {
                for (int other : sitting) {
                    climbs += other < seat ? 1 : 0;
                }
                sitting.add(seat);
            }
            return climbs;
        }

        public int moreFit(int n, int what) {
            if (!in(n, 1, 6) || n > tape.size() || !in(what, 0, 1)) {
                return -1;
            }
            List<Integer> families = taken(n);
            for (int family : families) {
                if (!in(family, 1, 9)) {
                    return -2;
                }
            }
            int[] left = new int[16];
            for (int pew = 0; pew < 16; pew++) {
                left[pew] = 9 - sitting(pew);
            }
            for (int many = n; many > 0; many--) {
                for (int bits = 0; bits < 1 << n; bits++) {
                    if (Integer.bitCount(bits) == many && fits(families, bits, 0, left)) {
                        return what == 0 ? many : bits;
                    }
                }
            }
            return 0;
        }

        static boolean fits(List<Integer> families, int bits, int i, int[] left) {
            if (i == families.size()) {
                return true;
            }
            if ((bits & 1 << i) == 0) {
                return fits(families, bits, i + 1, left);
            }
            int tried = 0;
            for (int pew = 0; pew < 16; pew++) {
                int room = left[pew];
                if (room >= families.get(i) && (tried & 1 << room) == 0) {
                    tried |= 1 << room;
                    left[pew] -= families.get(i);
                    boolean fit = fits(families, bits, i + 1, left);
                    left[pew] = room;
                    if (fit) {
                        return true;
                    }
                }
            }
            return false;
        }

        public int fathers(int side, int apart, int what) {
            if (!in(side, 0, 1) || !in(apart, 0, 7) || !in(what, 0, 2)) {
                return -1;
            }
            List<int[]> ways = new ArrayList<>();
            for (int one = 72 * side; one < 72 * side + 72; one++) {
                for (int two = 72 * side; two < one; two++) {
                    if (seats[one] == null && seats[two] == null
                            && one / 9 - two / 9 >= apart) {
                        ways.add(new int[] {two, one});
                    }
                }
            }
            ways.sort((a, b) -> a[0] != b[0] ? a[0] - b[0] : a[1] - b[1]);
            return what == 0 ? ways.size() : ways.isEmpty() ? -2 : ways.get(0)[what - 1];
        }

        public int singers(int what) {
            List<Integer> rows = new ArrayList<>();
            for (int seat = 0; seat < 144; seat++) {
                if (seats[seat] != null && seats[seat].singer) {
                    rows.add(seat / 9 % 8);
                }
            }
            rows.sort(null);
            if (what == 0) {
                return rows.size();
            }
            if (what != 1 && what != 2) {
                return -1;
            }
            if (rows.isEmpty()) {
                return -2;
            }
            int middle = rows.get((rows.size() - 1) / 2);
            int far = 0;
            for (int row : rows) {
                far += Math.abs(row - middle);
            }
            return what == 1 ? middle : far;
        }

        public int strangers(int what) {
            List<Integer> found = new ArrayList<>();
            for (int seat = 0; seat < 144; seat++) {
                boolean some = false;
                boolean his = false;
                for (int other : new int[] {seat - 1, seat + 1}) {
                    if (in(other, 0, 143) && other / 9 == seat / 9 && seats[other] != null
                            && seats[seat] != null) {
                        some = true;
                        his |= seats[other].family == seats[seat].family;
                    }
                }
                if (some && !his) {
                    found.add(seat);
                }
            }
            return firstAnd(found, what);
        }

        public int inLine(int what) {
            int many = 0;
            int bits = 0;
            for (Guest guest : line) {
                boolean counts = what <= 2 ? guest.side == what : what == 3 ? guest.child : guest.singer;
                many += counts ? 1 : 0;
                bits |= 1 << guest.family;
            }
            return !in(what, 0, 5) ? -1 : what == 5 ? bits : many;
        }

        public int edge(int what) {
            int[] many = new int[2];
            for (int seat = 0; seat < 144; seat++) {
                if (seats[seat] != null && seats[seat].child) {
                    int between = 0;
                    for (int other = seat / 9 * 9; other < seat; other++) {
                        between += seats[other] == null ? 0 : 1;
                    }
                    many[between == 0 ? 0 : 1]++;
                }
            }
            return in(what, 0, 1) ? many[what] : -1;
        }

        public int ushers(int n, int many, int what) {
            if (!in(n, 1, 20) || n > tape.size() || !in(many, 1, 8) || what != 100 && !in(what, 0, n - 1)) {
                return -1;
            }
            List<Integer> minutes = taken(n);
            // By the minute: at each one the free ushers, from the lowest on, take who is next.
            int[] busyTill = new int[many];
            int[] begins = new int[n];
            int next = 0;
            int last = 0;
            for (int now = 0; next < n; now++) {
                for (int u = 0; u < many && next < n; u++) {
                    while (next < n && busyTill[u] <= now) {
                        begins[next] = now;
                        busyTill[u] = now + minutes.get(next++);
                        last = Math.max(last, busyTill[u]);
                    }
                }
            }
            return what == 100 ? last : begins[what];
        }

        public int leastTime(int n, int many) {
            if (!in(n, 1, 10) || n > tape.size() || !in(many, 1, 8)) {
                return -1;
            }
            return leastFrom(taken(n), 0, new int[many]);
        }

        static int leastFrom(List<Integer> minutes, int i, int[] load) {
            if (i == minutes.size()) {
                return Arrays.stream(load).max().getAsInt();
            }
            int least = Integer.MAX_VALUE;
            for (int u = 0; u < load.length; u++) {
                boolean wasEmpty = load[u] == 0;
                load[u] += minutes.get(i);
                least = Math.min(least, leastFrom(minutes, i + 1, load));
                load[u] -= minutes.get(i);
                if (wasEmpty) {
                    break;
                }
            }
            return least;
        }

        public int photo(int side) {
            if (!in(side, 0, 1)) {
                return -1;
            }
            // What stands apart most is all less a greatest matching: the neighbours are two-coloured.
            int[] partner = new int[72];
            Arrays.fill(partner, -1);
            int all = 0;
            int pairs = 0;
            for (int at = 0; at < 72; at++) {
                if (seats[72 * side + at] != null) {
                    all++;
                    if ((at / 9 + at % 9) % 2 == 0 && finds(side, at, partner, new boolean[72])) {
                        pairs++;
                    }
                }
            }
            return all - pairs;
        }

        boolean finds(int side, int at, int[] partner, boolean[] seen) {
            int[] beside = {at % 9 > 0 ? at - 1 : -1, at % 9 < 8 ? at + 1 : -1, at - 9, at + 9};
            for (int other : beside) {
                if (in(other, 0, 71) && seats[72 * side + other] != null && !seen[other]) {
                    seen[other] = true;
                    if (partner[other] < 0 || finds(side, partner[other], partner, seen)) {
                        partner[other] = at;
                        return true;
                    }
                }
            }
            return false;
        }

        public int hats(int n, int what) {
            if (!in(n, 1, 12) || n > tape.size() || !in(what, 0, 2)) {
                return -1;
            }
            List<Integer> row = taken(n);
            int seen = 0;
            for (int i = 0; i < n; i++) {
                int height = row.get(i);
                seen += row.subList(0, i).stream().allMatch(other -> other < height) ? 1 : 0;
            }
            int rise = 0;
            for (int bits = 0; bits < 1 << n; bits++) {
                int last = -1;
                boolean rises = true;
                for (int i = 0; i < n; i++) {
                    if ((bits & 1 << i) != 0) {
                        rises &= row.get(i) > last;
                        last = row.get(i);
                    }
                }
                rise = rises ? Math.max(rise, Integer.bitCount(bits)) : rise;
            }
            int changes = 0;
            for (int round = 0; round < n; round++) {
                for (int i = 1; i < n; i++) {
                    if (row.get(i) < row.get(i - 1)) {
                        int height = row.get(i);
                        row.set(i, row.get(i - 1));
                        row.set(i - 1, height);
                        changes++;
                    }
                }
            }
            return new int[] {seen, changes, n - rise}[what];
        }

        public boolean seed(int number) {
            if (!in(number, 0, 65535)) {
                return false;
            }
            x = number;
            return true;
        }

        public int keep() {
            kept = copy();
            return come;
        }

        public boolean undo() {
            if (kept == null) {
                return false;
            }
            take(kept);
            return true;
        }

        public int check(int side, int n) {
            if (!in(side, 0, 1) || !in(n, 0, 8) || n > tape.size()) {
                return -2;
            }
            List<Integer> rows = taken(n);
            for (int row = 0; row < n; row++) {
                if (rows.get(row) != sitting(8 * side + row)) {
                    return row;
                }
            }
            return -1;
        }

        public int count(int what) {
            int hers = 0;
            int his = 0;
            int[] of = new int[16];
            for (int seat = 0; seat < 144; seat++) {
                if (seats[seat] != null) {
                    hers += seat < 72 ? 1 : 0;
                    his += seat < 72 ? 0 : 1;
                    of[seats[seat].family]++;
                }
            }
            if (in(what, 10, 25)) {
                return of[what - 10];
            }
            if (in(what, 30, 229)) {
                return what - 30 < line.size() ? line.get(what - 30).family : -1;
            }
            int[] counts = {come, line.size(), stand, hers + his, climbed, hers, his, law.size(),
                tape.size(), x};
            return in(what, 0, 9) ? counts[what] : -1;
        }
    }
}
