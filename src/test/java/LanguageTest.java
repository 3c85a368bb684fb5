import java.io.IOException;
import java.lang.management.ManagementFactory;
import java.nio.charset.StandardCharsets;
import java.nio.file.Files;
import java.nio.file.Path;
import java.util.List;
import java.util.regex.Matcher;
import java.util.regex.Pattern;

/** What can be seen of LANGUAGE.md's rules in the source, and that no call makes objects. */
public final class LanguageTest {
    private static int wrong = 0;

    public static void main(String[] args) throws IOException {
        String source = Files.readString(Path.of("src/main/java/WeddingPews.java"), StandardCharsets.UTF_8);
        String code = withoutTextsAndComments(source);
        forbiddenWords(code);
        imports(code);
        library(code);
        sizes(code);
        constants(code);
        rowsAreMadeWithTheObject(code);
        callsMakeNothing();
        System.out.println("language: " + wrong + " wrong");
        if (wrong != 0) {
            System.exit(1);
        }
    }

    private static void fault(String text) {
        wrong++;
        System.out.println(text);
    }

    private static String withoutTextsAndComments(String source) {
        return source.replaceAll("(?s)/\\*.*?\\*/", "").replaceAll("//[^\n]*", "")
                .replaceAll("\"(\\\\.|[^\"\\\\])*\"", "\"\"").replaceAll("'(\\\\.|[^'\\\\])'", "'x'");
    }

    private static void forbiddenWords(String code) {
        String words = "package|throw|throws|try|catch|finally|synchronized|assert|protected|extends|volatile"
                + "|transient|native|var|yield|sealed|permits|Object|System\\.out|Thread|Random|Exact"
                + "|hashCode|toString|while";
        Matcher matcher = Pattern.compile("\\b(" + words + ")\\b|->|::|\\?\\?|@").matcher(code);
        while (matcher.find()) {
            fault("the source has " + matcher.group());
        }
        for (int i = 0; i < code.length(); i++) {
            if (code.charAt(i) > 126) {
                fault("a sign above 126");
            }
        }
    }

    private static void imports(String code) {
        Matcher matcher = Pattern.compile("import ([^;]*);").matcher(code);
        while (matcher.find()) {
            if (!matcher.group(1).equals("java.util.Arrays")) {
                fault("import " + matcher.group(1));
            }
        }
    }

    /** Of the library's classes nothing is used but what stands in the rules. */
    private static void library(String code) {
        List<String> allowed = List.of("Math.min", "Math.max", "Math.abs", "Integer.bitCount", "Arrays.fill",
                "System.arraycopy");
        Matcher matcher = Pattern.compile("\\b(Math|Integer|Long|Arrays|System|Character|String)\\.\\w+").matcher(code);
        while (matcher.find()) {
            boolean isImport = matcher.start() > 0 && code.charAt(matcher.start() - 1) == '.';
            if (!isImport && !allowed.contains(matcher.group())) {
                fault("the source uses " + matcher.group());
            }
        }
    }

    private static void sizes(String code) {
        Matcher classes = Pattern.compile("\\bclass \\w+ \\{").matcher(code);
        int many = 0;
        while (classes.find()) {
            many++;
        }
        if (many > 12) {
            fault(many + " classes");
        }
        Matcher heads = Pattern.compile("(?m)^( +)(?:[\\w\\[\\]]+ )*[\\w\\[\\]]+ ?(\\w+)\\(([^()]*)\\) \\{$")
                .matcher(code);
        int methods = 0;
        while (heads.find()) {
            methods++;
            if (heads.group(3).split(",").length > 7) {
                fault("parameters of " + heads.group(2));
            }
            int end = code.indexOf("\n" + heads.group(1) + "}", heads.end());
            int lines = code.substring(heads.start(), end).split("\n").length;
            if (lines > 60) {
                fault(heads.group(2) + " has " + lines + " lines");
            }
        }
        if (methods < 100) {
            fault("only " + methods + " methods were found");
        }
    }

    private static void constants(String code) {
        Matcher statics = Pattern.compile("(?m)^ +(?:private )?static (?!final)[^(]*[;=]").matcher(code);
        while (statics.find()) {
            fault("a static field that is not final: " + statics.group());
        }
    }

    /** Each new stands in a field's initialiser. */
    private static void rowsAreMadeWithTheObject(String code) {
        for (String line : List.of(code.split("\n"))) {
            boolean isField = line.matches(" +(private )?(final )?[\\w\\[\\]]+ \\w+ = new [^;]*;");
            if (line.contains("new ") && !(isField && line.indexOf(line.trim()) <= 8)) {
                fault("made by a call: " + line.trim());
            }
        }
    }

    private static long made() {
        return ((com.sun.management.ThreadMXBean) ManagementFactory.getThreadMXBean())
                .getThreadAllocatedBytes(Thread.currentThread().getId());
    }

    private static void callsMakeNothing() {
        WeddingPews x = new WeddingPews();
        useAll(x);
        long before = made();
        long nothing = made() - before;
        before = made();
        useAll(x);
        long bytes = made() - before - nothing;
        if (bytes > 2000) {
            fault("the calls made " + bytes + " bytes");
        }
    }

    private static void feedSome(WeddingPews x, int times) {
        for (int i = 0; i < times; i++) {
            x.feed(0x39686135, 0x2c396762, 0x34632c62, 0x70307300, 0x01020304);
        }
    }

    private static void useAll(WeddingPews x) {
        for (int i = 0; i < 12; i++) {
            x.feed(0x65312831, 0x3d31293b, 0x79352877, 0x3e32293b, 0x6f287323);
            x.law(i % 2 == 0 ? 16 : 20);
            feedSome(x, 1);
            x.list(15);
            x.tried(200, i % 5);
            x.come(1 + i);
            x.keep();
            x.feed(0x303e3137, 0x3b30213b, 0x30000000, 0, 0);
            x.moves(7);
            x.undo();
            x.coat(i, i);
            for (int what = 0; what < 7; what++) {
                x.guestAt(i, what);
                x.count(what + 3 * i);
                x.pew(i % 2, i % 8, what);
                x.singers(what);
                x.fathers(0, 1, what);
                x.strangers(what);
                x.seesNothing(what);
                x.inLine(what);
                x.edge(what);
                x.order(0, 0, what);
                x.together(what, i % 2);
                x.photo(what);
            }
            feedSome(x, 1);
            x.even(12, 3, 4, 1);
            feedSome(x, 1);
            x.moreFit(6, 0);
            x.feed(0x01020304, 0x05060000, 0, 0, 0);
            x.moreFit(6, 0);
            feedSome(x, 1);
            x.ushers(20, 4, 100);
            feedSome(x, 1);
            x.leastTime(10, 3);
            feedSome(x, 1);
            x.hats(12, i % 3);
            feedSome(x, 1);
            x.check(0, 8);
            x.torn();
            x.seed(i);
        }
    }
}
