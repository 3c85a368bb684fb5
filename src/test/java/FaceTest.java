import java.io.IOException;
import java.lang.reflect.Constructor;
import java.lang.reflect.Field;
import java.lang.reflect.Method;
import java.lang.reflect.Modifier;
import java.nio.charset.StandardCharsets;
import java.nio.file.Files;
import java.nio.file.Path;
import java.util.Arrays;
import java.util.Set;
import java.util.TreeSet;
import java.util.stream.Collectors;

/** The public face is the one that the document writes out, and nothing else can be seen from outside. */
public final class FaceTest extends Talk {
    public static void main(String[] args) throws IOException {
        Set<String> wanted = wanted();
        Set<String> seen = seen();
        due("the face", String.join("\n", seen), String.join("\n", wanted));
        due("so many members", wanted.size(), 32);
        due("public and final", WeddingPews.class.getModifiers(), Modifier.PUBLIC | Modifier.FINAL);
        due("nothing above it but Object", WeddingPews.class.getSuperclass() == Object.class, true);
        due("no interfaces", WeddingPews.class.getInterfaces().length, 0);
        for (Class<?> inside : WeddingPews.class.getDeclaredClasses()) {
            inside(inside);
        }
        end("face");
    }

    /** The lines of the document's block, without names of parameters. */
    private static Set<String> wanted() throws IOException {
        String document = Files.readString(Path.of("../shared/DOC.md"), StandardCharsets.UTF_8);
        String block = document.substring(document.indexOf("public final class WeddingPews {"));
        Set<String> lines = new TreeSet<>();
        for (String line : block.substring(0, block.indexOf("\n}")).split("\n")) {
            if (line.startsWith("    ")) {
                lines.add(line.trim().replaceAll("\\b(int|boolean) \\w+(?=[,)])", "$1"));
            }
        }
        return lines;
    }

    private static Set<String> seen() {
        Set<String> lines = new TreeSet<>();
        for (Field field : WeddingPews.class.getDeclaredFields()) {
            if (!Modifier.isPrivate(field.getModifiers())) {
                lines.add(Modifier.toString(field.getModifiers()) + " " + field.getType() + " " + field.getName()
                        + " = " + WeddingPews.NONE + ";");
            }
        }
        for (Constructor<?> maker : WeddingPews.class.getDeclaredConstructors()) {
            lines.add(Modifier.toString(maker.getModifiers()) + " WeddingPews" + parameters(maker.getParameterTypes()));
        }
        for (Method method : WeddingPews.class.getDeclaredMethods()) {
            if (!Modifier.isPrivate(method.getModifiers())) {
                lines.add(Modifier.toString(method.getModifiers()) + " " + method.getReturnType() + " "
                        + method.getName() + parameters(method.getParameterTypes()));
            }
        }
        return lines;
    }

    private static String parameters(Class<?>[] types) {
        return Arrays.stream(types).map(Class::toString).collect(Collectors.joining(", ", "(", ");"));
    }

    /** LANGUAGE.md, rules 1, 2 and 11. */
    private static void inside(Class<?> inside) {
        String name = inside.getSimpleName();
        due(name + " is static", Modifier.isStatic(inside.getModifiers()), true);
        due(name + " is not seen outside", inside.getModifiers() & (Modifier.PUBLIC | Modifier.PROTECTED), 0);
        int fields = 0;
        for (Field field : inside.getDeclaredFields()) {
            fields += Modifier.isStatic(field.getModifiers()) ? 0 : 1;
        }
        due(name + " has few fields", fields <= 20, true);
        for (Method method : inside.getDeclaredMethods()) {
            boolean isOfFace = Arrays.stream(WeddingPews.class.getMethods())
                    .anyMatch(open -> open.getName().equals(method.getName()));
            due(name + "." + method.getName() + " bears no public name", isOfFace, false);
        }
    }
}
