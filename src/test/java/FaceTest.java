import java.io.IOException;
import java.lang.reflect.Constructor;
import java.lang.reflect.Executable;
import java.lang.reflect.Field;
import java.lang.reflect.Method;
import java.lang.reflect.Modifier;
import java.nio.file.Files;
import java.nio.file.Path;
import java.util.Set;
import java.util.TreeSet;
import java.util.stream.Collectors;
import java.util.stream.Stream;

/** The public face is the one in the document's code block, and there is no other member that shows. */
final class FaceTest {
    public static void main(String[] args) throws IOException {
        Set<String> got = new TreeSet<>();
        for (Constructor<?> each : TextAtlas.class.getDeclaredConstructors()) {
            got.add(told(each, "TextAtlas"));
        }
        Set<String> shown = new TreeSet<>();
        for (Method each : TextAtlas.class.getDeclaredMethods()) {
            if (!Modifier.isPrivate(each.getModifiers())) {
                got.add(told(each, each.getReturnType() + " " + each.getName()));
                shown.add(each.getName());
            }
        }
        Bench.due("face", String.join("\n", got), String.join("\n", documented()));
        int modifiers = TextAtlas.class.getModifiers();
        Bench.due("public and final", Modifier.isPublic(modifiers) && Modifier.isFinal(modifiers), true);
        for (Field field : TextAtlas.class.getDeclaredFields()) {
            Bench.due(field.getName() + " is private", Modifier.isPrivate(field.getModifiers()), true);
        }
        namesApart(TextAtlas.class, shown);
        for (Class<?> inner : TextAtlas.class.getDeclaredClasses()) {
            int inside = inner.getModifiers();
            Bench.due(inner + " is static", Modifier.isStatic(inside), true);
            Bench.due(inner + " shows", Modifier.isPublic(inside) || Modifier.isProtected(inside), false);
            namesApart(inner, shown);
        }
        Bench.finish();
    }

    private static void namesApart(Class<?> owner, Set<String> shown) {
        for (Method each : owner.getDeclaredMethods()) {
            if (Modifier.isPrivate(each.getModifiers())) {
                Bench.due(owner + "." + each.getName() + " has a public name", shown.contains(each.getName()), false);
            }
        }
    }

    private static String told(Executable each, String name) {
        String parameters = Stream.of(each.getParameterTypes()).map(Class::getName).collect(Collectors.joining(", "));
        String thrown = Stream.of(each.getExceptionTypes()).map(Class::getSimpleName).collect(Collectors.joining(", "));
        return "public " + name + "(" + parameters + ")" + (thrown.isEmpty() ? "" : " throws " + thrown) + ";";
    }

    private static Set<String> documented() throws IOException {
        Set<String> face = new TreeSet<>();
        for (String line : Files.readAllLines(Path.of("../shared/DOC.md"))) {
            if (line.startsWith("    public ")) {
                face.add(line.trim().replaceAll("(int|boolean) \\w+(?=[,)])", "$1"));
            }
        }
        return face;
    }
}
