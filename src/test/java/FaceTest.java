import java.lang.reflect.Constructor;
import java.lang.reflect.Field;
import java.lang.reflect.Member;
import java.lang.reflect.Method;
import java.lang.reflect.Modifier;
import java.nio.file.Files;
import java.nio.file.Path;
import java.util.Arrays;
import java.util.TreeSet;
import java.util.regex.Matcher;
import java.util.regex.Pattern;
import java.util.stream.Collectors;

/**
 * Holds the class against the document's "The public face", to the letter, and against LANGUAGE.md, rule 1: "no other
 * public, protected or package-visible member, but for the classes inside it, which are private or package-visible and
 * static. No private method bears the name of a public one."
 */
final class FaceTest {
    public static void main(String[] args) throws Exception {
        String document = Files.readString(Path.of(System.getProperty("doc", "../shared/DOC.md")));
        Due t = new Due();
        t.same("the face", actual().toString(), told(document).toString());
        t.due("members of the face", actual().size(), 32);
        t.due("public final", OldestDown.class.getModifiers(), Modifier.PUBLIC | Modifier.FINAL);
        for (Class<?> inside : OldestDown.class.getDeclaredClasses()) {
            int m = inside.getModifiers();
            t.due(inside + " is static, neither public nor protected",
                Modifier.isStatic(m) && !Modifier.isPublic(m) && !Modifier.isProtected(m), true);
        }
        for (Method a : OldestDown.class.getDeclaredMethods()) {
            for (Method b : OldestDown.class.getDeclaredMethods()) {
                boolean same = !a.equals(b) && a.getName().equals(b.getName());
                t.due("methods of the name " + a.getName(), same, false);
            }
        }
        System.out.println((t.wrong() == 0 ? 1 : 0) + " passed, " + t.wrong() + " failed");
        if (t.wrong() != 0) System.exit(1);
    }

    private static TreeSet<String> told(String document) {
        int face = document.indexOf("\n## The public face");
        String block = document.substring(document.indexOf("```java", face), document.indexOf("\n}\n```", face));
        Matcher m = Pattern.compile("\n {4}(public [^;]*);").matcher(block);
        TreeSet<String> all = new TreeSet<>();
        while (m.find()) all.add(m.group(1).replaceAll(" = .*", "").replaceAll("(int|boolean) \\w+(?=[,)])", "$1"));
        return all;
    }

    private static TreeSet<String> actual() {
        TreeSet<String> all = new TreeSet<>();
        Class<?> c = OldestDown.class;
        for (Field f : c.getDeclaredFields()) if (isSeen(f)) all.add(Modifier.toString(f.getModifiers()) + " " + f.getType() + " " + f.getName());
        for (Constructor<?> k : c.getDeclaredConstructors()) if (isSeen(k)) all.add(Modifier.toString(k.getModifiers()) + " " + c.getName() + of(k.getParameterTypes()));
        for (Method m : c.getDeclaredMethods()) if (isSeen(m)) all.add(Modifier.toString(m.getModifiers()) + " " + m.getReturnType() + " " + m.getName() + of(m.getParameterTypes()));
        return all;
    }

    private static boolean isSeen(Member m) {
        return !Modifier.isPrivate(m.getModifiers());
    }

    private static String of(Class<?>[] parameters) {
        return Arrays.stream(parameters).map(Class::getName).collect(Collectors.joining(", ", "(", ")"));
    }
}
