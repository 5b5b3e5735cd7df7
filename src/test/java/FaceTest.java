import java.io.IOException;
import java.lang.reflect.Constructor;
import java.lang.reflect.Field;
import java.lang.reflect.Method;
import java.lang.reflect.Modifier;
import java.nio.file.Files;
import java.nio.file.Path;
import java.util.Set;
import java.util.TreeSet;
import java.util.regex.Matcher;
import java.util.regex.Pattern;

/** The public face, and those rules of ../shared/LANGUAGE.md that can be seen from the class or its text. */
public final class FaceTest {
    private static final Check check = new Check("FaceTest");
    private static final String SOURCE = "src/main/java/NicheSaints.java";
    private static final String[] METHODS = {
        "row 3", "set 3", "copy 5", "drop 1", "feed 1", "saints 0", "fault 0", "steps 1", "swap 2", "night 1", "undo 0",
        "saint 2", "holder 1", "ahead 2", "when 2", "pray 1", "round 0", "home 1", "swaps 3", "sort 3", "plan 3",
        "fits 5", "began 5", "sleep 4", "drawn 3", "image 1", "restore 1", "kind 1", "as 2", "ask 2", "trace 1",
        "count 1", "status 0",
    };

    public static void main(String[] args) throws IOException {
        constants();
        members();
        text(Files.readString(Path.of(SOURCE)));
        check.end();
    }

    private static void constants() {
        check.due("NONE", NicheSaints.NONE, -1000000);
        check.due("BAD", NicheSaints.BAD, -1000001);
        check.due("STATE", NicheSaints.STATE, -1000002);
        check.due("FULL", NicheSaints.FULL, -1000003);
    }

    private static void members() {
        int modifiers = NicheSaints.class.getModifiers();
        check.holds("the class is public and final", Modifier.isPublic(modifiers) && Modifier.isFinal(modifiers));
        Constructor<?>[] constructors = NicheSaints.class.getDeclaredConstructors();
        check.holds("one public constructor", constructors.length == 1
                && Modifier.isPublic(constructors[0].getModifiers()) && constructors[0].getParameterCount() == 0);
        Set<String> face = new TreeSet<>();
        for (Method method : NicheSaints.class.getDeclaredMethods()) {
            if (!Modifier.isPrivate(method.getModifiers())) {
                face.add(method.getName() + " " + method.getParameterCount());
                check.holds(method + " answers an int", method.getReturnType() == int.class);
            }
        }
        check.holds("the methods are those of the document: " + face, face.equals(new TreeSet<>(Set.of(METHODS))));
        for (Method method : NicheSaints.class.getDeclaredMethods()) {
            if (Modifier.isPrivate(method.getModifiers())) {
                check.holds(method + " has a name of its own",
                        face.stream().noneMatch(f -> f.startsWith(method.getName() + " ")));
            }
        }
        for (Field field : NicheSaints.class.getDeclaredFields()) {
            boolean told = field.getName().matches("NONE|BAD|STATE|FULL");
            check.holds(field + " is seen only if it is told", told == !Modifier.isPrivate(field.getModifiers()));
            check.holds(field + " is no changing static", !Modifier.isStatic(field.getModifiers())
                    || Modifier.isFinal(field.getModifiers()));
        }
        for (Class<?> inner : NicheSaints.class.getDeclaredClasses()) {
            check.holds(inner + " is static", Modifier.isStatic(inner.getModifiers()));
        }
        check.holds("some twelve classes at most", NicheSaints.class.getDeclaredClasses().length <= 11);
    }

    private static void text(String source) {
        String code = source.replaceAll("(?s)/\\*.*?\\*/", "").replaceAll("//.*", "");
        for (String word : new String[] {"throw", "throws", "try", "catch", "synchronized", "assert", "package", "Exact",
            "System.out", "Random", "hashCode", "toString"}) {
            Matcher matcher = Pattern.compile("\\b" + Pattern.quote(word) + "\\b").matcher(code);
            check.holds("no " + word, !matcher.find());
        }
        check.holds("no lambda, no method reference", !code.contains("->") && !code.contains("::"));
        check.holds("texts of 1 to 127", code.chars().allMatch(c -> c >= 1 && c <= 127));
        Matcher imports = Pattern.compile("import ([^;]*);").matcher(code);
        while (imports.find()) {
            check.holds("import " + imports.group(1),
                    imports.group(1).matches("java\\.util\\.(Arrays|ArrayList|List)"));
        }
        // Rows are made in constructors and used again: a call makes no object.
        Matcher made = Pattern.compile("(?m)^.*\\bnew\\b.*$").matcher(code);
        while (made.find()) {
            check.holds("made once: " + made.group(), made.group().contains("final")
                    || made.group().matches(".*\\[\\w\\] = new \\w+\\(\\);"));
        }
    }
}
