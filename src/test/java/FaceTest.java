import java.io.IOException;
import java.lang.reflect.Constructor;
import java.lang.reflect.Field;
import java.lang.reflect.Method;
import java.lang.reflect.Modifier;
import java.nio.file.Files;
import java.nio.file.Path;
import java.util.ArrayList;
import java.util.List;
import java.util.TreeSet;
import java.util.regex.Matcher;
import java.util.regex.Pattern;

/** The public face, and what a text can tell of the rules of LANGUAGE.md. Run it in the project's folder. */
public final class FaceTest {
    private static final String[] METHODS = {"parts 1", "channel 4", "event 3", "form 1", "drift 2", "run 1", "letGo 0",
        "finish 0", "told 1", "part 2", "channelOf 2", "between 2", "record 2", "ring 1", "waits 1", "inOrder 2", "keep 1", "goBack 1"};
    private static final String[] FORBIDDEN = {"\\bthrow\\b", "\\btry\\b", "\\bcatch\\b", "\\bsynchronized\\b", "\\bassert\\b",
        "->", "::", "Exact\\b", "\\bimport\\b", "\\bpackage\\b", "System\\.(?!arraycopy)", "\\bprotected\\b", "\\bvolatile\\b",
        "\\bThread\\b", "\\bObject\\b", "static\\s*\\{"};
    private static final int MOST_LINES = 60;
    private static final Check CHECK = new Check("FaceTest");

    public static void main(String[] args) throws IOException {
        theClass();
        theConstants();
        theMethods();
        theClassesInside();
        String text = Files.readString(Path.of("src", "main", "java", "SafeParts.java"));
        theText(text);
        theDocumentsFace(text.replaceAll("\\s+", " "));
        theCallsByTheirHeadings(text);
        theMethodsAreShort(text);
        CHECK.end();
    }

    private static void theClass() {
        int of = SafeParts.class.getModifiers();
        CHECK.holds("public and final", Modifier.isPublic(of) && Modifier.isFinal(of));
        Constructor<?>[] constructors = SafeParts.class.getDeclaredConstructors();
        CHECK.due("constructors", constructors.length, 1);
        CHECK.holds("a public one without parameters",
            Modifier.isPublic(constructors[0].getModifiers()) && constructors[0].getParameterCount() == 0);
    }

    private static void theConstants() {
        CHECK.due("NONE", SafeParts.NONE, -1);
        CHECK.due("NEVER", SafeParts.NEVER, 99999999);
        CHECK.due("UNKNOWN", SafeParts.UNKNOWN, -1000000001);
        CHECK.due("OUTSIDE", SafeParts.OUTSIDE, -1000000002);
        CHECK.due("NOT", SafeParts.NOT, -1000000003);
        CHECK.due("FULL", SafeParts.FULL, -1000000004);
        int open = 0;
        for (Field field : SafeParts.class.getDeclaredFields()) {
            int of = field.getModifiers();
            CHECK.holds(field + " is private or a constant of the face", Modifier.isPrivate(of) || Modifier.isPublic(of));
            CHECK.holds(field + " is final", Modifier.isFinal(of));
            open += Modifier.isPublic(of) ? 1 : 0;
        }
        CHECK.due("public fields", open, 6);
    }

    private static void theMethods() {
        TreeSet<String> want = new TreeSet<>(List.of(METHODS));
        TreeSet<String> names = new TreeSet<>();
        for (String method : METHODS) {
            names.add(method.substring(0, method.indexOf(' ')));
        }
        TreeSet<String> got = new TreeSet<>();
        for (Method method : SafeParts.class.getDeclaredMethods()) {
            int of = method.getModifiers();
            if (Modifier.isPublic(of)) {
                got.add(method.getName() + " " + method.getParameterCount());
                CHECK.holds(method + " answers an int", method.getReturnType() == int.class);
            } else {
                CHECK.holds(method + " is private", Modifier.isPrivate(of));
                CHECK.holds(method + " has a name of its own", !names.contains(method.getName()));
            }
        }
        CHECK.holds("the methods are " + got, got.equals(want));
    }

    private static void theClassesInside() {
        Class<?>[] inside = SafeParts.class.getDeclaredClasses();
        CHECK.holds("at most twelve classes", inside.length < 12);
        for (Class<?> c : inside) {
            CHECK.holds(c + " is static", Modifier.isStatic(c.getModifiers()));
            CHECK.holds(c + " is not public", !Modifier.isPublic(c.getModifiers()));
            CHECK.holds(c + " has at most twenty fields", c.getDeclaredFields().length <= 20);
            CHECK.due(c + ": classes inside", c.getDeclaredClasses().length, 0);
            for (Method method : c.getDeclaredMethods()) {
                CHECK.holds(method + " has at most seven parameters", method.getParameterCount() <= 7);
            }
        }
    }

    private static void theText(String text) {
        for (int k = 0; k < text.length(); k++) {
            CHECK.holds("sign " + k + " is plain", text.charAt(k) < 127);
        }
        String code = withoutComments(text);
        for (String word : FORBIDDEN) {
            CHECK.holds("the code has no " + word, !Pattern.compile(word).matcher(code).find());
        }
        nothingIsMadeByCalls(code);
    }

    /** Every member that the document writes out stands in the class in the same words. */
    private static void theDocumentsFace(String words) {
        Matcher face = Pattern.compile("```java public final class SafeParts \\{ (.*?) \\} ```").matcher(Document.text());
        boolean found = face.find();
        CHECK.holds("the document has a face", found || Document.text().isEmpty());
        if (!found) {
            return;
        }
        String[] members = face.group(1).split("; ?");
        CHECK.due("members of the document's face", members.length, 2 + METHODS.length);
        for (String member : members) {
            CHECK.holds("the class has " + member, words.contains(member + (member.endsWith(")") ? " {" : ";")));
        }
    }

    /** "Ahead of the calls .. the interface says: ---- ..": each call stands behind its heading, ahead of the next. */
    private static void theCallsByTheirHeadings(String text) {
        Matcher heading = Pattern.compile("Ahead of the calls ([^:]*) the interface says: (---- [a-z ]+)\\.").matcher(Document.text());
        int headings = 0;
        while (heading.find()) {
            headings++;
            int from = text.indexOf("// " + heading.group(2) + "\n");
            int to = text.indexOf("// ----", from + 1);
            for (String name : heading.group(1).split("[`, ]+")) {
                int at = text.indexOf("public int " + name + "(");
                CHECK.holds(name + " stands behind " + heading.group(2), name.isEmpty() || from >= 0 && from < at && at < to);
            }
        }
        CHECK.holds("four headings", headings == 4 || Document.text().isEmpty());
    }

    /** From a line that opens a method to the one that closes it, by how far they stand from the edge. */
    private static void theMethodsAreShort(String text) {
        Matcher method = Pattern.compile("(?m)^((?:    ){1,2})(?! )[^/*\n]*\\) \\{\n((?:.*\n)*?)\\1\\}\n").matcher(text);
        int methods = 0;
        while (method.find()) {
            methods++;
            long lines = method.group(2).lines().count();
            CHECK.holds(lines + " lines: " + method.group().lines().findFirst().orElse(""), lines <= MOST_LINES);
        }
        CHECK.holds("methods were found", methods > METHODS.length);
    }

    private static String withoutComments(String text) {
        return text.replaceAll("(?s)/\\*.*?\\*/", "").replaceAll("//[^\n]*", "");
    }

    /** Every 'new' stands in a field's initialiser or in a constructor, so that no call makes an object. */
    private static void nothingIsMadeByCalls(String code) {
        List<String> outside = new ArrayList<>();
        boolean isConstructor = false;
        for (String line : code.split("\n")) {
            if (line.endsWith(") {") && !line.matches("\\s*(if|for|while|switch|\\}).*")) {
                isConstructor = line.matches("\\s*(public SafeParts|World)\\(\\) \\{");
            }
            if (line.contains("new ") && !line.matches("\\s*final .*=.*") && !isConstructor) {
                outside.add(line.trim());
            }
        }
        CHECK.holds("made by calls: " + outside, outside.isEmpty());
    }
}
