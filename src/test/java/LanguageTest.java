import java.lang.reflect.Constructor;
import java.lang.reflect.Field;
import java.lang.reflect.Method;
import java.lang.reflect.Modifier;
import java.nio.file.Files;
import java.nio.file.Path;
import java.util.Arrays;
import java.util.List;
import java.util.Set;
import java.util.TreeSet;
import java.util.regex.Matcher;
import java.util.regex.Pattern;

/** The face of the document, and those rules of LANGUAGE.md that can be seen from the text or the compiled class. */
public final class LanguageTest {
    private static final String[] FACE = {
        "member(int,int)", "as(int,int)", "present(int,boolean)", "of(int,int)", "time(int)", "ask(int,int)", "withdraw(int,int)", "key(int)",
        "noKeys()", "listed(int,boolean)", "place(int,int)", "wait(int)", "fits(int,boolean)", "begin()", "cut()", "tick(int)", "yield()",
        "floor(int)", "limit(int,int)", "vote()", "say(int,int)", "votes(int)", "close(int)", "hands(int,int,int,int)", "apart()",
        "uneven(boolean)", "minutes(int,int)", "right(int,int)", "sum(int,int)", "sheet(int,int,int)", "put(int,int,int)",
        "copy(int,int,int,int,int)", "read(int)", "told(int)",
    };
    private static final Check check = new Check();

    public static void main(String[] args) throws Exception {
        theFace();
        theFaceAsWritten();
        theClassesInside();
        theText();
        check.end();
    }

    private static String signature(Method m) {
        StringBuilder text = new StringBuilder(m.getName()).append('(');
        for (Class<?> type : m.getParameterTypes()) {
            text.append(text.charAt(text.length() - 1) == '(' ? "" : ",").append(type.getName());
        }
        return text.append(')').toString();
    }

    private static void theFace() {
        check.holds("public and final", Modifier.isPublic(SpeakHall.class.getModifiers()) && Modifier.isFinal(SpeakHall.class.getModifiers()));
        Set<String> seen = new TreeSet<>();
        Set<String> names = new TreeSet<>();
        for (Method m : SpeakHall.class.getDeclaredMethods()) {
            if (!Modifier.isPrivate(m.getModifiers())) {
                seen.add(signature(m));
                names.add(m.getName());
                check.holds(m.getName() + " answers an int", m.getReturnType() == int.class && Modifier.isPublic(m.getModifiers()));
            }
        }
        check.holds("the face is " + seen, seen.equals(new TreeSet<>(Arrays.asList(FACE))));
        for (Constructor<?> c : SpeakHall.class.getDeclaredConstructors()) {
            check.holds("one public constructor without arguments", Modifier.isPublic(c.getModifiers()) && c.getParameterCount() == 0);
        }
        for (Class<?> inside : SpeakHall.class.getDeclaredClasses()) {
            for (Method m : inside.getDeclaredMethods()) {
                check.holds(inside.getName() + "." + m.getName() + " has a name of its own", !names.contains(m.getName()));
            }
        }
        for (Method m : SpeakHall.class.getDeclaredMethods()) {
            check.holds(m.getName() + " has a name of its own", !Modifier.isPrivate(m.getModifiers()) || !names.contains(m.getName()));
        }
    }

    /** The document's own lines of the face: each stands in the class by its very words, in its order, under its heading. */
    private static void theFaceAsWritten() throws Exception {
        Path document = Path.of("../shared/DOC.md");
        if (!Files.isReadable(document)) {
            System.out.println("without " + document + " the face was not compared with its words");
            return;
        }
        String words = Files.readString(document);
        String whole = Files.readString(Path.of("src/main/java/SpeakHall.java"));
        String face = words.substring(words.indexOf("public final class SpeakHall {"), words.indexOf("## Terms"));
        List<String> lines = face.lines().map(String::trim).filter(line -> line.endsWith(";")).map(line -> line.replace(";", " {")).toList();
        check.due("lines of the document's face", lines.size(), FACE.length + 1);
        int from = 0;
        for (String line : lines) {
            int at = whole.indexOf("    " + line + "\n");
            check.holds("as the document has it, and in its order: " + line, at > from);
            from = Math.max(from, at);
        }
        Matcher heading = Pattern.compile("Ahead of the calls `(\\w+)`.*`(\\w+)` the interface says: (---- .*)\\.").matcher(words);
        int headings = 0;
        while (heading.find()) {
            headings++;
            int says = whole.indexOf("    // " + heading.group(3) + "\n");
            int first = whole.indexOf("public int " + heading.group(1) + "(");
            check.holds(heading.group(3) + " stands right ahead of " + heading.group(1), says > 0 && says < first && whole.indexOf("public", says) == first);
        }
        check.due("headings of the document", headings, 6);
    }

    private static void theClassesInside() {
        Class<?>[] inside = SpeakHall.class.getDeclaredClasses();
        check.holds("at most twelve classes", inside.length + 1 <= 12);
        for (Class<?> c : inside) {
            check.holds(c.getName() + " is static and not public", Modifier.isStatic(c.getModifiers()) && !Modifier.isPublic(c.getModifiers()));
            fieldsOf(c);
        }
        fieldsOf(SpeakHall.class);
        for (Field f : SpeakHall.class.getDeclaredFields()) {
            check.holds(f.getName() + " is private", Modifier.isPrivate(f.getModifiers()));
        }
    }

    private static void fieldsOf(Class<?> c) {
        int own = 0;
        for (Field f : c.getDeclaredFields()) {
            boolean constant = Modifier.isStatic(f.getModifiers());
            check.holds(f.getName() + " is final if static", !constant || Modifier.isFinal(f.getModifiers()));
            own += constant ? 0 : 1;
        }
        check.holds(c.getName() + " has at most twenty fields", own <= 20);
    }

    private static void theText() throws Exception {
        String whole = Files.readString(Path.of("src/main/java/SpeakHall.java"));
        check.holds("plain signs alone", whole.chars().allMatch(c -> c == '\n' || c >= 32 && c < 127));
        String code = whole.replaceAll("(?s)/\\*.*?\\*/", "").replaceAll("//[^\n]*", "");
        String[] never = {"throw", "throws", "try", "catch", "finally", "synchronized", "assert", "import", "package", "protected", "volatile",
            "while", "Exact", "System", "Object"};
        for (String word : never) {
            check.holds("no " + word, !Pattern.compile("\\b" + word + "\\b").matcher(code).find());
        }
        check.holds("no lambda, no method reference, no string", !code.contains("->") && !code.contains("::") && !code.contains("\""));
        rowsAreMadeOnce(code);
        methodsAreShort(code);
    }

    /** Every 'new' stands in a field's line or in the constructor of the hall. */
    private static void rowsAreMadeOnce(String code) {
        int from = code.indexOf("public SpeakHall()");
        int to = code.indexOf("public int member(");
        String rest = code.substring(0, from) + code.substring(to);
        for (String line : rest.split("\n")) {
            check.holds("made in a field's line: " + line.trim(), !line.matches(".*\\bnew\\b.*") || line.trim().startsWith("private final"));
        }
    }

    private static void methodsAreShort(String code) {
        Matcher start = Pattern.compile("(?m)^( +)(?:public |private |static |final )*[\\w\\[\\]]+ \\w+\\([^;]*?\\{$").matcher(code);
        int methods = 0;
        while (start.find()) {
            if (start.group().contains(" class ") || start.group().contains("else")) {
                continue;
            }
            methods++;
            int end = code.indexOf("\n" + start.group(1) + "}\n", start.start());
            long lines = code.substring(start.start(), end).lines().count() + 1;
            check.holds(start.group().trim() + " has " + lines + " lines", lines <= 60);
        }
        check.holds("methods were seen: " + methods, methods > 100);
    }
}
