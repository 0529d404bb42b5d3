import java.io.IOException;
import java.lang.reflect.Constructor;
import java.lang.reflect.Field;
import java.lang.reflect.Method;
import java.lang.reflect.Modifier;
import java.nio.file.Files;
import java.nio.file.Path;
import java.util.Set;
import java.util.TreeSet;
import java.util.regex.Matcher;
import java.util.regex.Pattern;

/** The public face, and the rules of LANGUAGE.md that can be looked at by a program. */
public final class LanguageTest {
    private static final Check CHECK = new Check();
    private static final Path SOURCE = Path.of("src/main/java/IdeaWorks.java");
    private static final String[] FACE = {
        "hand(int)", "kin(int,int,boolean)", "idea(int,int,int,int)", "team(int,int)", "set(int,int)", "like(int,int)",
        "family(int)", "head(int)", "share(int)", "judge(int,boolean)", "may(int,int)", "judgeOf(int,int)",
        "decide(int,boolean,boolean,boolean)", "days(int)", "bench(int,int,int)", "measure(int,int,boolean,int)",
        "saved(int,int,int)", "harm(int,int)", "worth(int)", "rule(int,int,int,int)", "ruleOf(int)", "work(int,int)",
        "ledBack(int)", "reopen(int)", "other(int,int,int)", "coins(int,int)", "ideaOf(int,int)", "count(int)"};
    private static final String[] NOT_ALLOWED = {"\\bthrow\\b", "\\bthrows\\b", "\\btry\\b", "\\bcatch\\b",
        "\\bsynchronized\\b", "\\bassert\\b", "\\bpackage\\b", "\\bimport\\b", "->", "::", "Exact\\b", "\\bwhile \\(true\\)",
        "for \\(;;\\)", "\\bSystem\\.(?!arraycopy)", "\\bThread\\b", "\\bstatic \\{", "\\bprotected\\b"};
    private static final Set<String> LIBRARY = Set.of("Math.max", "Math.min", "Integer.bitCount", "Long.bitCount");

    public static void main(String[] args) throws IOException {
        faceIsTheDocuments();
        membersAreHidden();
        namesAreNotTwice();
        String source = sourceWithoutComments();
        sourceKeepsToTheRules(source);
        libraryIsTheListed(source);
        methodsAreShort(source);
        nothingIsMadeByACall(source);
        CHECK.end("LanguageTest");
    }

    private static void holds(String what, boolean so) {
        CHECK.due(what, so ? 1 : 0, 1);
    }

    private static String told(Method m) {
        StringBuilder text = new StringBuilder(m.getName()).append('(');
        for (Class<?> type : m.getParameterTypes()) {
            text.append(text.charAt(text.length() - 1) == '(' ? "" : ",").append(type.getSimpleName());
        }
        return text.append(')').toString();
    }

    private static void faceIsTheDocuments() {
        Set<String> found = new TreeSet<>();
        for (Method m : IdeaWorks.class.getDeclaredMethods()) {
            if (Modifier.isPublic(m.getModifiers())) {
                found.add(told(m));
                holds(m + " answers int", m.getReturnType() == int.class);
                holds(m + " is of an object", !Modifier.isStatic(m.getModifiers()));
            }
        }
        holds("the face: " + found, found.equals(new TreeSet<>(Set.of(FACE))));
        int modifiers = IdeaWorks.class.getModifiers();
        holds("public and final", Modifier.isPublic(modifiers) && Modifier.isFinal(modifiers));
        Constructor<?>[] made = IdeaWorks.class.getDeclaredConstructors();
        holds("one constructor", made.length == 1 && made[0].getParameterCount() == 0 && Modifier.isPublic(made[0].getModifiers()));
    }

    private static void membersAreHidden() {
        for (Method m : IdeaWorks.class.getDeclaredMethods()) {
            holds(m + " is public or private", Modifier.isPublic(m.getModifiers()) || Modifier.isPrivate(m.getModifiers()));
        }
        for (Field f : IdeaWorks.class.getDeclaredFields()) {
            holds(f + " is private", Modifier.isPrivate(f.getModifiers()));
        }
        for (Class<?> c : IdeaWorks.class.getDeclaredClasses()) {
            holds(c + " is static", Modifier.isStatic(c.getModifiers()) && !Modifier.isPublic(c.getModifiers()));
            staticsAreFinal(c);
        }
        staticsAreFinal(IdeaWorks.class);
        holds("some twelve classes", IdeaWorks.class.getDeclaredClasses().length <= 11);
    }

    private static void staticsAreFinal(Class<?> c) {
        int own = 0;
        for (Field f : c.getDeclaredFields()) {
            boolean isStatic = Modifier.isStatic(f.getModifiers());
            own += isStatic ? 0 : 1;
            holds(f + " is final if static", !isStatic || Modifier.isFinal(f.getModifiers()));
        }
        holds(c + " has some twenty fields", own <= 20);
    }

    private static void namesAreNotTwice() {
        Set<String> face = new TreeSet<>();
        for (String call : FACE) {
            face.add(call.substring(0, call.indexOf('(')));
        }
        for (Method m : IdeaWorks.class.getDeclaredMethods()) {
            holds(m + " has a name of its own", Modifier.isPublic(m.getModifiers()) || !face.contains(m.getName()));
            holds(m + " takes seven at most", m.getParameterCount() <= 7);
        }
        for (Class<?> c : IdeaWorks.class.getDeclaredClasses()) {
            for (Method m : c.getDeclaredMethods()) {
                holds(m + " has a name of its own", !face.contains(m.getName()));
                holds(m + " takes seven at most", m.getParameterCount() <= 7);
            }
        }
    }

    private static String sourceWithoutComments() throws IOException {
        return Files.readString(SOURCE).replaceAll("(?s)/\\*.*?\\*/", "").replaceAll("//.*", "");
    }

    private static void sourceKeepsToTheRules(String source) {
        for (String word : NOT_ALLOWED) {
            holds("no " + word, !Pattern.compile(word).matcher(source).find());
        }
        holds("signs 1 to 127", source.chars().allMatch(c -> c >= 1 && c <= 127));
    }

    /** Rule 4: whatever is asked of a class by its name is the class's own, or on this list. */
    private static void libraryIsTheListed(String source) {
        Set<String> own = new TreeSet<>();
        for (Class<?> c : IdeaWorks.class.getDeclaredClasses()) {
            own.add(c.getSimpleName());
        }
        Matcher used = Pattern.compile("\\b([A-Z][a-z]\\w*)\\.(\\w+)").matcher(source);
        while (used.find()) {
            holds(used.group() + " may be used", own.contains(used.group(1)) || LIBRARY.contains(used.group()));
        }
    }

    /** Rule 11: some sixty lines; what begins a method ends at the next brace that is as far in. */
    private static void methodsAreShort(String source) {
        Matcher begun = Pattern.compile("(?m)^( ++)(?!(?:if|for|while|switch|else)\\b)[\\w \\[\\]]+\\([^()]*\\) \\{$").matcher(source);
        int found = 0;
        while (begun.find()) {
            int end = source.indexOf("\n" + begun.group(1) + "}", begun.end());
            holds(begun.group().trim() + " is short", end >= 0 && source.substring(begun.start(), end).lines().count() <= 60);
            found++;
        }
        holds("every method was looked at: " + found, found == ownMethods());
    }

    private static int ownMethods() {
        // Constructors that are written down: the public one, and the one of Families.
        int many = 2 + IdeaWorks.class.getDeclaredMethods().length;
        for (Class<?> c : IdeaWorks.class.getDeclaredClasses()) {
            many += c.getDeclaredMethods().length;
        }
        return many;
    }

    /** Rule 12 and the one room: objects and arrays are made with the works, never by a call. */
    private static void nothingIsMadeByACall(String source) {
        int from = source.indexOf("public IdeaWorks() {");
        String rest = source.substring(0, from) + source.substring(source.indexOf("\n    }", from));
        for (String line : rest.split("\n")) {
            boolean makes = line.contains("new ") || line.contains("= {") || line.contains(".clone()");
            holds("a field's first value, or nothing new: " + line.trim(), !makes || line.matches(" +(private )?(static )?final .*;"));
        }
        holds("no text", !source.contains("\"") && !source.contains("String"));
    }
}
