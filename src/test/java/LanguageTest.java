import java.io.IOException;
import java.lang.reflect.Constructor;
import java.lang.reflect.Field;
import java.lang.reflect.Method;
import java.lang.reflect.Modifier;
import java.nio.file.Files;
import java.nio.file.Path;
import java.util.Set;
import java.util.TreeSet;
import java.util.regex.Pattern;

/** The public face, and the rules of LANGUAGE.md that can be looked at by a program. */
public final class LanguageTest {
    private static final Check CHECK = new Check();
    private static final Path SOURCE = Path.of("src/main/java/IdeaWorks.java");
    private static final String[] FACE = {
        "hand(int)", "kin(int,int,boolean)", "idea(int,int,int,int)", "team(int,int)", "set(int,int)", "like(int,int)",
        "family(int)", "head(int)", "share(int)", "judge(int,boolean)", "may(int,int)", "judgeOf(int,int)",
        "decide(int,boolean,boolean,boolean)", "days(int)", "bench(int,int,int)", "measure(int,int,boolean,int)",
        "saved(int,int,int)", "harm(int,int)", "worth(int)", "rule(int,int,int,int)", "ruleOf(int)", "work(int,int)",
        "ledBack(int)", "reopen(int)", "other(int,int,int)", "coins(int,int)", "ideaOf(int,int)", "count(int)"};
    private static final String[] NOT_ALLOWED = {"\\bthrow\\b", "\\bthrows\\b", "\\btry\\b", "\\bcatch\\b",
        "\\bsynchronized\\b", "\\bassert\\b", "\\bpackage\\b", "\\bimport\\b", "->", "::", "Exact\\b", "\\bwhile \\(true\\)",
        "for \\(;;\\)", "\\bSystem\\.(?!arraycopy)", "\\bThread\\b", "\\bstatic \\{", "\\bprotected\\b"};

    public static void main(String[] args) throws IOException {
        faceIsTheDocuments();
        membersAreHidden();
        namesAreNotTwice();
        sourceKeepsToTheRules();
        CHECK.end("LanguageTest");
    }

    private static void holds(String what, boolean so) {
        CHECK.due(what, so ? 1 : 0, 1);
    }

    private static String told(Method m) {
        StringBuilder text = new StringBuilder(m.getName()).append('(');
        for (Class<?> type : m.getParameterTypes()) {
            text.append(text.charAt(text.length() - 1) == '(' ? "" : ",").append(type.getSimpleName());
        }
        return text.append(')').toString();
    }

    private static void faceIsTheDocuments() {
        Set<String> found = new TreeSet<>();
        for (Method m : IdeaWorks.class.getDeclaredMethods()) {
            if (Modifier.isPublic(m.getModifiers())) {
                found.add(told(m));
                holds(m + " answers int", m.getReturnType() == int.class);
                holds(m + " is of an object", !Modifier.isStatic(m.getModifiers()));
            }
        }
        holds("the face: " + found, found.equals(new TreeSet<>(Set.of(FACE))));
        int modifiers = IdeaWorks.class.getModifiers();
        holds("public and final", Modifier.isPublic(modifiers) && Modifier.isFinal(modifiers));
        Constructor<?>[] made = IdeaWorks.class.getDeclaredConstructors();
        holds("one constructor", made.length == 1 && made[0].getParameterCount() == 0 && Modifier.isPublic(made[0].getModifiers()));
    }

    private static void membersAreHidden() {
        for (Method m : IdeaWorks.class.getDeclaredMethods()) {
            holds(m + " is public or private", Modifier.isPublic(m.getModifiers()) || Modifier.isPrivate(m.getModifiers()));
        }
        for (Field f : IdeaWorks.class.getDeclaredFields()) {
            holds(f + " is private", Modifier.isPrivate(f.getModifiers()));
        }
        for (Class<?> c : IdeaWorks.class.getDeclaredClasses()) {
            holds(c + " is static", Modifier.isStatic(c.getModifiers()) && !Modifier.isPublic(c.getModifiers()));
            staticsAreFinal(c);
        }
        staticsAreFinal(IdeaWorks.class);
        holds("some twelve classes", IdeaWorks.class.getDeclaredClasses().length <= 11);
    }

    private static void staticsAreFinal(Class<?> c) {
        int own = 0;
        for (Field f : c.getDeclaredFields()) {
            boolean isStatic = Modifier.isStatic(f.getModifiers());
            own += isStatic ? 0 : 1;
            holds(f + " is final if static", !isStatic || Modifier.isFinal(f.getModifiers()));
        }
        holds(c + " has some twenty fields", own <= 20);
    }

    private static void namesAreNotTwice() {
        Set<String> face = new TreeSet<>();
        for (String call : FACE) {
            face.add(call.substring(0, call.indexOf('(')));
        }
        for (Method m : IdeaWorks.class.getDeclaredMethods()) {
            holds(m + " has a name of its own", Modifier.isPublic(m.getModifiers()) || !face.contains(m.getName()));
            holds(m + " takes seven at most", m.getParameterCount() <= 7);
        }
        for (Class<?> c : IdeaWorks.class.getDeclaredClasses()) {
            for (Method m : c.getDeclaredMethods()) {
                holds(m + " has a name of its own", !face.contains(m.getName()));
                holds(m + " takes seven at most", m.getParameterCount() <= 7);
            }
        }
    }

    private static void sourceKeepsToTheRules() throws IOException {
        String source = Files.readString(SOURCE).replaceAll("(?s)/\\*.*?\\*/", "").replaceAll("//.*", "");
        for (String word : NOT_ALLOWED) {
            holds("no " + word, !Pattern.compile(word).matcher(source).find());
        }
        holds("signs 1 to 127", source.chars().allMatch(c -> c >= 1 && c <= 127));
    }
}
