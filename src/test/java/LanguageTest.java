import java.io.IOException;
import java.lang.reflect.Field;
import java.lang.reflect.Method;
import java.lang.reflect.Modifier;
import java.nio.file.Files;
import java.nio.file.Path;
import java.util.Set;
import java.util.TreeSet;
import java.util.regex.Matcher;
import java.util.regex.Pattern;

/** Rules of LANGUAGE.md that can be seen from the source or the compiled class. */
public final class LanguageTest {
    private static final Check CHECK = new Check("LanguageTest");
    private static final String FACE = "int feed(int) int end(int) int text() int fault() int rule(int) "
        + "int village(int,int) int body(int,int) int grant(int,int,int) int alter(int,int,int) int set(int,int) "
        + "int find(int,int,int,int) int hire(int) int nights(int) int runs(int,int) int ahead(int,int,int) "
        + "int settled(int) int dear(int) int mild(int) int watch(int,int) int place(int,int,int) int kin(int,int) "
        + "int late(int) int order(int,int) long mean(int,int,int) long luck(int,int,int,int) int see(int,int,int) "
        + "int forget(int) int kinds(int) int fathers(int) int look(int,int) int drift(int,int,int) int keep(int) "
        + "int back(int) int sheet(int,int,int) int lay(int,int,int) int read(int,int,int,int) int torn() "
        + "int count(int)";

    public static void main(String[] args) throws IOException {
        face();
        insides();
        source(Files.readString(Path.of("src/main/java/ProofFine.java")));
        CHECK.end();
    }

    private static void face() {
        Set<String> shown = new TreeSet<>();
        Set<String> publicNames = new TreeSet<>();
        for (Method m : ProofFine.class.getDeclaredMethods()) {
            if (!Modifier.isPrivate(m.getModifiers())) {
                StringBuilder s = new StringBuilder(m.getReturnType() + " " + m.getName() + "(");
                for (Class<?> p : m.getParameterTypes()) {
                    s.append(s.charAt(s.length() - 1) == '(' ? "" : ",").append(p);
                }
                shown.add(s + ")");
                publicNames.add(m.getName());
                CHECK.holds(m.getName() + " is public", Modifier.isPublic(m.getModifiers()));
                CHECK.holds(m.getName() + " is no static one", !Modifier.isStatic(m.getModifiers()));
            }
        }
        Set<String> due = new TreeSet<>(Set.of(FACE.split(" (?=int |long )")));
        CHECK.holds("the face is " + due + ", shown is " + shown, due.equals(shown));
        for (Method m : ProofFine.class.getDeclaredMethods()) {
            boolean hidden = Modifier.isPrivate(m.getModifiers());
            CHECK.holds("no private " + m.getName(), !hidden || !publicNames.contains(m.getName()));
        }
        Set<String> constants = new TreeSet<>();
        for (Field f : ProofFine.class.getDeclaredFields()) {
            if (!Modifier.isPrivate(f.getModifiers())) {
                constants.add(f.getName());
                CHECK.due(f.getName() + " is", f.getModifiers(), Modifier.PUBLIC | Modifier.STATIC | Modifier.FINAL);
            }
        }
        CHECK.holds("the constants", constants.equals(Set.of("BAD", "STATE", "FULL", "NONE")));
        CHECK.holds("public and final", ProofFine.class.getModifiers() == (Modifier.PUBLIC | Modifier.FINAL));
        CHECK.due("constructors", ProofFine.class.getDeclaredConstructors().length, 1);
    }

    private static void insides() {
        CHECK.holds("at most some twelve classes", ProofFine.class.getDeclaredClasses().length <= 11);
        checkFields(ProofFine.class);
        for (Class<?> inside : ProofFine.class.getDeclaredClasses()) {
            checkFields(inside);
            int how = inside.getModifiers();
            CHECK.holds(inside + " is static", Modifier.isStatic(how));
            CHECK.holds(inside + " is hidden", !Modifier.isPublic(how) && !Modifier.isProtected(how));
        }
    }

    private static void checkFields(Class<?> c) {
        int many = 0;
        for (Field f : c.getDeclaredFields()) {
            boolean shared = Modifier.isStatic(f.getModifiers());
            many += shared ? 0 : 1;
            CHECK.holds(f + " is final", !shared || Modifier.isFinal(f.getModifiers()));
        }
        CHECK.holds(c + " has some twenty fields at most", many <= 20);
        for (Method m : c.getDeclaredMethods()) {
            CHECK.holds(m + " takes seven at most", m.getParameterCount() <= 7);
        }
    }

    private static void source(String text) {
        String code = text.replaceAll("(?s)/\\*.*?\\*/", "").replaceAll("//[^\n]*", "");
        String[] banned = {"\\bthrow\\b", "\\bthrows\\b", "\\btry\\b", "\\bcatch\\b", "\\bsynchronized\\b",
            "\\bassert\\b", "->", "::", "\\bimport\\b", "\\bpackage\\b", "Exact\\b", "\\bprotected\\b",
            "static\\s*\\{", "\\bThread\\b", "\\bRandom\\b", "\\bhashCode\\b", "\\btoString\\b", "\\bObject\\b",
            "System\\.(?!arraycopy)", "while \\(true\\)", "for \\(;;\\)"};
        for (String word : banned) {
            CHECK.holds("no " + word, !Pattern.compile(word).matcher(code).find());
        }
        for (char c : text.toCharArray()) {
            if (c > 126) {
                CHECK.holds("signs up to 127 alone", false);
            }
        }
        methodLengths(text);
    }

    private static void methodLengths(String text) {
        Matcher head = Pattern.compile("(?m)^( {4}| {8})[a-zA-Z][^;=\n]*\\) \\{\n").matcher(text);
        int many = 0;
        while (head.find()) {
            many++;
            int end = text.indexOf("\n" + head.group(1) + "}\n", head.end() - 1);
            long lines = text.substring(head.start(), end).lines().count();
            boolean isMethod = !head.group().trim().matches("(if|for|while|switch) .*(?s).*");
            CHECK.holds(head.group().trim() + " is short", !isMethod || lines <= 60);
        }
        CHECK.holds("methods were found", many > 60);
    }
}
