import java.io.IOException;
import java.lang.reflect.Constructor;
import java.lang.reflect.Field;
import java.lang.reflect.Method;
import java.lang.reflect.Modifier;
import java.nio.file.Files;
import java.nio.file.Path;
import java.util.ArrayList;
import java.util.HashSet;
import java.util.List;
import java.util.Set;
import java.util.TreeSet;
import java.util.regex.Matcher;
import java.util.regex.Pattern;

/** Some rules of ../shared/LANGUAGE.md that a program can look at: the face, forbidden words, sizes. */
public final class LanguageTest {
    private static final String[] FACE = {
        "long row(int,int,int)", "long set(int,int,int)", "long copy(int,int,int,int,int)", "long drop(int)",
        "long feed(long,int)", "long game()", "int fault()", "long place(int,int)", "long seen(int,int)",
        "long forgets(int)", "long mix(int,int,int)", "long share(int,int)", "long value()", "long reach(int,int)",
        "long best(int,int)", "long answer(int)", "long belief(int,int)", "long seeing(int)", "long fewer(int,int)",
        "long rounds(int)", "long bound(int)", "long mean(int,int)", "long take(int)", "long kind(int)",
        "long as(int,int)", "long ask(int,int)", "int trace(int)", "long count(int)", "int status()"};
    private static final String[] FORBIDDEN = {
        "throw", "throws", "try", "catch", "finally", "synchronized", "assert", "volatile", "native", "protected",
        "->", "::", "System.out", "Exact(", "new Object", "@"};

    private static int wrong = 0;

    private static void due(String rule, boolean holds) {
        if (!holds) {
            wrong++;
            System.out.println(rule);
        }
    }

    private static String told(Method m) {
        StringBuilder out = new StringBuilder(m.getReturnType().getName()).append(' ').append(m.getName()).append('(');
        for (int i = 0; i < m.getParameterCount(); i++) {
            out.append(i == 0 ? "" : ",").append(m.getParameterTypes()[i].getName());
        }
        return out.append(')').toString();
    }

    private static void checkFace() {
        Set<String> open = new TreeSet<>();
        Set<String> names = new HashSet<>();
        for (Method m : HalfGames.class.getDeclaredMethods()) {
            if (!Modifier.isPrivate(m.getModifiers())) {
                due("rule 1: " + m + " is public and no static one",
                        Modifier.isPublic(m.getModifiers()) && !Modifier.isStatic(m.getModifiers()));
                open.add(told(m));
                names.add(m.getName());
            }
        }
        due("rule 1: the methods are those of the document: " + open, open.equals(new TreeSet<>(List.of(FACE))));
        for (Field f : HalfGames.class.getDeclaredFields()) {
            boolean isConstant = f.getName().equals("NONE") || f.getName().equals("NOT");
            due("rule 1: " + f, isConstant == Modifier.isPublic(f.getModifiers())
                    && (isConstant || Modifier.isPrivate(f.getModifiers())));
            due("rule 5: " + f, !Modifier.isStatic(f.getModifiers()) || Modifier.isFinal(f.getModifiers()));
        }
        Constructor<?>[] made = HalfGames.class.getDeclaredConstructors();
        due("rule 1: one public constructor", made.length == 1 && Modifier.isPublic(made[0].getModifiers()));
        due("rule 1: public and final", Modifier.isPublic(HalfGames.class.getModifiers())
                && Modifier.isFinal(HalfGames.class.getModifiers()));
        List<Class<?>> classes = new ArrayList<>(List.of(HalfGames.class.getDeclaredClasses()));
        due("rule 11: at most twelve classes", classes.size() + 1 <= 12);
        classes.add(HalfGames.class);
        for (Class<?> c : classes) {
            checkClass(c, names);
        }
    }

    private static void checkClass(Class<?> c, Set<String> names) {
        int fields = 0;
        for (Field f : c.getDeclaredFields()) {
            fields += Modifier.isStatic(f.getModifiers()) ? 0 : 1;
        }
        due("rule 11: " + c + " has " + fields + " fields", fields <= 20);
        due("rule 2: " + c + " is static", c == HalfGames.class || Modifier.isStatic(c.getModifiers()));
        for (Method m : c.getDeclaredMethods()) {
            due("rule 11: " + m, m.getParameterCount() <= 7);
            due("rule 1: " + m + " bears a public name", c == HalfGames.class && Modifier.isPublic(m.getModifiers())
                    || !names.contains(m.getName()));
        }
    }

    private static void checkSource() throws IOException {
        String source = Files.readString(Path.of("src/main/java/HalfGames.java"));
        String bare = source.replaceAll("(?s)/\\*.*?\\*/", "").replaceAll("//[^\n]*", "");
        for (String word : FORBIDDEN) {
            boolean isName = Character.isLetter(word.charAt(0)) && Character.isLetter(word.charAt(word.length() - 1));
            Pattern p = Pattern.compile(isName ? "\\b" + Pattern.quote(word) + "\\b" : Pattern.quote(word));
            due("rules 2, 4, 6: " + word, !p.matcher(bare).find());
        }
        Matcher imports = Pattern.compile("import ([^;]*);").matcher(bare);
        while (imports.find()) {
            due("rule 4: import " + imports.group(1), imports.group(1).equals("java.util.Arrays"));
        }
        due("no package line", !bare.contains("package "));
        checkLengths(source.split("\n"));
    }

    /** A method here begins on a line that ends in ") {" at its class's indent and ends on a brace at the same. */
    private static void checkLengths(String[] lines) {
        for (int from = 0; from < lines.length; from++) {
            Matcher head = Pattern.compile("^( {4}| {8})[A-Za-z][^=]*\\) \\{$").matcher(lines[from]);
            if (head.find()) {
                int to = from;
                while (to < lines.length && !lines[to].equals(head.group(1) + "}")) {
                    to++;
                }
                due("rule 11: " + lines[from].trim() + " has " + (to - from) + " lines", to - from <= 60);
            }
        }
    }

    public static void main(String[] args) throws IOException {
        checkFace();
        checkSource();
        System.out.println(wrong == 0 ? "the rules that were looked at hold" : wrong + " rules are broken");
        if (wrong != 0) {
            System.exit(1);
        }
    }
}
