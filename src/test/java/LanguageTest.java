import java.io.IOException;
import java.lang.reflect.Member;
import java.lang.reflect.Modifier;
import java.nio.file.Files;
import java.nio.file.Path;
import java.util.ArrayList;
import java.util.Arrays;
import java.util.Collections;
import java.util.List;
import java.util.regex.Matcher;
import java.util.regex.Pattern;

/** Looks for what ../shared/LANGUAGE.md rules out and can be told by its words. It is no proof, but it tells slips at once. */
public final class LanguageTest {
    private static final String[][] RULED_OUT = {
        {"the package line", "\\bpackage\\b"},
        {"rule 2, lambdas and method references", "::|^(?!.*\\b(case|default)\\b).*->"},
        {"rule 3 and 4, boxes that are not listed", "\\b(Float|Double|Character|Short|Byte|Boolean|StrictMath|BigInteger|Object)\\b"},
        {"rule 4, imports", "\\bimport\\s+(?!java\\.util\\.(ArrayList|List|Iterator|Arrays|NoSuchElementException|\\*);)"},
        {"rule 4, System", "\\bSystem\\.(?!arraycopy\\b)"},
        {"rule 4, functions that throw", "\\w+Exact\\("},
        {"rule 5, static initialisers", "\\bstatic\\s*\\{"},
        {"rule 5, static state", "^\\s*(private |protected )?static (?!final|class|abstract|interface|enum|record)[^(]*(=.*)?;"},
        {"rule 6, what is not to be written", "\\b(finally|synchronized|assert|getMessage|printStackTrace|Throwable)\\b"},
        {"rule 6, what the machine throws",
            "\\b(ArrayIndexOutOfBounds|StringIndexOutOfBounds|NullPointer|ClassCast|NegativeArraySize|ArrayStore)Exception\\b"},
        {"rule 6, exceptions of one's own", "extends\\s+\\w*Exception\\b"},
        {"rule 6, equals, hashCode and toString of one's own", "\\b(boolean equals|int hashCode|String toString)\\s*\\("},
        {"rule 4, names with their package", "(?<!import )\\bjava\\.(?!util\\.(ArrayList|List|Iterator|Arrays|NoSuchElementException)\\b)"},
        {"rule 13, the world outside", "\\b(Thread|Runtime|ProcessBuilder)\\b"},
    };

    private static final String[] FACE = {"BAD_VALUE int", "FULL int", "NONE int", "NOT_POSSIBLE int", "UNKNOWN int", "new()",
        "borrow(int, boolean) int", "build(int, int) int", "clearText() int", "count(int) int", "dispute(int, int) int",
        "distance(int, int, int) float", "ghostsBy(int) int", "hundredths(int, int) int", "keep() int", "key(int, int) int",
        "perform() int", "press(int, int) int", "release(int, int) int", "restore() int", "set(int, int) int",
        "setShift(int, int) int", "setSign(int, char) int", "settle(int, int) int", "stroke(int, int) int",
        "style(int, int) float", "tick(int) int", "type(char) int", "typed(int, int) int", "typist(int, int) int", "undo() int",
        "verdict(int) int"};

    private LanguageTest() {
    }

    private static int occurrences(String text, String pattern) {
        Matcher matcher = Pattern.compile(pattern, Pattern.MULTILINE).matcher(text);
        int n = 0;
        while (matcher.find()) {
            n++;
        }
        return n;
    }

    private static boolean isOpen(Member member) {
        return !member.isSynthetic() && !Modifier.isPrivate(member.getModifiers());
    }

    private static String parameters(Class<?>[] types) {
        List<String> names = new ArrayList<>();
        for (Class<?> type : types) {
            names.add(type.getSimpleName());
        }
        return "(" + String.join(", ", names) + ")";
    }

    /** Rule 1: the face of the document, and nothing beside it that could be seen from outside. */
    private static void face() {
        List<String> found = new ArrayList<>();
        List<String> due = new ArrayList<>(Arrays.asList(FACE));
        for (java.lang.reflect.Field field : BlanketKeys.class.getDeclaredFields()) {
            if (isOpen(field)) {
                found.add(field.getName() + " " + field.getType().getSimpleName());
            }
        }
        for (java.lang.reflect.Constructor<?> constructor : BlanketKeys.class.getDeclaredConstructors()) {
            if (isOpen(constructor)) {
                found.add("new" + parameters(constructor.getParameterTypes()));
            }
        }
        for (java.lang.reflect.Method method : BlanketKeys.class.getDeclaredMethods()) {
            if (!isOpen(method)) {
                String call = method.getName() + "(";
                int namesakes = 0;
                for (String member : FACE) {
                    namesakes += member.startsWith(call) ? 1 : 0;
                }
                Due.is("LANGUAGE.md, rule 1: no private namesake of " + method.getName(), namesakes, 0);
            } else {
                found.add(method.getName() + parameters(method.getParameterTypes()) + " " + method.getReturnType().getSimpleName());
            }
            Due.is("LANGUAGE.md, rule 11: parameters of " + method.getName(), method.getParameterCount() <= 7 ? 1 : 0, 1);
        }
        Collections.sort(found);
        Collections.sort(due);
        for (String member : found) {
            Due.is("LANGUAGE.md, rule 1: is of the face, " + member, due.contains(member) ? 1 : 0, 1);
        }
        for (String member : due) {
            Due.is("LANGUAGE.md, rule 1: stands, " + member, found.contains(member) ? 1 : 0, 1);
        }
        int modifiers = BlanketKeys.class.getModifiers();
        Due.is("LANGUAGE.md, rule 1: public and final", Modifier.isPublic(modifiers) && Modifier.isFinal(modifiers) ? 1 : 0, 1);
    }

    public static void main(String[] args) throws IOException {
        String source = Files.readString(Path.of("src/main/java/BlanketKeys.java"));
        String code = source.replaceAll("(?s)/\\*.*?\\*/", "").replaceAll("//[^\n]*", "");
        for (String[] words : RULED_OUT) {
            Due.is("LANGUAGE.md, " + words[0], occurrences(code, words[1]), 0);
        }
        face();
        Due.tell();
    }
}
