import java.io.IOException;
import java.nio.file.Files;
import java.nio.file.Path;
import java.util.regex.Matcher;
import java.util.regex.Pattern;

/** Looks for words in the program that ../shared/LANGUAGE.md rules out. It is no proof, but it tells slips at once. */
public final class LanguageTest {
    private static final String[] RULED_OUT = {"throw", "catch", "try", "finally", "assert", "synchronized", "import (?!java\\.util\\.Arrays;)",
        "->", "::", "\\bFloat\\.", "\\bDouble\\.", "\\bCharacter\\.", "\\bString\\.", "Exact\\(", "\\bNaN\\b", "static \\{", "\\bvar\\b",
        "\\bdouble\\b", "\\bprotected\\b", "hashCode", "toString", "System\\.(?!arraycopy)", "Math\\.(?!min|max|abs|floorMod)", "[^\\x00-\\x7f]"};

    private LanguageTest() {
    }

    private static int occurrences(String text, String pattern) {
        Matcher matcher = Pattern.compile(pattern).matcher(text);
        int n = 0;
        while (matcher.find()) {
            n++;
        }
        return n;
    }

    public static void main(String[] args) throws IOException {
        String source = Files.readString(Path.of("src/main/java/BlanketKeys.java"));
        String code = source.replaceAll("(?s)/\\*.*?\\*/", "").replaceAll("//[^\n]*", "");
        for (String word : RULED_OUT) {
            boolean isWord = word.matches("[a-z]+");
            Due.is("LANGUAGE.md: " + word, occurrences(code, isWord ? "\\b" + word + "\\b" : word), 0);
        }
        Due.is("LANGUAGE.md, rule 1: 5 constants, class, constructor, 26 methods", occurrences(code, "\\bpublic\\b"), 5 + 1 + 1 + 26);
        int classes = occurrences(code, "\\bclass\\b");
        Due.is("LANGUAGE.md, rule 11: at most twelve classes", classes <= 12 ? 1 : 0, 1);
        for (java.lang.reflect.Method method : BlanketKeys.class.getDeclaredMethods()) {
            int modifiers = method.getModifiers();
            boolean isOpen = java.lang.reflect.Modifier.isPublic(modifiers) || java.lang.reflect.Modifier.isPrivate(modifiers);
            Due.is("LANGUAGE.md, rule 1: " + method.getName(), isOpen ? 1 : 0, 1);
        }
        Due.tell();
    }
}
