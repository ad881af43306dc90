import java.io.IOException;
import java.nio.file.Files;
import java.nio.file.Path;
import java.util.regex.Matcher;
import java.util.regex.Pattern;

/** Rules of LANGUAGE.md that can be seen in the text of the class. Runs in the project's folder. */
public final class LanguageTest {
    private static final Path SOURCE = Path.of("src/main/java/TaughtHours.java");
    private static final String[] FORBIDDEN = {
        "\\bthrow\\b", "\\btry\\b", "\\bcatch\\b", "\\bsynchronized\\b", "\\bassert\\b", "->", "::", "\\bprotected\\b",
        "\\bpackage\\b", "\\w+Exact\\b", "\\bException\\b", "\\bThread\\b", "\\bRandom\\b", "System\\.(?!arraycopy\\b)",
        "Math\\.random", "\\bvar\\b", "\\bhashCode\\b", "\\btoString\\b", "\\bstatic\\s*\\{", "\\bObject\\b", "\\byield\\b"};

    public static void main(String[] args) throws IOException {
        String source = Files.readString(SOURCE);
        for (int i = 0; i < source.length(); i++) Check.holds("sign at " + i, source.charAt(i) < 128);
        String code = source.replaceAll("(?s)/\\*.*?\\*/", "").replaceAll("//[^\n]*", "");
        for (String word : FORBIDDEN) Check.holds("no " + word, !Pattern.compile(word).matcher(code).find());
        imports(code);
        methodLengths(source);
        Check.end();
    }

    private static void imports(String code) {
        Matcher m = Pattern.compile("import ([^;]*);").matcher(code);
        while (m.find()) {
            Check.holds("import " + m.group(1), m.group(1).matches("java\\.util\\.(Arrays|ArrayList|List|Iterator)"));
        }
    }

    private static void methodLengths(String source) {
        String[] lines = source.split("\n");
        for (int i = 0; i < lines.length; i++) {
            Matcher m = Pattern.compile("^( +)[^/*=;]*\\b\\w+\\([^;]*\\) \\{$").matcher(lines[i]);
            if (!m.find() || lines[i].matches(" *(if|for|while|switch|\\} else).*")) continue;
            int end = i;
            while (end < lines.length && !lines[end].equals(m.group(1) + "}")) end++;
            Check.holds("length of" + lines[i], end - i < 60);
        }
    }
}
