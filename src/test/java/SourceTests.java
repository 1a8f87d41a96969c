import java.io.IOException;
import java.io.UncheckedIOException;
import java.nio.charset.StandardCharsets;
import java.nio.file.Files;
import java.nio.file.Path;
import java.util.regex.Matcher;
import java.util.regex.Pattern;

/** What of ../shared/LANGUAGE.md a plain look at the source can tell. */
final class SourceTests {
    private SourceTests() {
    }

    static void run(Tally t, Path main) {
        String source = withoutComments(read(main));
        t.test("the language: nothing that it rules out", () -> rulesOut(source));
        t.test("the language: exceptions by rule 6", () -> throwsByRule(source));
        t.test("the language: one file, plain signs", () -> plainSigns(read(main)));
        t.test("the language: short methods, short lines", () -> shortMethods(read(main)));
    }

    private static String read(Path main) {
        try {
            return Files.readString(main, StandardCharsets.UTF_8);
        } catch (IOException e) {
            throw new UncheckedIOException(e);
        }
    }

    private static String withoutComments(String source) {
        return source.replaceAll("(?s)/\\*.*?\\*/", "").replaceAll("//[^\n]*", "");
    }

    private static void rulesOut(String source) {
        String[] patterns = {"->", "::", "\\bimport\\b", "\\bpackage\\b", "\\bsynchronized\\b",
            "\\bassert\\b", "\\bfinally\\b", "\\bcatch\\b", "\\bsuper\\b", "\\bvar\\b", "\"\\s*\\+",
            "\\+\\s*\"", "\\bequals\\b", "\\bhashCode\\b", "\\btoString\\b", "Exact\\b",
            "\\bprotected\\b", "\\bSystem\\.(?!arraycopy\\b)", "\\bThread\\b", "\\bvolatile\\b",
            "\\bnative\\b", "\\bextends\\b", "\\b(double|float)\\b",
            "\\bstatic\\s+(?!final\\b|class\\b)\\w+(\\[\\])*\\s+\\w+\\s*[=;]", "\\bstatic\\s*\\{"};
        for (String pattern : patterns) {
            Matcher found = Pattern.compile(pattern).matcher(source);
            if (found.find()) {
                throw new AssertionError(pattern + " at " + source.substring(found.start(),
                    Math.min(source.length(), found.start() + 40)));
            }
        }
    }

    private static void throwsByRule(String source) {
        Matcher thrown = Pattern.compile("\\bthrow\\b[^;]*;").matcher(source);
        Pattern due = Pattern.compile("throw new (IllegalState|IllegalArgument|IndexOutOfBounds)"
            + "Exception\\((\"[ -~]*\")?\\);");
        while (thrown.find()) {
            if (!due.matcher(thrown.group()).matches()) {
                throw new AssertionError(thrown.group());
            }
        }
    }

    private static void plainSigns(String source) {
        for (int i = 0; i < source.length(); i++) {
            char c = source.charAt(i);
            if (c != '\n' && (c < ' ' || c > '~')) {
                throw new AssertionError("sign " + (int) c + " at " + i);
            }
        }
    }

    private static void shortMethods(String source) {
        int opened = 0;
        int lines = 0;
        for (String line : source.split("\n")) {
            lines++;
            Tally.is(line, 0, line.length() > 100 ? 1 : 0);
            if (line.matches(" {4,8}[\\w\\[\\]. ]+\\([^;]*\\{|( {8}){1,2}throws .*\\{")) {
                opened = lines;
            }
            if (line.matches(" {4,8}\\}")) {
                Tally.is("lines up to " + lines, 0,
                    opened > 0 && lines - opened > 60 ? 1 : 0);
                opened = 0;
            }
        }
    }
}
