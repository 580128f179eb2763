import java.io.IOException;
import java.nio.file.Files;
import java.nio.file.Path;
import java.util.List;
import java.util.regex.Matcher;
import java.util.regex.Pattern;

/** Those rules of ../shared/LANGUAGE.md that the text of the source shows. */
public final class LanguageTest {
    private static final Path SOURCE = Path.of("src/main/java/RankDesk.java");
    private static final Pattern METHOD = Pattern.compile("^( {4}| {8})(?! |return|throw|else|if|for|switch)"
            + "[\\w\\[\\] ]*?(\\w+)\\(([^()]*)\\)[^;=]*\\{$");
    private static final Pattern CLASS = Pattern.compile("^ *(?:public|private)? ?(?:static )?final class (\\w+) \\{$");

    private static String code() throws IOException {
        String text = Files.readString(SOURCE);
        text = text.replaceAll("(?s)/\\*.*?\\*/", "").replaceAll("//[^\n]*", "");
        // A header that goes on in the next line becomes one line.
        return text.replaceAll("\\)\n +throws", ") throws");
    }

    private static void forbiddenWords(String code) {
        String[] forbidden = {"\\btry\\b", "\\bcatch\\b", "\\bfinally\\b", "\\bsynchronized\\b", "\\bassert\\b",
            "\\bwhile\\b", "\\bdo\\b", "\\bpackage\\b", "\\binstanceof\\b", "->", "::", "Exact\\b", "\\bSystem\\b",
            "\\bThread\\b", "\\bRandom\\b", "\\bprotected\\b", "static \\{", "\"\\s*\\+", "\\+\\s*\"", "\\bObject\\b",
            "\\bhashCode\\b", "\\btoString\\b", "\\bObjects\\b", "\\bStream\\b", "\\bclone\\b", "[^\\x00-\\x7f]"};
        for (String word : forbidden) {
            Matcher matcher = Pattern.compile(word).matcher(code);
            Check.same("the source's use of " + word, matcher.find() ? matcher.group() : "none", "none");
        }
        Matcher imports = Pattern.compile("import ([^;]+);").matcher(code);
        while (imports.find()) {
            Check.same("import", imports.group(1), "java.util.NoSuchElementException");
        }
        Matcher library = Pattern.compile("\\b(?:Math|Integer)\\.(\\w+)").matcher(code);
        while (library.find()) {
            Check.isTrue("the library's " + library.group(),
                    List.of("abs", "min", "max", "floorMod", "bitCount").contains(library.group(1)));
        }
    }

    private static void staticFields(String code) {
        for (String line : code.split("\n")) {
            if (line.contains("static") && line.contains("=") && line.trim().endsWith(";") && !line.contains("(")) {
                Check.isTrue("final is " + line.trim(), line.contains(" final "));
            }
        }
    }

    /** A new object is made in constructors alone, so that no call costs room but for its exception. */
    private static void newObjects(String[] lines) {
        String method = "";
        String owner = "";
        for (String line : lines) {
            Matcher ofClass = CLASS.matcher(line);
            Matcher ofMethod = METHOD.matcher(line);
            if (ofClass.find()) {
                owner = ofClass.group(1);
            } else if (ofMethod.find()) {
                method = ofMethod.group(2);
            }
            if (line.matches(".*\\bnew\\b.*") && !line.contains("throw new")) {
                Check.same("a new object in " + line.trim(), method, owner);
            }
            if (line.contains("throw new")) {
                Check.isTrue("no throw in the constructor of " + owner, !method.equals(owner));
                Check.isTrue("a written text: " + line.trim(),
                        line.matches(".*throw new \\w+Exception\\(\"[^\"]*\"\\);"));
            }
        }
    }

    private static void sizes(String[] lines) {
        int classes = 0;
        int methods = 0;
        for (int i = 0; i < lines.length; i++) {
            Matcher matcher = METHOD.matcher(lines[i]);
            if (CLASS.matcher(lines[i]).find()) {
                classes++;
            } else if (matcher.find()) {
                methods++;
                String parameters = matcher.group(3).trim();
                int count = parameters.isEmpty() ? 0 : parameters.split(",").length;
                Check.isTrue(matcher.group(2) + " has at most 7 parameters", count <= 7);
                int end = i;
                while (end < lines.length && !lines[end].equals(matcher.group(1) + "}")) {
                    end++;
                }
                Check.isTrue(matcher.group(2) + " has at most 60 lines", end - i + 1 <= 60);
            }
        }
        Check.isTrue("at most 12 classes: " + classes, classes <= 12 && classes >= 2);
        Check.isTrue("all methods are seen: " + methods, methods > 150);
    }

    public static void main(String[] args) throws IOException {
        String code = code();
        String[] lines = code.split("\n");
        forbiddenWords(code);
        staticFields(code);
        newObjects(lines);
        sizes(lines);
        Check.end();
    }
}
