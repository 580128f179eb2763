import java.io.IOException;
import java.io.UncheckedIOException;
import java.nio.file.Files;
import java.nio.file.Path;
import java.util.ArrayList;
import java.util.LinkedHashMap;
import java.util.List;
import java.util.Map;
import java.util.regex.Matcher;
import java.util.regex.Pattern;

/** ../shared/DOC.md in its parts: the sections by their names, the promises by their numbers; and what was quoted. */
final class Paper {
    private static final Pattern SECTION = Pattern.compile("^(?:\\d\\. )?([A-Z]+)\\. (.*)$");
    private static final Pattern PROMISE = Pattern.compile("^## Promise (\\d+): .*$");

    private final Map<String, List<String>> lines = new LinkedHashMap<>();
    private final Map<String, List<String>> quotes = new LinkedHashMap<>();

    Paper() {
        String part = "";
        for (String line : read()) {
            Matcher section = SECTION.matcher(line);
            Matcher promise = PROMISE.matcher(line);
            if (section.matches()) {
                part = section.group(1);
                add(part, section.group(2));
            } else if (promise.matches()) {
                part = promise.group(1);
                lines.put(part, new ArrayList<>());
            } else if (line.startsWith("#") || line.startsWith("The constants:")) {
                part = line;
            } else if (!line.isBlank() && !line.matches("`.*\\(.*\\).*`")) {
                add(part, line.trim());
            }
        }
    }

    private static List<String> read() {
        try {
            return Files.readAllLines(Path.of("../shared/DOC.md"));
        } catch (IOException e) {
            throw new UncheckedIOException(e);
        }
    }

    private void add(String part, String line) {
        lines.computeIfAbsent(part, name -> new ArrayList<>()).add(line);
    }

    private static String plain(String text) {
        return text.replaceAll("\\s+", " ");
    }

    /** True if the part has these words; they count as quoted then. */
    boolean quote(String part, String words) {
        quotes.computeIfAbsent(part, name -> new ArrayList<>()).add(plain(words));
        return plain(String.join(" ", lines.getOrDefault(part, List.of()))).contains(plain(words));
    }

    private boolean isPromise(String part) {
        return part.matches("\\d+");
    }

    /** Of a section each sentence; of a promise each line, but those of parameters that name no number. */
    private List<String> sentences(String part) {
        List<String> sentences = new ArrayList<>();
        if (isPromise(part)) {
            for (String line : lines.get(part)) {
                if (!line.startsWith("- ") || line.matches(".*\\d.*")) {
                    sentences.add(plain(line));
                }
            }
            return sentences;
        }
        return List.of(plain(String.join(" ", lines.get(part))).split("(?<=\\.\\)?) "));
    }

    List<String> unquoted() {
        List<String> missing = new ArrayList<>();
        for (String part : lines.keySet()) {
            if (isPromise(part) || part.matches("[A-Z]+")) {
                for (String sentence : sentences(part)) {
                    if (quotes.getOrDefault(part, List.of()).stream().noneMatch(sentence::contains)) {
                        missing.add(part + ": " + sentence);
                    }
                }
            }
        }
        return missing;
    }

    int promises() {
        return (int) lines.keySet().stream().filter(this::isPromise).count();
    }
}
