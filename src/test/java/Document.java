import java.io.IOException;
import java.nio.file.Files;
import java.nio.file.Path;
import java.util.ArrayList;
import java.util.LinkedHashMap;
import java.util.List;
import java.util.Map;
import java.util.regex.Matcher;
import java.util.regex.Pattern;

/** The sentences of ../shared/DOC.md by sections; a promise's section bears its number alone. */
final class Document {
    private static final Pattern AHEAD = Pattern.compile("Ahead of the calls (.*) the interface says: (.*)\\.");

    /** Calls of the face that stand together under a title. */
    record Group(String title, List<String> calls) {
    }

    final Map<String, List<String>> sections = new LinkedHashMap<>();

    /** What the face declares, a line each: public, the type, the name, the parameters and the exceptions. */
    final List<String> face = new ArrayList<>();

    Document(Path path) throws IOException {
        String text = Files.readString(path);
        for (String section : ("\n" + text).split("\n## ")) {
            int end = section.indexOf('\n', 1);
            String name = section.substring(0, end).replaceAll("^Promise (\\d+): .*", "$1");
            List<String> sentences = new ArrayList<>();
            for (String paragraph : section.substring(end).split("\n\\s*\n|\n(?=- )")) {
                for (String sentence : inOneLine(paragraph).split("(?<=\\.) (?=[A-Z])")) {
                    if (!sentence.isEmpty()) {
                        sentences.add(sentence);
                    }
                }
            }
            sections.put(name.trim(), sentences);
        }
        text.lines().filter(line -> line.startsWith("    public ")).forEach(line -> face.add(line.trim()));
    }

    boolean says(String section, String words) {
        return sections.getOrDefault(section, List.of()).stream().anyMatch(sentence -> sentence.contains(words));
    }

    List<Group> groups() {
        List<Group> groups = new ArrayList<>();
        for (String sentence : sections.getOrDefault("Terms", List.of())) {
            Matcher ahead = AHEAD.matcher(sentence);
            if (ahead.matches()) {
                groups.add(new Group(ahead.group(2), List.of(ahead.group(1).replace("`", "").split(", "))));
            }
        }
        return groups;
    }

    private static String inOneLine(String text) {
        return text.trim().replaceAll("\\s+", " ");
    }
}
