import java.io.IOException;
import java.nio.file.Files;
import java.nio.file.Path;
import java.util.ArrayList;
import java.util.LinkedHashMap;
import java.util.List;
import java.util.Map;

/** The sentences of ../shared/DOC.md by sections; a promise's section bears its number alone. */
final class Document {
    final Map<String, List<String>> sections = new LinkedHashMap<>();

    Document(Path path) throws IOException {
        for (String section : ("\n" + Files.readString(path)).split("\n## ")) {
            int end = section.indexOf('\n', 1);
            String name = section.substring(0, end).replaceAll("^Promise (\\d+): .*", "$1");
            List<String> sentences = new ArrayList<>();
            for (String paragraph : section.substring(end).split("\n\\s*\n|\n(?=- )")) {
                for (String sentence : inOneLine(paragraph).split("(?<=\\.) (?=[A-Z])")) {
                    if (!sentence.isEmpty()) {
                        sentences.add(sentence);
                    }
                }
            }
            sections.put(name.trim(), sentences);
        }
    }

    boolean says(String section, String words) {
        return sections.getOrDefault(section, List.of()).stream().anyMatch(sentence -> sentence.contains(words));
    }

    private static String inOneLine(String text) {
        return text.trim().replaceAll("\\s+", " ");
    }
}
