import java.io.IOException;
import java.lang.reflect.InvocationTargetException;
import java.lang.reflect.Method;
import java.lang.reflect.Modifier;
import java.nio.file.Path;
import java.util.Arrays;
import java.util.Comparator;
import java.util.HashMap;
import java.util.HashSet;
import java.util.List;
import java.util.Map;
import java.util.Set;

/**
 * Runs the tests by sentences: each names the sentence of the document that it is for, which must stand there.
 * A sentence without such a test is wrong, too, unless it names no boundary, as told here.
 */
public final class SentencesTest {
    private static final List<Class<? extends Edges>> TESTS = List.of(TermsEdges.class, RulesEdges.class, MilesEdges.class,
        TrucksEdges.class, DaysEdges.class, TextsEdges.class, AccountsEdges.class);
    private static final Set<String> UNTESTED_SECTIONS = Set.of("The public face", "Not promised", "# IceConvoys");

    private final Document document;
    private final Map<String, Set<String>> quoted = new HashMap<>();
    private int tests = 0;
    private int wrong = 0;

    private SentencesTest(Document document) {
        this.document = document;
    }

    public static void main(String[] args) throws IOException, ReflectiveOperationException {
        SentencesTest test = new SentencesTest(new Document(Path.of("../shared/DOC.md")));
        for (Class<? extends Edges> edges : TESTS) {
            Method[] methods = edges.getDeclaredMethods();
            Arrays.sort(methods, Comparator.comparing(Method::getName));
            for (Method method : methods) {
                test.run(edges, method);
            }
        }
        test.findUntested();
        System.out.println("SentencesTest: " + test.tests + " tests by sentences, " + test.wrong + " wrong");
        if (test.wrong != 0) {
            System.exit(1);
        }
    }

    private void run(Class<? extends Edges> edges, Method method) throws ReflectiveOperationException {
        String name = edges.getSimpleName() + "." + method.getName();
        Says says = method.getAnnotation(Says.class);
        if (says == null) {
            boolean isTest = !method.isSynthetic() && !Modifier.isPrivate(method.getModifiers());
            report(!isTest, name + " tells no sentence");
            return;
        }
        tests++;
        report(document.says(says.in(), says.sentence()), name + ": the document does not say so: " + says.sentence());
        quoted.computeIfAbsent(says.in(), section -> new HashSet<>()).add(says.sentence());
        Edges object = edges.getDeclaredConstructor().newInstance();
        try {
            method.invoke(object);
        } catch (InvocationTargetException e) {
            report(false, name + " was cut off by " + e.getCause());
        }
        boolean isRight = object.c.made() > 0 && object.c.wrong() == 0;
        report(isRight, name + " failed, for (" + says.in() + ") " + says.sentence());
    }

    private void report(boolean isRight, String what) {
        if (!isRight) {
            wrong++;
            System.out.println(what);
        }
    }

    private void findUntested() {
        document.sections.forEach((section, sentences) -> {
            for (String sentence : UNTESTED_SECTIONS.contains(section) ? List.<String>of() : sentences) {
                boolean isTested = quoted.getOrDefault(section, Set.of()).stream().anyMatch(sentence::contains);
                report(isTested || namesNoBoundary(sentence), "no test for (" + section + ") " + sentence);
            }
        });
    }

    /** Headings, names of arguments without a range, and what the sentences beside it tell in full. */
    private static boolean namesNoBoundary(String sentence) {
        return sentence.matches("[A-Z][\\w ,]*\\.") && sentence.split(" ").length <= 4
                || sentence.matches("- `\\w+`: [^0-9]*")
                || sentence.matches(".*`: Returns (a number|the sign|an account|the truck)[^0-9,]*")
                || sentence.equals("Returns whether this is so.")
                || sentence.startsWith("Ahead of the calls ")
                || sentence.startsWith("A road over ice: ");
    }
}
