import java.io.IOException;
import java.lang.reflect.Constructor;
import java.lang.reflect.Field;
import java.lang.reflect.Method;
import java.lang.reflect.Modifier;
import java.nio.file.Files;
import java.nio.file.Path;
import java.util.Arrays;
import java.util.HashSet;
import java.util.List;
import java.util.Set;
import java.util.TreeSet;
import java.util.regex.Pattern;

/** The face and its titles as the document tells them, and the rules of LANGUAGE.md that reflection and the source's text show. */
public final class FaceTest {
    private static final Path SOURCE = Path.of("src/main/java/IceConvoys.java");

    private static final String[] FACE = {"int set(int,int)", "int setting(int)", "int drill(int)", "int drilled(int)",
        "int mileOf(int,int)", "float ice(int)", "int bears(int)", "char sign(int)", "int weakest()",
        "int truck(int,int,int,int)", "int inRow(int,int,int)", "int convoy(int)", "int join(int,int,int)",
        "int start(int)", "int roll(int)", "int why(int,boolean)", "int convoyOf(int,int)", "int truckOf(int,int,int)",
        "float load(int,int)", "int at(int)", "int rolls(int)", "int rollsAgain(int)", "int iceIn(int,int)",
        "int bearsIn(int,int)", "int pass(int)", "int append(char)", "int read()", "int errorPosition()",
        "int refusal(boolean)", "int account(int)", "boolean isWell()", "long meanBits()", "float share()", "int undo()",
        "int save()", "int restore()"};

    /** What the rules 3, 4, 6 and 10 keep out of the source, as regular expressions. */
    private static final String[] KEPT_OUT = {"->", "::", "\\bFloat\\b", "\\bDouble\\b", "Exact\\(", "\\bfinally\\b",
        "\\bsynchronized\\b", "\\bassert\\b", "\\bcatch\\b", "\\binstanceof\\b", "static \\{", "\\bpackage\\b",
        "\\bSystem\\.(?!arraycopy)", "\\bvar\\b", "[^\\x00-\\x7f]", "import (?!java\\.util\\.NoSuchElementException;)"};

    private final Checks checks = new Checks();
    private final Document document;

    private FaceTest(Document document) {
        this.document = document;
    }

    public static void main(String[] args) throws IOException {
        FaceTest test = new FaceTest(new Document(Path.of("../shared/DOC.md")));
        test.checkFace();
        test.checkStaticFields(IceConvoys.class);
        for (Class<?> inside : IceConvoys.class.getDeclaredClasses()) {
            test.checkStaticFields(inside);
            test.checkNames(inside);
            test.checks.due(inside.getSimpleName() + " is private and static", true,
                () -> Modifier.isPrivate(inside.getModifiers()) && Modifier.isStatic(inside.getModifiers()));
        }
        String source = Files.readString(SOURCE);
        test.checkDeclarations(source.replaceAll("\\s+", " "));
        test.checkTitles(source);
        for (String kept : KEPT_OUT) {
            test.checks.due("the source has " + kept, false, () -> Pattern.compile(kept).matcher(source).find());
        }
        test.checks.end("FaceTest");
    }

    private void checkFace() {
        Set<String> found = new TreeSet<>();
        for (Method method : IceConvoys.class.getDeclaredMethods()) {
            String types = String.join(",", Arrays.stream(method.getParameterTypes()).map(Class::getName).toList());
            if (Modifier.isPublic(method.getModifiers())) {
                found.add(method.getReturnType() + " " + method.getName() + "(" + types + ")");
            } else {
                checks.due(method + " is private", true, () -> Modifier.isPrivate(method.getModifiers()));
            }
        }
        checks.due("the public methods", new TreeSet<>(Arrays.asList(FACE)), () -> found);
        for (Field field : IceConvoys.class.getDeclaredFields()) {
            checks.due(field + " is private", true, () -> Modifier.isPrivate(field.getModifiers()));
        }
        Constructor<?>[] constructors = IceConvoys.class.getDeclaredConstructors();
        checks.due("constructors", 1, () -> constructors.length);
        checks.due("a constructor without parameters", 0, () -> constructors[0].getParameterCount());
        checks.due("it is public", true, () -> Modifier.isPublic(constructors[0].getModifiers()));
        checks.due("the class is public and final", Modifier.PUBLIC | Modifier.FINAL, IceConvoys.class::getModifiers);
    }

    /** Each declaration of the document's face stands in the source, with its parameters' names and its exceptions. */
    private void checkDeclarations(String inOneLine) {
        checks.due("declarations of the face", FACE.length + 1, document.face::size);
        int from = 0;
        for (String declaration : document.face) {
            int found = inOneLine.indexOf(declaration.replace(";", " {"), from);
            checks.due(declaration + " stands in the source, in the document's order", true, () -> found >= 0);
            from = Math.max(from, found);
        }
    }

    /** The title that stands last ahead of a call is the one that the document tells for it. */
    private void checkTitles(String source) {
        int calls = 0;
        for (Document.Group group : document.groups()) {
            for (String call : group.calls()) {
                calls++;
                String[] parts = source.split("public \\w+ " + call + "\\(", 2);
                checks.due("the title ahead of " + call, group.title(), () -> lastTitle(parts[0]));
            }
        }
        int callsFound = calls;
        checks.due("calls with a title", FACE.length, () -> callsFound);
    }

    private static String lastTitle(String source) {
        List<String> titles = source.lines().filter(line -> line.startsWith("    // ")).map(line -> line.substring(7)).toList();
        return titles.isEmpty() ? "none" : titles.get(titles.size() - 1);
    }

    private void checkStaticFields(Class<?> type) {
        for (Field field : type.getDeclaredFields()) {
            if (Modifier.isStatic(field.getModifiers())) {
                checks.due(field + " is final", true, () -> Modifier.isFinal(field.getModifiers()));
            }
        }
    }

    /** Rule 1: no private method bears the name of a public one. */
    private void checkNames(Class<?> inside) {
        Set<String> names = new HashSet<>();
        for (String method : FACE) {
            names.add(method.substring(method.indexOf(' ') + 1, method.indexOf('(')));
        }
        for (Method method : inside.getDeclaredMethods()) {
            checks.due(method + " bears a name of the face", false, () -> names.contains(method.getName()));
        }
    }
}
