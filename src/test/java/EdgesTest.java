import java.lang.reflect.Method;
import java.nio.file.Files;
import java.nio.file.Path;
import java.util.Arrays;
import java.util.Comparator;

/**
 * A test of its own for each sentence of the document that names a boundary case. The words that a test quotes have to
 * stand in the document, and no words there that tell a boundary may be left without a test.
 */
public final class EdgesTest {
    private static final Class<?>[] GROUPS = {TermsEdges.class, LogEdges.class, TextEdges.class, CallEdges.class};

    private final Check check = new Check();
    private final Document document;
    private int tests;

    private EdgesTest(Document document) {
        this.document = document;
    }

    public static void main(String[] args) throws Exception {
        EdgesTest all = new EdgesTest(new Document(Files.readString(Path.of("../shared/DOC.md"))));
        for (Class<?> group : GROUPS) {
            Method[] methods = group.getDeclaredMethods();
            Arrays.sort(methods, Comparator.comparing(Method::getName));
            for (Method method : methods) {
                if (method.isAnnotationPresent(Sentence.class)) {
                    all.run(group, method);
                }
            }
        }
        all.check.tellOf("");
        all.check.holds("no boundary is without a test:\n" + all.document.unheld(), all.document.unheld().isEmpty());
        all.check.close("EdgesTest: " + all.tests + " tests");
    }

    private void run(Class<?> group, Method method) throws Exception {
        Sentence sentence = method.getAnnotation(Sentence.class);
        String heading = sentence.under().isEmpty() ? "Promise " + sentence.promise()[0] : sentence.under();
        check.tellOf(Arrays.toString(sentence.promise()) + " " + group.getSimpleName() + "." + method.getName() + ", "
            + heading + ", \"" + sentence.says() + "\": ");
        check.holds("the document says so", document.strike(heading, sentence.says()));
        Desks desks = (Desks) group.getDeclaredConstructor().newInstance();
        desks.check = check;
        int before = check.made();
        try {
            method.invoke(desks);
        } catch (ReflectiveOperationException thrown) {
            check.holds("threw " + thrown.getCause(), false);
        }
        check.holds("something is checked", check.made() > before);
        tests++;
    }
}
