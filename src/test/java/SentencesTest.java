import java.io.IOException;
import java.lang.reflect.InvocationTargetException;
import java.lang.reflect.Method;
import java.lang.reflect.Modifier;
import java.nio.file.Path;
import java.util.Arrays;
import java.util.Comparator;

/**
 * Goes through the document sentence by sentence: each sentence has a test of its own in one of the parts, and
 * no sentence is without one, but for those of the section 'Not promised'.
 */
public final class SentencesTest {
    private static final Class<?>[] PARTS = {OpeningSentences.class, TapeSentences.class, TextSentences.class,
        FaultSentences.class, ValueSentences.class, RunSentences.class, ShapeSentences.class, SiteSentences.class,
        MakingSentences.class, AnswerSentences.class};

    public static void main(String[] args) throws IOException {
        Document document = new Document(Path.of("../shared/DOC.md"));
        int tests = 0;
        for (Class<?> part : PARTS) {
            Method[] methods = part.getDeclaredMethods();
            Arrays.sort(methods, Comparator.comparing(Method::getName));
            for (Method m : methods) {
                if (!isTest(m)) continue;
                tests++;
                perform(m, document);
            }
        }
        Check.about("");
        Check.due("promises of the document", document.promises(), 18);
        for (String words : document.untested()) Check.due("a test of \"" + words + "\"", 0, 1);
        System.out.println(tests + " tests of sentences");
        Check.end();
    }

    private static boolean isTest(Method m) {
        return !Modifier.isPrivate(m.getModifiers()) && !m.isSynthetic();
    }

    private static void perform(Method m, Document document) {
        Sentence sentence = m.getAnnotation(Sentence.class);
        String name = m.getDeclaringClass().getSimpleName() + "." + m.getName();
        Check.about(name + ": ");
        if (sentence == null) {
            Check.due("a sentence", 0, 1);
            return;
        }
        for (String words : sentence.says()) {
            Check.due("words of the document: " + words, document.mark(sentence.promise(), words) ? 1 : 0, 1);
        }
        Check.about(name + ", promise " + Arrays.toString(sentence.promise()) + " \"" + sentence.says()[0] + "\": ");
        int before = Check.asked();
        try {
            m.setAccessible(true);
            m.invoke(null);
        } catch (InvocationTargetException e) {
            Check.due("no exception, but " + e.getCause(), 0, 1);
        } catch (IllegalAccessException e) {
            Check.due("a method that can be called", 0, 1);
        }
        Check.due("answers were asked for", Check.asked() > before ? 1 : 0, 1);
    }
}
