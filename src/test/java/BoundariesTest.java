import java.io.IOException;
import java.lang.reflect.InvocationTargetException;
import java.lang.reflect.Method;
import java.nio.file.Files;
import java.nio.file.Path;
import java.util.Arrays;
import java.util.Comparator;

/** Each sentence of the document that names a boundary case has a test of its own: a method with a Sentence. */
public final class BoundariesTest {
    private static final Path DOCUMENT = Path.of("../shared/DOC.md");
    private static final int PROMISES = 39;
    private static final Class<?>[] GROUPS = {
        SitterBoundaries.class, TextBoundaries.class, MoveBoundaries.class, PaperBoundaries.class, KeptBoundaries.class
    };

    private BoundariesTest() {
    }

    public static void main(String[] args) throws ReflectiveOperationException, IOException {
        String document = oneBlank(Files.readString(DOCUMENT));
        boolean[] tested = new boolean[PROMISES + 1];
        for (Class<?> group : GROUPS) {
            Method[] methods = group.getDeclaredMethods();
            Arrays.sort(methods, Comparator.comparing(Method::getName));
            for (Method method : methods) {
                Sentence sentence = method.getAnnotation(Sentence.class);
                if (sentence != null) {
                    run(method, sentence, document);
                    for (int promise : sentence.promises()) {
                        tested[promise] = true;
                    }
                }
            }
        }
        for (int promise = 1; promise <= PROMISES; promise++) {
            Check.so("promise " + promise + " has a boundary test", tested[promise]);
        }
        Check.close("BoundariesTest");
    }

    private static void run(Method method, Sentence sentence, String document) throws ReflectiveOperationException {
        String name = "promise " + Arrays.toString(sentence.promises()) + " \"" + sentence.words() + "\"";
        Check.so(name + " stands in the document", document.contains(oneBlank(sentence.words())));
        Check.open(name);
        try {
            method.invoke(null, new SteamNations());
        } catch (InvocationTargetException e) {
            Check.so("an exception: " + e.getCause(), false);
        }
        Check.open("");
    }

    private static String oneBlank(String text) {
        return text.replace("`", "").replaceAll("\\s+", " ");
    }
}
