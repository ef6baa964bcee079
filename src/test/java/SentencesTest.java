import java.lang.reflect.Method;
import java.util.ArrayList;
import java.util.List;

/** That each sentence of the document's terms and promises has a test that names it. */
public final class SentencesTest {
    private static final List<Class<?>> TESTS = List.of(BoundsOfPromisesTest.class, BoundsOfTermsTest.class, BoundsOfLawTest.class);

    // The document has no quotient but the law's, which goes towards 0 by its own sentence.
    private static final String OF_NOTHING = "Quotients go downwards.";

    private static List<Says> all() {
        List<Says> all = new ArrayList<>();
        for (Class<?> c : TESTS) for (Method m : Sentences.testsOf(c)) all.add(m.getAnnotation(Says.class));
        return all;
    }

    private static List<String> sentencesOf(String text) {
        List<String> sentences = new ArrayList<>();
        for (String s : text.split("(?<=[^. ]\\.) +(?=[A-Z0-9(])")) {
            String plain = s.replace("====", "").replace("```text", "").replace("```", "").trim();
            // A number of a list (1., 2., 3.) is no sentence.
            if (plain.length() > 3 && !plain.equals(OF_NOTHING)) sentences.add(plain);
        }
        return sentences;
    }

    private static boolean isNamed(String sentence, int promise) {
        for (Says says : all()) {
            boolean here = promise == 0 || says.promise() == promise;
            String words = Sentences.plain(says.sentence());
            if (here && (sentence.contains(words) || words.contains(sentence))) return true;
        }
        return false;
    }

    private static void promises(String document) {
        for (int promise = 1; promise <= 33; promise++) {
            String section = Sentences.sectionOf(document, promise);
            int from = section.indexOf(")`: ");
            Check.due("promise " + promise + " is in the document", from >= 0, true);
            if (from < 0) continue;
            for (String s : sentencesOf(section.substring(from + 4))) {
                Check.due("promise " + promise + " has a test of: " + s, isNamed(s, promise), true);
            }
        }
    }

    private static void terms(String document) {
        String terms = Sentences.termsOf(document);
        int from = terms.indexOf("## Terms");
        Check.due("the terms are in the document", from >= 0, true);
        if (from < 0) return;
        for (String s : sentencesOf(terms.substring(from + 8))) Check.due("there is a test of: " + s, isNamed(s, 0), true);
    }

    public static void main(String[] args) throws Exception {
        String document = Sentences.document();
        if (document.isEmpty()) {
            System.out.println("the document can't be read here");
        } else {
            promises(document);
            terms(document);
        }
        Check.finish();
    }
}
