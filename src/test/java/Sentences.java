import java.util.LinkedHashMap;
import java.util.List;
import java.util.Map;
import java.util.Set;
import java.util.TreeSet;

/** The document's sentences that name an edge, each with a test of its own. */
final class Sentences {

    interface Test {
        void hold(Check check);
    }

    private final Map<String, Test> tests = new LinkedHashMap<>();

    void add(String sentence, Test test) {
        if (tests.put(sentence, test) != null) {
            throw new IllegalStateException("there are two tests of: " + sentence);
        }
    }

    /** Those of all the edges' tests. */
    static Sentences all() {
        Sentences all = new Sentences();
        EdgesOfUsersTest.list(all);
        EdgesOfTextTest.list(all);
        EdgesOfAnchorsTest.list(all);
        EdgesOfNotesTest.list(all);
        EdgesOfThreadsTest.list(all);
        EdgesOfAskingTest.list(all);
        EdgesOfRefusalsTest.list(all);
        return all;
    }

    Set<String> names() {
        return tests.keySet();
    }

    /** Those whose tests find something wrong; asked from outside, where another Marginalia stands. */
    static Set<String> broken() {
        Set<String> broken = new TreeSet<>();
        Sentences all = all();
        for (String sentence : all.names()) {
            if (!all.test(sentence).wrong().isEmpty()) {
                broken.add(sentence);
            }
        }
        return broken;
    }

    private Check test(String sentence) {
        Check check = new Check();
        try {
            tests.get(sentence).hold(check);
        } catch (RuntimeException e) {
            check.same("a call that should answer", "an answer", e.toString());
        }
        return check;
    }

    void finish() {
        Check sum = new Check();
        for (String sentence : tests.keySet()) {
            Check check = test(sentence);
            sum.is(sentence + " has checks, which", check.right() > 0);
            sum.same(sentence, List.of(), check.wrong());
        }
        sum.finish();
    }
}
