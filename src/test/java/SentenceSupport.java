import java.util.function.Consumer;

/** Runs tests that bear the document's own words, one for each sentence; arguments pick some of them. */
final class SentenceSupport {
    private final String name;
    private final String[] picked;
    private int tested = 0;
    private int broken = 0;

    SentenceSupport(String name, String[] picked) {
        this.name = name;
        this.picked = picked;
    }

    void holds(String sentence, Consumer<DueSupport> test) {
        if (!isPicked(sentence)) {
            return;
        }
        tested++;
        if (!isKept(test)) {
            broken++;
            System.out.println(name + ": broken: " + sentence);
        }
    }

    private boolean isPicked(String sentence) {
        for (String words : picked) {
            if (sentence.equals(words)) {
                return true;
            }
        }
        return picked.length == 0;
    }

    private static boolean isKept(Consumer<DueSupport> test) {
        DueSupport t = new DueSupport();
        try {
            test.accept(t);
        } catch (RuntimeException e) {
            // No call but pop may throw: the sentences behind this one are still to be looked at.
            System.out.println("threw " + e);
            return false;
        }
        return t.allAreDue();
    }

    void finish() {
        System.out.println(name + ": " + tested + " sentences, " + broken + " broken");
        if (broken != 0 || tested == 0) {
            System.exit(1);
        }
    }
}
