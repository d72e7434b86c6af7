import java.util.function.Consumer;

/** Runs tests that are each named by the sentence of ../shared/DOC.md that they are for. */
final class Sentences {
    private final String where;
    private int sentences = 0;
    private int asked = 0;
    private int wrong = 0;

    Sentences(String where) {
        this.where = where;
    }

    void test(String sentence, Consumer<Due> test) {
        Due due = new Due(where + ": " + sentence);
        test.accept(due);
        due.holds("something was asked", due.asked() > 0);
        sentences++;
        asked += due.asked();
        wrong += due.wrong();
    }

    void end() {
        System.out.println(where + ": " + sentences + " sentences, " + asked + " answers, " + wrong + " wrong");
        if (wrong != 0) {
            System.exit(1);
        }
    }
}
