/** Each sentence of the document's terms and promises, quoted, with a test of its own. */
public final class BoundariesTest {
    private static final int CALLS = 512;

    private BoundariesTest() {
    }

    public static void main(String[] args) {
        use();
        TermSentences.run();
        TextSentences.run();
        PromiseSentences.run();
        Sentences.close();
        Due.close();
    }

    private static void use() {
        Sentences.under(Sentences.WHAT_IT_IS);
        Sentences.says("An object is used for at most 512 calls after it has been made;", () -> {
            SlidingRanks x = new SlidingRanks();
            for (int call = 1; call <= CALLS; call += 4) {
                Due.is("call " + call, x.add(call), 1);
                Due.is("call " + (call + 1), x.sheet(0, 2, 40), 1);
                Due.is("call " + (call + 2), x.reading(0), call);
                Due.is("call " + (call + 3), x.drop(1), 0);
            }
        });
    }
}
