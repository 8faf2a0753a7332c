/** Each sentence of the document has a test of its own here, promise by promise. */
public final class SentencesTest {
    private static final int MOST_CALLS = 512;

    private SentencesTest() {
    }

    public static void main(String[] args) {
        Sentences all = new Sentences();
        TermsSentences.tell(all);
        RulesSentences.tell(all);
        GuestSentences.tell(all);
        SeatSentences.tell(all);
        TextSentences.tell(all);
        UndoSentences.tell(all);
        LookSentences.tell(all);
        WouldBeSentences.tell(all);
        DigestSentences.tell(all);
        all.compareWithDocument();
        lastCall();
        Due.end("SentencesTest");
    }

    /** "An object is used for at most 512 calls": the last one of them answers as the others do. */
    private static void lastCall() {
        SupperSeats x = Given.supper("8", "A1", "");
        int calls = 2;
        while (calls < MOST_CALLS - 2) {
            Due.is("call " + calls, calls % 2 == 0 ? x.sit(0, 0, 7) : x.rise(0), calls % 2 == 0 ? 1 : 0);
            calls++;
        }
        Due.is("call 511", x.count(7) + 1000 * x.count(8), 254 + 1000 * 254);
    }
}
