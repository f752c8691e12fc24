import java.io.IOException;

/** A test for each sentence of the document's face, terms and promises, named after it. */
public final class BoundaryTests {
    public static void main(String[] args) throws IOException {
        FaceSentences.test();
        TermsSentences.test();
        ReckoningSentences.test();
        UnitSentences.test();
        LetSentences.test();
        AgreedSentences.test();
        DepositSentences.test();
        RentSentences.test();
        BillSentences.test();
        ServiceSentences.test();
        Sentence.allTested();
        Check.close("BoundaryTests");
    }
}
