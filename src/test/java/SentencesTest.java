import java.io.IOException;

/** A test for each sentence of the document that names a boundary, with the sentence's own words. */
public final class SentencesTest {
    private SentencesTest() {
    }

    public static void main(String[] args) throws IOException {
        Sentences s = new Sentences();
        InputSentences.tell(s);
        PhraseSentences.tell(s);
        PictureSentences.tell(s);
        NameSentences.tell(s);
        MeasureSentences.tell(s);
        CaptionSentences.tell(s);
        ChangeSentences.tell(s);
        HistorySentences.tell(s);
        RefusalSentences.tell(s);
        s.checkNoneIsWithoutTest();
        Due.end("SentencesTest");
    }
}
