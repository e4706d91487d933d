/** The boundary cases: each sentence of the document's terms and promises has tests here that quote it. */
public final class BoundaryTest {
    public static void main(String[] args) {
        OfficeBoundaries.all();
        RouteBoundaries.all();
        DialBoundaries.all();
        TickBoundaries.all();
        WayBoundaries.all();
        OnwardBoundaries.all();
        TalkBoundaries.all();
        AnswerBoundaries.all();
        RefusalBoundaries.all();
        Sentence.allAreTested();
        Check.finish();
    }
}
