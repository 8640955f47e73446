/** Each sentence of the document that names a boundary case, by tests of its own. */
public final class BoundaryTest {
    public static void main(String[] args) {
        CityCases.all();
        LawCases.all();
        WorkCases.all();
        PostCases.all();
        StreetCases.all();
        MatchCases.all();
        RoadCases.all();
        GuessCases.all();
        DreamCases.all();
        KeepCases.all();
        if (args.length > 0) {
            Trial.unquoted().forEach(System.out::println);
        }
        if (!Trial.allIsWell("BoundaryTest")) {
            System.exit(1);
        }
    }
}
