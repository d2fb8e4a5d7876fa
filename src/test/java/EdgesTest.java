/** Every sentence of the document that names a boundary case, promise by promise, each with a run of its own. */
public final class EdgesTest {
    private static final int PROMISES = 39;

    public static void main(String[] args) {
        Due due = new Due("EdgesTest");
        Runs runs = new Runs(due);
        new EdgesOfArguments(runs).all();
        new EdgesOfMembers(runs).all();
        new EdgesOfLines(runs).all();
        new EdgesOfStanding(runs).all();
        new EdgesOfTerms(runs).all();
        new EdgesOfSeats(runs).all();
        new EdgesOfWays(runs).all();
        new EdgesOfImages(runs).all();
        for (int promise = 1; promise <= PROMISES; promise++) {
            due.is("promise " + promise + " has edges", runs.promises().contains(promise) ? 1 : 0, 1);
        }
        System.out.println("EdgesTest: " + runs.refused() + " refused calls tested for changing nothing");
        due.end();
    }
}
