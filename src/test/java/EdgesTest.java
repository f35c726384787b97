/** Every boundary case that the document names, promise by promise; each promise has some. */
public final class EdgesTest {
    private static final int PROMISES = 54;

    public static void main(String[] args) {
        Due due = new Due("EdgesTest");
        int[] told = new int[PROMISES + 1];
        Edges[] all = {new TextEdges(due, told), new ActEdges(due, told), new AheadEdges(due, told),
            new LookEdges(due, told), new KeepEdges(due, told)};
        for (Edges edges : all) {
            edges.tell();
        }
        int sum = 0;
        for (int promise = 1; promise <= PROMISES; promise++) {
            due.is("promise " + promise + " has boundary cases", told[promise] > 0, true);
            sum += told[promise];
        }
        System.out.println("EdgesTest: " + sum + " boundary cases");
        due.close();
    }
}
