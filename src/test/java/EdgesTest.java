/** Every sentence of the description and of the promises, with the bounds and the refused calls that it names. */
public final class EdgesTest {
    public static void main(String[] args) {
        PlaceEdges.all();
        LineEdges.all();
        PermitEdges.all();
        GrantEdges.all();
        CountEdges.all();
        TextEdges.all();
        WholeEdges.all();
        Edges.end();
        Due.end();
    }
}
