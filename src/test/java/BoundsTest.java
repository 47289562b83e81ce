/** Each sentence of the document that names a bound, by a test of its own. */
public final class BoundsTest {
    public static void main(String[] args) {
        ShapeBounds.all();
        DerivedBounds.all();
        ObjectBounds.all();
        EditBounds.all();
        HistoryBounds.all();
        PathBounds.all();
        CopyBounds.all();
        WatchBounds.all();
        RefusalBounds.all();
        Doc.nothingLeftOut();
        Check.end();
    }
}
