/** Each sentence of the document that names a boundary case, with a test of its own; none is left out. */
final class BoundsTest {
    public static void main(String[] args) {
        TermBounds.run();
        WoodBounds.run();
        LawBounds.run();
        WrongBounds.run();
        BeatBounds.run();
        WayBounds.run();
        ToldBounds.run();
        PartBounds.run();
        BoyBounds.run();
        KeptBounds.run();
        PromiseBounds.run();
        RefusedBounds.run();
        Doc.allIsHeld();
        Due.close("BoundsTest");
    }
}
