/**
 * What each call changes that comes well, or is an errand: the parts that the document says, and no other part. The
 * call is made on one of two objects made alike, and both are asked for all that there is, part by part.
 */
public final class ChangesTest {
    private static final Due due = new Due("ChangesTest");
    private static final Twin twin = new Twin(due);

    public static void main(String[] args) {
        rowsChange();
        tellingChanges();
        undoingChanges();
        errandsChange();
        actsChange();
        imagesChange();
        askingChanges();
        due.end();
    }

    private static void changes(String call, Twin.Call c, long want, String... changed) {
        twin.changes(call, Twin::lived, c, want, changed);
    }

    private static void rowsChange() {
        changes("row(0, 1, 5)", x -> x.row(0, 1, 5), 5, "rows", "status");
        changes("row(3, 2, 2)", x -> x.row(3, 2, 2), 2, "rows", "status");
        changes("row(5, 0, 0)", x -> x.row(5, 0, 0), 0, "rows", "status");
        changes("row(2, 2, 0), as it was", x -> x.row(2, 2, 0), 0, "status");
        changes("set(0, 4, 3)", x -> x.set(0, 4, 3), 3, "rows", "status");
        changes("set(7, 39, 1)", x -> x.set(7, 39, 1), 1, "rows", "status");
        changes("set(0, 4, 4), as it was", x -> x.set(0, 4, 4), 4, "status");
        changes("copy(0, 1, 7, 0, 1)", x -> x.copy(0, 1, 7, 0, 1), 1, "rows", "status");
        changes("copy(0, 1, 7, 0, 0)", x -> x.copy(0, 1, 7, 0, 0), 0, "status");
        changes("drop(0)", x -> x.drop(0), 5, "rows", "status");
        changes("drop(2)", x -> x.drop(2), 0, "rows", "status");
    }

    private static void tellingChanges() {
        changes("feed(';')", x -> x.feed(';'), 21, "tape");
        changes("house()", x -> x.house(), 1, "doors", "weight", "wear", "taken", "rules", "ledger", "acts", "tape");
        twin.changes("house() with a fault", ChangesTest::livedWithAFault, x -> x.house(), -1000123, "fault", "tape");
        twin.changes("house() with the same fault", Twin::livedWithoutTape, x -> x.house(), -1000100);
        changes("fault()", x -> x.fault(), 1);
    }

    /** Behind the house that is told stands a door from a room to itself. */
    private static DoorsBehind livedWithAFault() {
        DoorsBehind x = Twin.lived();
        Due.tell(x, "c1,1,0;");
        return x;
    }

    /** The latest act of a lived house is an errand by a lock, that went astray behind it. */
    private static void undoingChanges() {
        changes("undo()", x -> x.undo(), 6, "wear", "acts");
    }

    private static void errandsChange() {
        changes("errand(0, 3, 1)", x -> x.errand(0, 3, 1), 20, "weight", "wear", "taken", "ledger", "acts", "status");
        changes("errand(0, 0, 0)", x -> x.errand(0, 0, 0), 6, "weight", "taken", "ledger", "acts", "status");
        changes("errand(3, 0, 1), astray at once", x -> x.errand(3, 0, 1), Due.ASTRAY, "ledger", "acts", "status");
        changes("errand(1, 0, 2), astray behind a door, as ahead", x -> x.errand(1, 0, 2), Due.ASTRAY, "wear", "acts", "status");
        changes("errand(0, 2, 1), empty", x -> x.errand(0, 2, 1), Due.EMPTY, "wear", "ledger", "acts", "status");
    }

    private static void actsChange() {
        changes("oil(2)", x -> x.oil(2), 1, "wear", "acts");
        changes("bring(3, 20)", x -> x.bring(3, 20), 71, "weight", "acts");
        changes("rule(0, 37)", x -> x.rule(0, 37), 36, "rules", "acts");
        changes("rule(1, 8)", x -> x.rule(1, 8), 9, "rules", "acts");
        changes("rule(2, 29)", x -> x.rule(2, 29), 30, "rules", "acts");
        changes("rule(0, 36), as it was", x -> x.rule(0, 36), 36, "acts");
    }

    private static void imagesChange() {
        changes("image(0)", x -> x.image(0), 1, "image0");
        changes("image(1)", x -> x.image(1), 1, "image1");
        changes("restore(0)", x -> x.restore(0), 1, "weight", "wear", "rules", "acts");
        changes("restore(1)", x -> x.restore(1), 1, "doors", "weight", "wear", "taken", "rules", "acts");
    }

    private static void askingChanges() {
        changes("as(1, 2)", x -> x.as(1, 2), 1, "status");
        changes("as(1, 3)", x -> x.as(1, 3), Due.KIND, "status");
        changes("ask(0, 1)", x -> x.ask(0, 1), 0, "trace");
        changes("ask(1, 0), as ahead", x -> x.ask(1, 0), -9);
    }
}
