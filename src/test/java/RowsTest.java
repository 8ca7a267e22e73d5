/** Promises 1 to 5 and 33: a new object, rows, and the status that their calls leave. */
public final class RowsTest {
    private static final Due due = new Due("RowsTest");

    public static void main(String[] args) {
        newObject();
        rows();
        sets();
        copies();
        drops();
        statuses();
        due.end();
    }

    private static void newObject() {
        DoorsBehind x = new DoorsBehind();
        for (int k = 0; k <= 8; k++) due.is("new: count(" + k + ")", x.count(k), 0);
        due.is("new: fault()", x.fault(), 0);
        due.is("new: status()", x.status(), 0);
        due.is("new: undo()", x.undo(), Due.STATE);
        due.is("new: ledger(0)", x.ledger(0), Due.NONE);
        due.is("new: trace(0)", x.trace(0), Due.NONE);
        for (int k = 0; k < 8; k++) {
            due.is("new: drop", x.drop(k), Due.NULL);
            due.is("new: room", x.room(k, 0), Due.BAD);
            due.is("new: door", x.door(k, 0), Due.BAD);
        }
        due.is("NONE", DoorsBehind.NONE, -1000000);
        due.is("BAD", DoorsBehind.BAD, -1000001);
        due.is("STATE", DoorsBehind.STATE, -1000002);
        due.is("FULL", DoorsBehind.FULL, -1000003);
    }

    private static void rows() {
        DoorsBehind x = new DoorsBehind();
        due.is("row(0, 0, 0)", x.row(0, 0, 0), 0);
        due.is("row(7, 2, 40)", x.row(7, 2, 40), 40);
        due.is("count(0)", x.count(0), 2);
        due.is("row(7, 1, 3)", x.row(7, 1, 3), 3);
        due.is("a row in place of another: count(0)", x.count(0), 2);
        due.is("row(-1, 0, 1)", x.row(-1, 0, 1), Due.BAD);
        due.is("row(8, 0, 1)", x.row(8, 0, 1), Due.BAD);
        due.is("row(0, -1, 1)", x.row(0, -1, 1), Due.BAD);
        due.is("row(0, 3, 1)", x.row(0, 3, 1), Due.BAD);
        due.is("row(0, 0, 41)", x.row(0, 0, 41), Due.BAD);
        due.is("row(0, 0, MAX)", x.row(0, 0, Integer.MAX_VALUE), Due.BAD);
        due.is("row(0, 0, -1)", x.row(0, 0, -1), Due.SIZE);
        due.is("row(0, 0, MIN)", x.row(0, 0, Integer.MIN_VALUE), Due.SIZE);
        due.is("BAD ahead of SIZE: lane", x.row(0, 3, -1), Due.BAD);
        due.is("BAD ahead of SIZE: row", x.row(8, 0, -1), Due.BAD);
        due.is("row 7 as it was", x.drop(7), 3);
        x.row(1, 2, 4);
        x.set(1, 2, 77);
        x.row(1, 2, 4);
        x.row(2, 2, 1);
        x.copy(1, 2, 2, 0, 1);
        due.is("items are 0 anew", Due.read(x, Due.HOUSE), 5);
        due.is("item 0 is door 0", x.would(2, 0, 1, 4), 1);
    }

    private static void sets() {
        DoorsBehind x = new DoorsBehind();
        x.row(0, 0, 2);
        x.row(1, 1, 2);
        x.row(2, 2, 2);
        due.is("byte 127", x.set(0, 0, 127), 127);
        due.is("byte 128", x.set(0, 0, 128), -128);
        due.is("byte 256", x.set(0, 0, 256), 0);
        due.is("byte -129", x.set(0, 1, -129), 127);
        due.is("short 32768", x.set(1, 0, 32768), -32768);
        due.is("short 65535", x.set(1, 1, 65535), -1);
        due.is("short 40000", x.set(1, 1, 40000), -25536);
        due.is("int", x.set(2, 0, Integer.MIN_VALUE), Integer.MIN_VALUE);
        due.is("an int like a refusal", x.set(2, 1, Due.BAD), Due.BAD);
        due.is("its status", x.status(), 0);
        due.is("set(-1, ..)", x.set(-1, 0, 0), Due.BAD);
        due.is("set(8, ..)", x.set(8, 0, 0), Due.BAD);
        due.is("set(3, ..)", x.set(3, 0, 0), Due.NULL);
        due.is("NULL ahead of PLACE", x.set(3, -1, 0), Due.NULL);
        due.is("set(0, -1, 0)", x.set(0, -1, 0), Due.PLACE);
        due.is("set(0, 2, 0)", x.set(0, 2, 0), Due.PLACE);
        due.is("set(0, MAX, 0)", x.set(0, Integer.MAX_VALUE, 0), Due.PLACE);
        x.row(4, 0, 0);
        due.is("no place in an empty row", x.set(4, 0, 0), Due.PLACE);
    }

    /** Items are seen by the errand that they tell: a house with a star of doors from the first room. */
    private static void copies() {
        DoorsBehind x = Due.in("h9,60,0;r1;r2;r3;r4;r5;l0,1,0;l0,2,0;l0,3,0;l0,4,0;");
        Due.fill(x, 0, 0, 0, 1, 2, 3, 9);
        Due.fill(x, 1, 0, 9, 9, 9);
        due.is("copy(0, 1, 1, 0, 2)", x.copy(0, 1, 1, 0, 2), 2);
        star(x, 1, 0, 3);
        star(x, 1, 1, 4);
        due.is("the third stays", x.would(1, 2, 1, 0), 1006);
        due.is("forward over itself", x.copy(0, 0, 0, 1, 4), 4);
        star(x, 0, 0, 2);
        star(x, 0, 1, 2);
        star(x, 0, 2, 3);
        star(x, 0, 3, 4);
        star(x, 0, 4, 5);
        due.is("backward over itself", x.copy(0, 2, 0, 0, 3), 3);
        star(x, 0, 0, 3);
        star(x, 0, 1, 4);
        star(x, 0, 2, 5);
        star(x, 0, 3, 4);
        star(x, 0, 4, 5);
        due.is("none, at both ends", x.copy(0, 5, 1, 3, 0), 0);
        due.is("copy(-1, ..)", x.copy(-1, 0, 1, 0, 1), Due.BAD);
        due.is("copy(.., 8, ..)", x.copy(0, 0, 8, 0, 1), Due.BAD);
        due.is("BAD ahead of NULL", x.copy(5, 0, 8, 0, 1), Due.BAD);
        due.is("from a missing one", x.copy(5, 0, 0, 0, 1), Due.NULL);
        due.is("to a missing one", x.copy(0, 0, 5, 0, 1), Due.NULL);
        x.row(2, 1, 5);
        due.is("two lanes", x.copy(0, 0, 2, 0, 1), Due.STORE);
        due.is("STORE ahead of PLACE", x.copy(0, -1, 2, 0, 1), Due.STORE);
        due.is("NULL ahead of STORE and PLACE", x.copy(2, -1, 6, 0, 1), Due.NULL);
        int[][] wrong = {{-1, 0, 1}, {0, -1, 1}, {0, 0, -1}, {5, 0, 1}, {0, 3, 1}, {2, 0, 4}, {0, 1, 3}, {6, 0, 0},
            {0, 4, 0}, {1, 0, Integer.MAX_VALUE}, {Integer.MAX_VALUE, 0, 1}, {0, Integer.MAX_VALUE, 1},
            {Integer.MIN_VALUE, 0, 0}, {0, 0, Integer.MIN_VALUE}};
        for (int[] w : wrong) due.is("copy(0, " + w[0] + ", 1, " + w[1] + ", " + w[2] + ")",
            x.copy(0, w[0], 1, w[1], w[2]), Due.PLACE);
        star(x, 1, 0, 3);
    }

    private static void star(DoorsBehind x, int row, int i, int want) {
        due.is("item " + i + " of " + row, x.would(row, i, 1, 0), want);
    }

    private static void drops() {
        DoorsBehind x = new DoorsBehind();
        x.row(3, 0, 17);
        x.row(4, 2, 0);
        due.is("drop(3)", x.drop(3), 17);
        due.is("drop(3) again", x.drop(3), Due.NULL);
        due.is("drop(4)", x.drop(4), 0);
        due.is("count(0)", x.count(0), 0);
        due.is("drop(-1)", x.drop(-1), Due.BAD);
        due.is("drop(8)", x.drop(8), Due.BAD);
    }

    private static void statuses() {
        DoorsBehind x = new DoorsBehind();
        x.row(0, 0, -1);
        due.is("SIZE", x.status(), 4);
        x.row(0, 0, 41);
        x.errand(0, 0, 0);
        x.would(0, 0, 0, 0);
        x.undo();
        x.as(0, 0);
        due.is("BAD and STATE leave it", x.status(), 4);
        x.set(0, 0, 0);
        due.is("NULL", x.status(), 1);
        x.row(0, 0, 3);
        due.is("none", x.status(), 0);
        x.set(0, 3, 0);
        due.is("PLACE", x.status(), 2);
        x.row(1, 1, 3);
        x.copy(0, 0, 1, 0, 0);
        due.is("STORE", x.status(), 5);
        Due.read(x, Due.HOUSE);
        x.feed(300);
        x.oil(9);
        x.way(1, -1);
        due.is("calls without a row leave it", x.status(), 5);
        due.is("as(0, 0)", x.as(0, 0), 0);
        due.is("as() has none", x.status(), 0);
        x.as(0, 5);
        due.is("KIND", x.status(), 3);
        x.as(0, 6);
        due.is("as() that is BAD leaves it", x.status(), 3);
        due.is("foretold EMPTY", x.would(0, 0, 2, 0), 1011);
        due.is("what is foretold is no finding of the call", x.status(), 0);
        x.errand(0, 0, 1);
        due.is("taken", x.status(), 0);
        x.errand(0, 0, 1);
        due.is("EMPTY", x.status(), 11);
        x.needs(0, 0, 1, 0);
        due.is("NONE is no finding", x.status(), 0);
        x.sticks(0, 3, 1, 0, 0);
        due.is("PLACE by sticks()", x.status(), 2);
        x.sticks(0, 0, 1, 0, 0);
        due.is("none by sticks()", x.status(), 0);
        x.who(0, 0, 5, 0, 1, 0);
        due.is("NULL by who()", x.status(), 1);
        x.who(0, 0, 0, 0, 1, 0);
        due.is("none by who()", x.status(), 0);
        x.needs(5, 0, 1, 0);
        due.is("NULL by needs()", x.status(), 1);
        x.drop(0);
        due.is("none by drop()", x.status(), 0);
    }
}
