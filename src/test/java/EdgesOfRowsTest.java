/**
 * The edges of promises 1 to 5: a new object and rows. What a row holds is seen in a star: the door d leads from the
 * first room to a room of weight d + 1, so an errand by item i alone comes to that item and 1.
 */
public final class EdgesOfRowsTest {
    private static final Due due = new Due("EdgesOfRowsTest");
    private static final int LEAST = Integer.MIN_VALUE, MOST = Integer.MAX_VALUE;
    private static final String STAR = "h9,60,0;r0;r1;r2;r3;r4;r5;r6;r7;"
        + "l0,1,0;l0,2,0;l0,3,0;l0,4,0;l0,5,0;l0,6,0;l0,7,0;";
    /** What is no door of the star. */
    private static final int ASTRAY = 1006 - 1;

    public static void main(String[] args) {
        promise1AllIsEmpty();
        promise1EachByItself();
        promise2Row();
        promise2Items();
        promise2InPlace();
        promise2AllRows();
        promise3Bytes();
        promise3Shorts();
        promise3Ints();
        promise3WhatIsKept();
        promise3Places();
        promise4Ends();
        promise4Over();
        promise4Lanes();
        promise4Whole();
        promise4KeepsCutItems();
        promise5Drop();
        due.end();
    }

    private static void shows(String when, DoorsBehind x, int row, int... items) {
        for (int i = 0; i < items.length; i++) {
            due.is(when + ": item " + i + " of row " + row, x.would(row, i, 1, 0) - 1, items[i]);
        }
        due.is(when + ": no item " + items.length + " of row " + row, x.would(row, items.length, 1, 0), Due.PLACE);
    }

    // ---- promise 1: "No HOUSE."

    private static void promise1AllIsEmpty() {
        DoorsBehind x = new DoorsBehind();
        for (int k = 0; k <= 8; k++) due.is("new: count(" + k + ")", x.count(k), 0);
        due.is("new: fault()", x.fault(), 0);
        due.is("new: status()", x.status(), 0);
        due.ledger("new", x);
        due.trace("new", x);
        for (int row = 0; row < 8; row++) {
            due.is("new: set", x.set(row, 0, 0), Due.NULL);
            due.is("new: copy", x.copy(row, 0, row, 0, 0), Due.NULL);
            due.is("new: drop", x.drop(row), Due.NULL);
        }
        for (int k = 0; k < 2; k++) {
            due.is("new: restore(" + k + ")", x.restore(k), Due.STATE);
            due.is("new: image(" + k + ")", x.image(k), Due.STATE);
        }
        due.is("new: undo()", x.undo(), Due.STATE);
        due.is("new: rule(0, 0)", x.rule(0, 0), Due.STATE);
        due.is("new: room(0, 0)", x.room(0, 0), Due.BAD);
        due.is("new: door(0, 0)", x.door(0, 0), Due.BAD);
        due.is("new: feed(0)", x.feed(0), 1);
    }

    private static void promise1EachByItself() {
        DoorsBehind x = new DoorsBehind(), y = new DoorsBehind();
        Due.read(x, STAR);
        x.row(0, 0, 1);
        x.errand(0, 0, 1);
        x.image(0);
        x.ask(0, 0);
        x.feed(1);
        x.house();
        x.feed(1);
        x.drop(5);
        for (int k = 0; k <= 8; k++) due.is("beside another: count(" + k + ")", y.count(k), 0);
        due.is("beside another: fault()", y.fault(), 0);
        due.is("beside another: status()", y.status(), 0);
        due.is("beside another: restore(0)", y.restore(0), Due.STATE);
        due.trace("beside another", y);
        due.ledger("beside another", y);
    }

    // ---- promise 2: "ROWS 0 .. 7", "LANE (0 bytes, 1 shorts, 2 ints)", "0 to 40 ITEMS, 0 at first"

    private static void promise2Row() {
        DoorsBehind x = new DoorsBehind();
        due.is("row(0, 0, 0)", x.row(0, 0, 0), 0);
        due.is("row(7, 0, 0)", x.row(7, 0, 0), 0);
        due.is("row(-1, 0, 0)", x.row(-1, 0, 0), Due.BAD);
        due.is("row(8, 0, 0)", x.row(8, 0, 0), Due.BAD);
        due.is("row(0, 2, 0)", x.row(0, 2, 0), 0);
        due.is("row(0, -1, 0)", x.row(0, -1, 0), Due.BAD);
        due.is("row(0, 3, 0)", x.row(0, 3, 0), Due.BAD);
        for (int lane = 0; lane < 3; lane++) {
            for (int n = 0; n <= 40; n++) {
                due.is("row(3, " + lane + ", " + n + ")", x.row(3, lane, n), n);
                if (n % 8 == 0) due.is("its items", x.drop(3), n);
            }
            due.is("row(4, " + lane + ", 41)", x.row(4, lane, 41), Due.BAD);
            due.is("row(4, " + lane + ", MAX)", x.row(4, lane, MOST), Due.BAD);
            due.is("row(4, " + lane + ", -1)", x.row(4, lane, -1), Due.SIZE);
            due.is("row(4, " + lane + ", MIN)", x.row(4, lane, LEAST), Due.SIZE);
        }
        due.is("no row was made", x.drop(4), Due.NULL);
    }

    private static void promise2Items() {
        DoorsBehind x = Due.in(STAR);
        for (int lane = 0; lane < 3; lane++) {
            x.row(0, lane, 40);
            shows("0 at first", x, 0, new int[40]);
        }
        x.row(1, 0, 0);
        shows("a row of none", x, 1);
    }

    private static void promise2InPlace() {
        DoorsBehind x = Due.in(STAR);
        Due.fill(x, 0, 0, 1, 2, 3, 4);
        x.row(0, 0, 4);
        shows("in place of as many", x, 0, 0, 0, 0, 0);
        Due.fill(x, 0, 0, 1, 2, 3, 4);
        x.row(0, 0, 2);
        shows("in place of more", x, 0, 0, 0);
        x.row(0, 0, 4);
        shows("in place of fewer", x, 0, 0, 0, 0, 0);
        Due.fill(x, 0, 0, 5, 6);
        x.row(0, 2, 2);
        due.is("another lane", x.set(0, 0, 40000), 40000);
        shows("another lane", x, 0, ASTRAY, 0);
        due.is("row(0, 1, 41)", x.row(0, 1, 41), Due.BAD);
        due.is("row(0, 1, -1)", x.row(0, 1, -1), Due.SIZE);
        due.is("its lane is as it was", x.set(0, 1, 40000), 40000);
        shows("its items are as they were", x, 0, ASTRAY, ASTRAY);
        due.is("count(0)", x.count(0), 1);
    }

    private static void promise2AllRows() {
        DoorsBehind x = Due.in(STAR);
        for (int row = 0; row < 8; row++) {
            due.is("row(" + row + ")", x.row(row, row % 3, 40), 40);
            due.is("count(0)", x.count(0), row + 1);
            due.is("its last", x.set(row, 39, row % 7), row % 7);
            due.is("its first", x.set(row, 0, 6 - row % 7), 6 - row % 7);
        }
        for (int row = 0; row < 8; row++) {
            due.is("the last of " + row, x.would(row, 39, 1, 0) - 1, row % 7);
            due.is("the first of " + row, x.would(row, 0, 1, 0) - 1, 6 - row % 7);
            due.is("between", x.would(row, 20, 1, 0) - 1, 0);
        }
        for (int row = 0; row < 8; row++) due.is("drop(" + row + ")", x.drop(row), 40);
    }

    // ---- promise 3: "its lowest bits, as many as the LANE has: what it is then"

    private static void wraps(String lane, DoorsBehind x, int row, int[][] pairs) {
        for (int[] p : pairs) {
            due.is(lane + " of " + p[0], x.set(row, 0, p[0]), p[1]);
            due.is("its status", x.status(), 0);
        }
    }

    private static void promise3Bytes() {
        DoorsBehind x = new DoorsBehind();
        x.row(0, 0, 1);
        wraps("a byte", x, 0, new int[][] {{0, 0}, {127, 127}, {128, -128}, {255, -1}, {256, 0}, {257, 1}, {-1, -1}, {-128, -128},
            {-129, 127}, {-256, 0}, {32767, -1}, {32768, 0}, {65535, -1}, {MOST, -1}, {LEAST, 0}, {LEAST + 127, 127}, {LEAST + 128, -128}});
    }

    private static void promise3Shorts() {
        DoorsBehind x = new DoorsBehind();
        x.row(0, 1, 1);
        wraps("a short", x, 0, new int[][] {{0, 0}, {127, 127}, {128, 128}, {255, 255}, {32767, 32767}, {32768, -32768}, {65535, -1},
            {65536, 0}, {65537, 1}, {-1, -1}, {-32768, -32768}, {-32769, 32767}, {-65536, 0}, {MOST, -1}, {LEAST, 0},
            {LEAST + 32767, 32767}, {LEAST + 32768, -32768}});
    }

    private static void promise3Ints() {
        DoorsBehind x = new DoorsBehind();
        x.row(0, 2, 1);
        int[] same = {0, 127, 128, 255, 256, 32767, 32768, 65535, 65536, MOST, -1, -128, -129, -32768, -32769, -65536, LEAST};
        for (int v : same) wraps("an int", x, 0, new int[][] {{v, v}});
        int[] likeRefusals = {Due.NONE, Due.BAD, Due.STATE, Due.FULL, Due.NULL, Due.PLACE, Due.SIZE, Due.EMPTY};
        for (int v : likeRefusals) wraps("an int like a refusal", x, 0, new int[][] {{v, v}});
    }

    private static void promise3WhatIsKept() {
        DoorsBehind x = Due.in(STAR);
        Due.fill(x, 0, 0, 256, 257, 262, 263, -256, -255, 65536 + 3, -1);
        shows("bytes", x, 0, 0, 1, 6, ASTRAY, 0, 1, 3, ASTRAY);
        Due.fill(x, 1, 1, 256, 65536, 65537, 65542, 65543, -65535, -1, 32768);
        shows("shorts", x, 1, ASTRAY, 0, 1, 6, ASTRAY, 1, ASTRAY, ASTRAY);
        Due.fill(x, 2, 2, 256, 65536, 6, 7, -1, LEAST, MOST, 1 << 16);
        shows("ints", x, 2, ASTRAY, ASTRAY, 6, ASTRAY, ASTRAY, ASTRAY, ASTRAY, ASTRAY);
    }

    private static void promise3Places() {
        DoorsBehind x = Due.in(STAR);
        for (int n : new int[] {1, 2, 39, 40}) {
            x.row(0, 0, n);
            due.is("the first of " + n, x.set(0, 0, 5), 5);
            due.is("the last of " + n, x.set(0, n - 1, 6), 6);
            due.is("behind the last of " + n, x.set(0, n, 6), Due.PLACE);
            due.is("status()", x.status(), 2);
            due.is("ahead of the first of " + n, x.set(0, -1, 6), Due.PLACE);
            due.is("the last is kept", x.would(0, n - 1, 1, 0) - 1, 6);
            due.is("the first is kept", x.would(0, 0, 1, 0) - 1, n == 1 ? 6 : 5);
        }
        x.row(1, 2, 0);
        for (int i : new int[] {LEAST, -1, 0, 1, 39, 40, MOST}) due.is("a row of none", x.set(1, i, 0), Due.PLACE);
        for (int i : new int[] {LEAST, -1, 0, MOST}) due.is("a missing row", x.set(2, i, 0), Due.NULL);
        for (int i : new int[] {LEAST, -1, 0, MOST}) {
            due.is("set(-1, " + i + ", 0)", x.set(-1, i, 0), Due.BAD);
            due.is("set(8, " + i + ", 0)", x.set(8, i, 0), Due.BAD);
        }
        x.row(0, 0, 40);
        x.row(0, 0, 3);
        due.is("behind the last of a shorter one", x.set(0, 3, 1), Due.PLACE);
        x.drop(0);
        due.is("of a dropped one", x.set(0, 0, 1), Due.NULL);
    }

    // ---- promise 4: "NULL; STORE; PLACE (i, j, n below 0, or beyond an end)"

    /** Row 0 has 4 items, row 1 has 3. */
    private static DoorsBehind pair() {
        DoorsBehind x = Due.in(STAR);
        Due.fill(x, 0, 0, 1, 2, 3, 4);
        Due.fill(x, 1, 0, 5, 5, 6);
        return x;
    }

    private static void copies(String when, int i, int j, int n, int... want) {
        DoorsBehind x = pair();
        due.is(when, x.copy(0, i, 1, j, n), n);
        due.is("its status", x.status(), 0);
        shows(when, x, 1, want);
        shows(when, x, 0, 1, 2, 3, 4);
    }

    private static void refuses(int i, int j, int n) {
        DoorsBehind x = pair();
        String when = "copy(0, " + i + ", 1, " + j + ", " + n + ")";
        due.is(when, x.copy(0, i, 1, j, n), Due.PLACE);
        due.is("its status", x.status(), 2);
        shows(when, x, 1, 5, 5, 6);
        shows(when, x, 0, 1, 2, 3, 4);
    }

    private static void promise4Ends() {
        copies("none", 0, 0, 0, 5, 5, 6);
        copies("none, from the end", 4, 0, 0, 5, 5, 6);
        copies("none, to the end", 0, 3, 0, 5, 5, 6);
        copies("none, from end to end", 4, 3, 0, 5, 5, 6);
        copies("the first", 0, 0, 1, 1, 5, 6);
        copies("the last to the last", 3, 2, 1, 5, 5, 4);
        copies("as many as there is room for", 0, 0, 3, 1, 2, 3);
        copies("the last three", 1, 0, 3, 2, 3, 4);
        copies("the last two", 2, 1, 2, 5, 3, 4);
        int[][] beyond = {{-1, 0, 0}, {0, -1, 0}, {0, 0, -1}, {5, 0, 0}, {0, 4, 0}, {4, 0, 1}, {0, 3, 1}, {3, 0, 2}, {0, 2, 2}, {2, 0, 3},
            {0, 1, 3}, {0, 0, 4}, {-1, 0, 1}, {0, -1, 1}, {-1, -1, 1}, {1, 1, -1}, {-1, 0, 4}, {MOST, 0, 1}, {0, MOST, 1},
            {0, 0, MOST}, {1, 1, MOST}, {2, 2, MOST - 1}, {LEAST, 0, 1}, {0, LEAST, 1}, {0, 0, LEAST}, {MOST, MOST, 2}, {LEAST, 0, MOST}};
        for (int[] b : beyond) refuses(b[0], b[1], b[2]);
    }

    /** "as they were ahead" */
    private static void promise4Over() {
        DoorsBehind x = Due.in(STAR);
        Due.fill(x, 0, 2, 1, 2, 3, 4, 5);
        due.is("forward by one", x.copy(0, 0, 0, 1, 4), 4);
        shows("forward by one", x, 0, 1, 1, 2, 3, 4);
        Due.fill(x, 0, 2, 1, 2, 3, 4, 5);
        due.is("backward by one", x.copy(0, 1, 0, 0, 4), 4);
        shows("backward by one", x, 0, 2, 3, 4, 5, 5);
        Due.fill(x, 0, 1, 1, 2, 3, 4, 5);
        due.is("forward by two", x.copy(0, 0, 0, 2, 3), 3);
        shows("forward by two", x, 0, 1, 2, 1, 2, 3);
        due.is("onto itself", x.copy(0, 0, 0, 0, 5), 5);
        shows("onto itself", x, 0, 1, 2, 1, 2, 3);
        due.is("onto itself, one too many", x.copy(0, 0, 0, 0, 6), Due.PLACE);
        due.is("forward, beyond its end", x.copy(0, 0, 0, 1, 5), Due.PLACE);
        due.is("backward, beyond its end", x.copy(0, 1, 0, 0, 5), Due.PLACE);
        shows("refused", x, 0, 1, 2, 1, 2, 3);
    }

    private static void promise4Lanes() {
        DoorsBehind x = new DoorsBehind();
        for (int k = 0; k < 6; k++) x.row(k, k / 2, 2);
        for (int a = 0; a < 6; a++) {
            for (int b = 0; b < 6; b++) {
                String call = "copy(" + a + ", " + b + ")";
                due.is(call, x.copy(a, 0, b, 0, 2), a / 2 == b / 2 ? 2 : Due.STORE);
                due.is(call + " of none", x.copy(a, 2, b, 2, 0), a / 2 == b / 2 ? 0 : Due.STORE);
                due.is(call + " of no place", x.copy(a, 0, b, 0, 3), a / 2 == b / 2 ? Due.PLACE : Due.STORE);
            }
            due.is("from " + a + " to a missing one", x.copy(a, 0, 7, 0, 0), Due.NULL);
            due.is("from a missing one to " + a, x.copy(7, 9, a, -1, -1), Due.NULL);
        }
        x.drop(0);
        due.is("from a dropped one", x.copy(0, 0, 1, 0, 1), Due.NULL);
        due.is("to a dropped one", x.copy(1, 0, 0, 0, 1), Due.NULL);
        for (int row : new int[] {LEAST, -1, 8, MOST}) {
            due.is("copy(" + row + ", ..)", x.copy(row, 0, 1, 0, 0), Due.BAD);
            due.is("copy(.., " + row + ", ..)", x.copy(1, 0, row, 0, 0), Due.BAD);
            due.is("copy(" + row + ", ..), BAD ahead of NULL", x.copy(row, 0, 7, 0, 0), Due.BAD);
            due.is("copy(.., " + row + ", ..), BAD ahead of NULL", x.copy(7, 0, row, 0, 0), Due.BAD);
        }
    }

    private static void promise4Whole() {
        DoorsBehind x = Due.in(STAR);
        x.row(0, 0, 40);
        for (int k = 0; k < 40; k++) x.set(0, k, k % 7);
        x.row(7, 0, 40);
        due.is("a whole row", x.copy(0, 0, 7, 0, 40), 40);
        for (int k = 0; k < 40; k++) due.is("item " + k, x.would(7, k, 1, 0) - 1, k % 7);
        due.is("one too many", x.copy(0, 0, 7, 0, 41), Due.PLACE);
        due.is("39 from the second on", x.copy(0, 1, 7, 0, 39), 39);
        due.is("40 from the second on", x.copy(0, 1, 7, 0, 40), Due.PLACE);
        due.is("the first then", x.would(7, 0, 1, 0) - 1, 1);
        due.is("the last but one then", x.would(7, 38, 1, 0) - 1, 39 % 7);
        due.is("the last as it was", x.would(7, 39, 1, 0) - 1, 39 % 7);
    }

    /** A row that became shorter, and longer again, holds nothing of what was copied to it before. */
    private static void promise4KeepsCutItems() {
        DoorsBehind x = Due.in(STAR);
        Due.fill(x, 0, 1, 65537, 3);
        x.row(1, 1, 2);
        x.copy(0, 0, 1, 0, 2);
        shows("copied", x, 1, 1, 3);
        x.set(0, 0, 6);
        shows("the copy stays", x, 1, 1, 3);
        x.drop(0);
        shows("the copy stays when the other one is dropped", x, 1, 1, 3);
        x.row(1, 1, 1);
        x.row(1, 1, 2);
        shows("0 at first", x, 1, 0, 0);
    }

    // ---- promise 5: "how many ITEMS it had. BAD; NULL."

    private static void promise5Drop() {
        DoorsBehind x = new DoorsBehind();
        x.row(0, 0, 0);
        x.row(1, 1, 1);
        x.row(6, 2, 39);
        x.row(7, 0, 40);
        due.is("drop(2)", x.drop(2), Due.NULL);
        due.is("status()", x.status(), 1);
        due.is("drop(0)", x.drop(0), 0);
        due.is("status()", x.status(), 0);
        due.is("count(0)", x.count(0), 3);
        due.is("drop(0) again", x.drop(0), Due.NULL);
        due.is("drop(1)", x.drop(1), 1);
        due.is("drop(6)", x.drop(6), 39);
        due.is("drop(7)", x.drop(7), 40);
        due.is("drop(7) again", x.drop(7), Due.NULL);
        due.is("count(0)", x.count(0), 0);
        for (int row : new int[] {LEAST, -1, 8, MOST}) due.is("drop(" + row + ")", x.drop(row), Due.BAD);
        due.is("status() as it was", x.status(), 1);
        due.is("a row anew", x.row(7, 1, 2), 2);
        due.is("its lane", x.set(7, 1, 65535), -1);
        due.is("its end", x.set(7, 2, 0), Due.PLACE);
        due.is("drop(7) of the new one", x.drop(7), 2);
    }
}
