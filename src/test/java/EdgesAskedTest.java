/** The edges of promises 28 to 33: kinds, asks, the trace, counts, the status. */
public final class EdgesAskedTest {
    private static final Due due = new Due("EdgesAskedTest");
    private static final int LEAST = Integer.MIN_VALUE, MOST = Integer.MAX_VALUE;
    /** Eight doors, of each kind one at least; the last two as the first two. */
    private static final String EIGHT = "h9,60,63;r0;r1;l0,1,9;b0,1,9;c0,1,9;k0,1,9;s0,1,9;l1,0,0;b1,0,0;s1,0,0;";
    private static final int[] KINDS = {1, 2, 3, 4, 5, 1, 2, 5};

    public static void main(String[] args) {
        promise28Kind();
        promise29As();
        promise30Asks();
        promise30AsksOfWear();
        promise30Refused();
        promise31Trace();
        promise31WhatIsLeft();
        promise32What();
        promise32Least();
        promise32Most();
        promise33EachFinding();
        promise33EachCallComesWell();
        promise33EachErrand();
        promise33WhatIsLeft();
        due.end();
    }

    // ---- promise 28: "The KIND of a DOOR, as told (1 to 5). BAD."

    private static void promise28Kind() {
        DoorsBehind x = new DoorsBehind();
        for (int one : new int[] {LEAST, -1, 0, 7, 8, MOST}) due.is("kind(" + one + ") without a house", x.kind(one), Due.BAD);
        Due.read(x, EIGHT);
        for (int one = 0; one < 8; one++) due.is("kind(" + one + ")", x.kind(one), KINDS[one]);
        for (int one : new int[] {LEAST, -1, 8, MOST}) due.is("kind(" + one + ")", x.kind(one), Due.BAD);
        Due.read(x, "h1,1,0;r0;r0;s0,1,0;");
        due.is("the only door", x.kind(0), 5);
        due.is("no second one", x.kind(1), Due.BAD);
    }

    // ---- promise 29: "taken as one of a KIND (0 .. 5): its number. BAD; KIND: it is no such one."

    private static void promise29As() {
        String[] is = {"", "110000", "111000", "110100", "100010", "100011"};
        DoorsBehind x = new DoorsBehind();
        due.is("as(0, 0) without a house", x.as(0, 0), Due.BAD);
        Due.read(x, EIGHT);
        for (int one = 0; one < 8; one++) {
            for (int kind = 0; kind <= 5; kind++) {
                boolean fits = is[KINDS[one]].charAt(kind) == '1';
                due.is("as(" + one + ", " + kind + ")", x.as(one, kind), fits ? one : Due.KIND);
                due.is("status()", x.status(), fits ? 0 : 3);
            }
            for (int kind : new int[] {LEAST, -1, 6, MOST}) due.is("as(" + one + ", " + kind + ")", x.as(one, kind), Due.BAD);
        }
        for (int one : new int[] {LEAST, -1, 8, MOST}) {
            for (int kind = -1; kind <= 6; kind++) due.is("as(" + one + ", " + kind + ")", x.as(one, kind), Due.BAD);
        }
    }

    // ---- promise 30: "An ASK (0, 1) of a DOOR. BAD. THE TRACE is empty ahead of it."

    private static void asks(DoorsBehind x, int one, int what, int want, int... trace) {
        String call = "ask(" + one + ", " + what + ")";
        due.is(call, x.ask(one, what), want);
        due.trace(call, x, trace);
    }

    /** Of new doors, with the greatest and the least N, and the greatest number a door can have. */
    private static void promise30Asks() {
        DoorsBehind x = Due.in(EIGHT);
        asks(x, 0, 0, 9, 11, 10, 21, 20);
        asks(x, 0, 1, 0, 21, 20);
        asks(x, 1, 0, -(9 + 2), 12, 11, 10, 24, 21, 20);
        asks(x, 1, 1, 2, 24, 21, 20);
        asks(x, 2, 0, 9 + 2 - 1000, 11, 10, 22, 21, 20);
        asks(x, 2, 1, 2 - 1000, 22, 21, 20);
        asks(x, 3, 0, 9 - 100, 13, 10);
        asks(x, 3, 1, 3 - (9 - 100), 23, 20, 13, 10);
        asks(x, 4, 0, 2 * (9 - 100), 14, 13, 10);
        asks(x, 4, 1, 4 - 2 * (9 - 100), 23, 20, 14, 13, 10);
        asks(x, 5, 0, 0 + 5, 11, 10, 21, 20);
        asks(x, 5, 1, 5, 21, 20);
        asks(x, 6, 0, -(0 + 12), 12, 11, 10, 24, 21, 20);
        asks(x, 6, 1, 12, 24, 21, 20);
        asks(x, 7, 0, -200, 14, 13, 10);
        asks(x, 7, 1, 7 + 200, 23, 20, 14, 13, 10);
        due.is("status() is left", x.status(), 0);
    }

    /** WEAR is in MARK of latches (and of what they are), not in that of locks. */
    private static void promise30AsksOfWear() {
        DoorsBehind x = Due.in("h9,60,63;r0;r0;l0,1,9;b0,1,9;c0,1,9;k0,1,9;s0,1,9;");
        Due.fill(x, 0, 0, 0, 1, 2, 3, 4);
        for (int d = 0; d < 5; d++) {
            for (int k = 0; k < 13; k++) x.errand(0, d, 1);
        }
        due.is("WEAR of a latch", x.door(0, 3), 13);
        due.is("WEAR of a seal", x.door(4, 3), 1);
        asks(x, 0, 0, 9 + 13, 11, 10, 21, 20);
        asks(x, 0, 1, 13, 21, 20);
        asks(x, 1, 0, -(9 + 2 * 14), 12, 11, 10, 24, 21, 20);
        asks(x, 1, 1, 28, 24, 21, 20);
        asks(x, 2, 0, 9 + 15 - 1000, 11, 10, 22, 21, 20);
        asks(x, 2, 1, 15 - 1000, 22, 21, 20);
        asks(x, 3, 0, -91, 13, 10);
        asks(x, 3, 1, 94, 23, 20, 13, 10);
        asks(x, 4, 0, -182, 14, 13, 10);
        asks(x, 4, 1, 186, 23, 20, 14, 13, 10);
        x.oil(0);
        asks(x, 0, 1, 0, 21, 20);
    }

    private static void promise30Refused() {
        DoorsBehind x = new DoorsBehind();
        for (int what = 0; what < 2; what++) due.is("ask(0, " + what + ") without a house", x.ask(0, what), Due.BAD);
        Due.read(x, EIGHT);
        due.trace("ahead of all asks", x);
        x.ask(3, 1);
        for (int one : new int[] {LEAST, -1, 8, MOST}) {
            for (int what = -1; what <= 2; what++) due.is("ask(" + one + ", " + what + ")", x.ask(one, what), Due.BAD);
        }
        for (int what : new int[] {LEAST, -1, 2, MOST}) {
            for (int one = 0; one < 8; one++) due.is("ask(" + one + ", " + what + ")", x.ask(one, what), Due.BAD);
        }
        due.trace("what is refused leaves it", x, 23, 20, 13, 10);
        asks(x, 3, 0, -91, 13, 10);
    }

    // ---- promise 31: "Number i of THE TRACE; NONE."

    private static void promise31Trace() {
        DoorsBehind x = Due.in(EIGHT);
        for (int i : new int[] {LEAST, -1, 0, 1, 15, 16, MOST}) due.is("an empty one", x.trace(i), Due.NONE);
        x.ask(1, 0);
        int[] longest = {12, 11, 10, 24, 21, 20};
        for (int i = 0; i < 6; i++) due.is("trace(" + i + ")", x.trace(i), longest[i]);
        for (int i : new int[] {LEAST, -1, 6, 7, 15, 16, 17, MOST}) due.is("beside six", x.trace(i), Due.NONE);
        x.ask(3, 0);
        due.is("the last of two", x.trace(1), 10);
        for (int i = 2; i < 7; i++) due.is("nothing of the longer one", x.trace(i), Due.NONE);
        for (int k = 0; k < 20; k++) x.ask(1, 0);
        due.trace("behind many asks", x, longest);
    }

    private static void promise31WhatIsLeft() {
        DoorsBehind x = Due.in(EIGHT);
        x.row(0, 0, 1);
        x.ask(4, 1);
        x.errand(0, 0, 1);
        x.undo();
        x.image(0);
        x.restore(0);
        x.kind(0);
        x.as(0, 0);
        x.who(0, 0, 0, 0, 1, 1);
        x.door(2, 4);
        x.house();
        due.trace("what is no ask leaves it", x, 23, 20, 14, 13, 10);
    }

    // ---- promise 32: counts, 0 to 8

    private static void promise32What() {
        for (DoorsBehind x : new DoorsBehind[] {new DoorsBehind(), Due.in(EIGHT)}) {
            for (int what : new int[] {LEAST, -1, 9, MOST}) due.is("count(" + what + ")", x.count(what), Due.BAD);
        }
    }

    private static void promise32Least() {
        DoorsBehind x = new DoorsBehind();
        for (int what = 0; what <= 8; what++) due.is("new: count(" + what + ")", x.count(what), 0);
        Due.read(x, "h1,1,0;r0;r0;l0,1,0;");
        int[] want = {0, 1, 2, 0, 0, 0, 0, 0, 0};
        for (int what = 0; what <= 8; what++) due.is("the least house: count(" + what + ")", x.count(what), want[what]);
        x.row(0, 0, 0);
        due.is("a row of none is one", x.count(0), 1);
        x.errand(0, 0, 0);
        due.is("EMPTY at once", x.count(6), 1);
        due.is("no WEAR", x.count(5), 0);
        due.is("an act", x.count(7), 1);
    }

    private static void promise32Most() {
        DoorsBehind x = Due.in("h9,60,0;" + "r20;".repeat(8) + "l0,1,0;l1,2,0;l2,3,0;l3,4,0;l4,5,0;l5,6,0;l6,7,0;l7,0,0;");
        for (int row = 0; row < 8; row++) x.row(row, 2, 8);
        for (int k = 0; k < 8; k++) x.set(0, k, k);
        due.is("WEIGHT of all", x.count(3), 160);
        for (int n = 1; n <= 8; n++) x.errand(0, 0, n);
        int[] want = {8, 8, 8, 0, 160, 36, 17, 8, 0};
        for (int what = 0; what <= 8; what++) due.is("all taken: count(" + what + ")", x.count(what), want[what]);
        for (int k = 0; k < 20; k++) x.errand(0, 0, 8);
        due.is("WEAR of all", x.count(5), 196);
        due.is("acts", x.count(7), 24);
        for (int r = 0; r < 8; r++) x.bring(r, 20);
        for (int n = 1; n <= 8; n++) x.errand(0, 0, n);
        due.is("TAKEN in all", x.count(4), 320);
        due.is("acts", x.count(7), 24);
        for (int k = 0; k < 110; k++) x.feed('h');
        due.is("the tape", x.count(8), 110);
        for (int k = 0; k < 24; k++) x.undo();
        due.is("acts", x.count(7), 0);
        due.is("TAKEN in all then", x.count(4), 160);
    }

    // ---- promise 33: "the number of its FINDING; 0: it had none, or there was none"

    private static void promise33EachFinding() {
        DoorsBehind x = Due.in(EIGHT);
        x.row(0, 0, 2);
        x.row(1, 1, 2);
        x.row(0, 0, -1);
        due.is("row: SIZE", x.status(), 4);
        x.set(7, 0, 0);
        due.is("set: NULL", x.status(), 1);
        x.set(0, 2, 0);
        due.is("set: PLACE", x.status(), 2);
        x.copy(0, 0, 7, 0, 0);
        due.is("copy: NULL", x.status(), 1);
        x.copy(0, 0, 1, 0, 0);
        due.is("copy: STORE", x.status(), 5);
        x.copy(0, 0, 0, 0, 3);
        due.is("copy: PLACE", x.status(), 2);
        x.drop(7);
        due.is("drop: NULL", x.status(), 1);
        x.as(0, 2);
        due.is("as: KIND", x.status(), 3);
        int[] lack = {1, 2};
        for (int k = 0; k < 2; k++) {
            int row = k == 0 ? 7 : 0, i = 3;
            x.row(2, 0, 0);
            x.errand(row, i, 0);
            due.is("errand", x.status(), lack[k]);
            x.row(2, 0, 0);
            x.would(row, i, 0, 0);
            due.is("would", x.status(), lack[k]);
            x.row(2, 0, 0);
            x.needs(row, i, 0, 0);
            due.is("needs", x.status(), lack[k]);
            x.row(2, 0, 0);
            x.who(0, 0, row, i, 0, 0);
            due.is("who", x.status(), lack[k]);
            x.row(2, 0, 0);
            x.sticks(row, i, 0, 0, 0);
            due.is("sticks", x.status(), lack[k]);
        }
    }

    /** "0: it had none": each call with a row, and as(), behind one that had a finding. */
    private static void promise33EachCallComesWell() {
        Twin.Call[] calls = {x -> x.row(3, 0, 2), x -> x.set(0, 0, 0), x -> x.copy(0, 0, 0, 0, 1), x -> x.drop(0), x -> x.errand(0, 0, 1),
            x -> x.would(0, 0, 1, 0), x -> x.would(0, 0, 0, 0), x -> x.would(0, 0, 1, 4), x -> x.needs(0, 0, 1, 0), x -> x.needs(0, 0, 0, 2),
            x -> x.who(0, 0, 0, 0, 1, 1), x -> x.who(0, 3, 0, 0, 1, 7), x -> x.sticks(0, 0, 1, 5, 0), x -> x.sticks(0, 0, 0, 5, 1),
            x -> x.as(0, 0)};
        for (int k = 0; k < calls.length; k++) {
            DoorsBehind x = Due.in(EIGHT);
            x.row(0, 0, 1);
            x.drop(7);
            due.is("ahead of it", x.status(), 1);
            calls[k].on(x);
            due.is("call " + k + " comes well", x.status(), 0);
            due.is("and so it stays", x.status(), 0);
        }
    }

    private static void promise33EachErrand() {
        DoorsBehind x = Due.in("h2,9,1;r0;r0;r5;r6;l0,1,1;k0,1,1;s0,2,0;l0,1,9;b1,3,2;");
        int[][] routes = {{9}, {1}, {2}, {2}, {3, 4}, {0, 4}, {0}, {}};
        int[] want = {6, 7, 0, 8, 9, 10, 11, 11};
        for (int k = 0; k < routes.length; k++) {
            Due.fill(x, 0, 0, routes[k]);
            due.is("what it would come to", x.would(0, 0, routes[k].length, 0), want[k] == 0 ? 5 : 1000 + want[k]);
            due.is("what is foretold is no finding", x.status(), 0);
            due.is("what it comes to", x.errand(0, 0, routes[k].length), want[k] == 0 ? 5 : -1000010 - want[k]);
            due.is("errand " + k, x.status(), want[k]);
        }
    }

    /** BAD, STATE, FULL leave it, and so does every call without a row. */
    private static void promise33WhatIsLeft() {
        DoorsBehind x = Due.in(EIGHT);
        x.row(0, 0, 1);
        x.errand(0, 0, 1);
        x.set(0, 1, 0);
        x.row(8, 0, 0);
        x.row(0, 0, 41);
        x.set(8, 0, 0);
        x.copy(0, 0, 8, 0, 0);
        x.drop(8);
        x.errand(0, 0, 9);
        x.would(0, 0, 0, 5);
        x.needs(0, 0, 0, 3);
        x.who(8, 0, 0, 0, 0, 0);
        x.sticks(0, 0, 0, 11, 0);
        x.as(8, 0);
        x.as(0, 6);
        due.is("BAD leaves it", x.status(), 2);
        x.feed(300);
        x.feed('h');
        x.house();
        x.fault();
        x.ledger(0);
        x.oil(0);
        x.oil(0);
        x.bring(1, 4);
        x.bring(1, 4);
        x.rule(0, 5);
        x.undo();
        x.door(0, 0);
        x.room(0, 0);
        x.way(1, -1);
        x.sets(1, 0);
        x.share(0, 1);
        x.byTurns(1);
        x.drawn(1, 1, 0);
        x.image(0);
        x.restore(0);
        x.restore(1);
        x.kind(0);
        x.ask(0, 0);
        x.trace(0);
        x.count(0);
        due.is("calls without a row leave it", x.status(), 2);
        Due.read(x, EIGHT);
        due.is("another house leaves it", x.status(), 2);
        for (int k = 0; k < 111; k++) x.feed('h');
        due.is("FULL leaves it", x.status(), 2);
        DoorsBehind y = new DoorsBehind();
        y.drop(0);
        y.errand(0, 0, 1);
        y.would(0, 0, 1, 0);
        y.needs(0, 0, 1, 0);
        y.sticks(0, 0, 1, 1, 0);
        due.is("STATE leaves it", y.status(), 1);
    }
}
