/** Promises 17 to 25: what is foretold; nothing changes by it. */
public final class ForetoldTest {
    private static final Due due = new Due("ForetoldTest");

    public static void main(String[] args) {
        would();
        wouldAtFindings();
        way();
        wayByNumbers();
        needs();
        sets();
        share();
        byTurns();
        byTurnsWear();
        who();
        sticks();
        drawn();
        refused();
        nothingChanges();
        due.end();
    }

    private static void wouldBe(String when, DoorsBehind x, int i, int n, int... want) {
        for (int what = 0; what < 5; what++) {
            due.is(when + ": would(0, " + i + ", " + n + ", " + what + ")", x.would(0, i, n, what), want[what]);
            due.is(when + ": status()", x.status(), 0);
        }
    }

    private static void would() {
        DoorsBehind x = Due.in(Due.HOUSE);
        Due.fill(x, 0, 1, 0, 1, 2, 3, 4, 0);
        wouldBe("none", x, 0, 0, 1011, 0, 0, 0, 0);
        wouldBe("one", x, 0, 1, 7, 3, 1, 1, 1);
        wouldBe("two", x, 0, 2, 12, 6, 3, 2, 2);
        wouldBe("three", x, 0, 3, 3, 10, 4, 3, 3);
        wouldBe("four", x, 0, 4, 20, 11, 5, 4, 4);
        wouldBe("all round", x, 0, 5, 1011, 12, 5, 5, 0);
        wouldBe("and one more", x, 0, 6, 7, 12, 5, 5, 1);
    }

    private static void wouldAtFindings() {
        DoorsBehind x = Due.in(Due.HOUSE);
        Due.fill(x, 0, 0, 0, 1, 3, 4, 3);
        wouldBe("ASTRAY", x, 0, 3, 1006, 6, 3, 2, 2);
        x.rule(0, 0);
        wouldBe("LOCKED", x, 3, 1, 1007, 0, 0, 0, 0);
        x.rule(0, 4);
        x.errand(0, 3, 1);
        wouldBe("BROKEN", x, 3, 1, 1008, 0, 0, 0, 0);
        x.rule(2, 5);
        wouldBe("WOKEN, the door being open", x, 0, 2, 1009, 6, 3, 2, 1);
        x.rule(2, 6);
        wouldBe("not WOKEN", x, 0, 2, 12, 6, 3, 2, 2);
        x.rule(1, 2);
        wouldBe("DARK", x, 0, 2, 1010, 6, 3, 2, 1);
        x.errand(0, 0, 1);
        wouldBe("EMPTY", x, 0, 1, 1011, 3, 1, 1, 1);
    }

    private static void wayIs(DoorsBehind x, int room, int... want) {
        due.is("way(" + room + ", -1)", x.way(room, -1), want.length);
        for (int k = 0; k < want.length; k++) due.is("way(" + room + ", " + k + ")", x.way(room, k), want[k]);
        due.is("way behind its end", x.way(room, want.length), Due.NONE);
        due.is("way far behind its end", x.way(room, Integer.MAX_VALUE), Due.NONE);
    }

    private static void noWay(DoorsBehind x, int room) {
        for (int k = -1; k < 4; k++) due.is("way(" + room + ", " + k + ")", x.way(room, k), Due.NONE);
    }

    private static void way() {
        DoorsBehind x = Due.in(Due.HOUSE);
        noWay(x, 0);
        wayIs(x, 1, 0);
        wayIs(x, 2, 0, 1);
        wayIs(x, 3, 4, 3);
        wayIs(x, 4, 4);
        due.is("way(1, -2)", x.way(1, -2), Due.BAD);
        due.is("way(5, -1)", x.way(5, -1), Due.BAD);
        due.is("way(-1, -1)", x.way(-1, -1), Due.BAD);
        x.rule(0, 0);
        wayIs(x, 3, 0, 1, 2);
        noWay(x, 4);
        x.rule(1, 3);
        noWay(x, 3);
        x.rule(2, 3);
        noWay(x, 2);
        x.bring(0, 4);
        wayIs(x, 0);
        x.errand(0, 0, 0);
        due.is("way(0, -1) without a house", new DoorsBehind().way(0, -1), Due.BAD);
    }

    private static void wayByNumbers() {
        DoorsBehind x = Due.in("h9,9,1;r0;r1;r2;r3;r4;k0,1,1;l0,1,9;l0,1,1;l1,2,1;l1,2,0;l2,3,0;l3,4,0;");
        wayIs(x, 1, 1);
        wayIs(x, 2, 1, 4);
        wayIs(x, 3, 1, 4, 5);
        noWay(x, 4);
        x.rule(2, 8);
        wayIs(x, 1, 2);
        wayIs(x, 2, 2, 3);
    }

    private static void needsBe(String when, DoorsBehind x, int n, int many, int which, int deep) {
        due.is(when + ": RING, how many", x.needs(0, 0, n, 0), many);
        due.is(when + ": RING, which", x.needs(0, 0, n, 1), which);
        due.is(when + ": DEEP", x.needs(0, 0, n, 2), deep);
    }

    private static void needs() {
        DoorsBehind x = Due.in("h4,1,0;r1;r1;r1;r1;r1;r0;k0,1,3;k1,2,9;s2,3,5;l3,4,0;l4,5,1;");
        Due.fill(x, 0, 0, 0, 1, 2, 3, 4);
        needsBe("none", x, 0, 0, 0, 1);
        needsBe("one lock", x, 1, 1, 8, Due.NONE);
        x.rule(0, 63);
        needsBe("one lock, with keys", x, 1, 1, 8, 1);
        needsBe("two locks of one key, woken", x, 2, Due.NONE, Due.NONE, 2);
        x.rule(2, 60);
        needsBe("two locks of one key", x, 2, 1, 8, 2);
        needsBe("a seal", x, 3, 2, 40, 3);
        needsBe("a latch of no noise", x, 4, 2, 40, 3);
        needsBe("nothing there", x, 5, Due.NONE, Due.NONE, Due.NONE);
        x.bring(5, 1);
        needsBe("all", x, 5, 2, 40, 4);
        x.rule(1, 3);
        needsBe("dark", x, 5, Due.NONE, Due.NONE, Due.NONE);
        DoorsBehind y = Due.in("h9,1,0;r1;r0;c0,1,9;");
        y.row(0, 0, 2);
        for (int k = 0; k < 26; k++) y.errand(0, 0, 1);
        due.is("LOUD is 61", y.door(0, 4), 61);
        due.is("deeper than any sleep", y.needs(0, 0, 2, 2), Due.NONE);
        y.undo();
        due.is("LOUD is 59", y.door(0, 4), 59);
        due.is("the sleep for 59", y.needs(0, 0, 2, 2), 59);
    }

    private static void setsAre(DoorsBehind x, int v, int many, int all, int any) {
        due.is("sets(" + v + ", 0)", x.sets(v, 0), many);
        due.is("sets(" + v + ", 1)", x.sets(v, 1), all);
        due.is("sets(" + v + ", 2)", x.sets(v, 2), any);
    }

    private static void sets() {
        DoorsBehind x = Due.in("h1,1,0;r0;r2;r3;r5;r0;r5;l0,1,0;");
        setsAre(x, 0, 1, 0, 0);
        setsAre(x, 1, 0, 0, 0);
        setsAre(x, 2, 1, 2, 2);
        setsAre(x, 5, 3, 0, 2 + 4 + 8 + 32);
        setsAre(x, 7, 2, 2, 2 + 8 + 32);
        setsAre(x, 10, 3, 0, 2 + 4 + 8 + 32);
        setsAre(x, 12, 1, 2 + 8 + 32, 2 + 8 + 32);
        setsAre(x, 15, 1, 46, 46);
        setsAre(x, 16, 0, 0, 0);
        setsAre(x, 160, 0, 0, 0);
        DoorsBehind y = Due.in("h1,1,0;r20;r20;r20;r20;r20;r20;r20;r20;l0,1,0;");
        setsAre(y, 160, 1, 255, 255);
        setsAre(y, 80, 70, 0, 255);
        setsAre(y, 140, 8, 0, 255);
        due.is("STATE ahead of BAD", new DoorsBehind().sets(-1, 0), Due.STATE);
        int[][] wrong = {{-1, 0}, {161, 0}, {0, -1}, {0, 3}};
        for (int[] w : wrong) due.is("sets(" + w[0] + ", " + w[1] + ")", x.sets(w[0], w[1]), Due.BAD);
    }

    private static void share() {
        DoorsBehind x = Due.in("h1,1,0;r0;r3;r0;r3;r1;l0,1,0;");
        int[][] want = {{0, 0, 0, 0, 0, 0}, {1, 0, 1, 0, 0, 0}, {2, 0, 1, 0, 1, 0}, {4, 0, 2, 0, 2, 0},
            {5, 0, 3, 0, 2, 0}, {6, 0, 3, 0, 3, 0}, {7, 0, 3, 0, 3, 1}, {13, 0, 6, 0, 6, 1}, {999, 0, 429, 0, 428, 142}};
        for (int[] w : want) {
            for (int r = 0; r < 5; r++) due.is("share(" + r + ", " + w[0] + ")", x.share(r, w[0]), w[r + 1]);
        }
        due.is("share(5, 1)", x.share(5, 1), Due.BAD);
        due.is("share(-1, 1)", x.share(-1, 1), Due.BAD);
        due.is("share(1, -1)", x.share(1, -1), Due.BAD);
        due.is("share(1, 1000)", x.share(1, 1000), Due.BAD);
        due.is("share(0, 0) without a house", new DoorsBehind().share(0, 0), Due.BAD);
        DoorsBehind y = Due.in("h1,1,0;r0;r0;l0,1,0;");
        due.is("all are empty", y.share(0, 999), 0);
        due.is("all are empty", y.share(1, 1), 0);
    }

    private static void turnsAre(DoorsBehind x, int... want) {
        for (int n = 0; n < 4; n++) due.is("byTurns(" + n + ")", x.byTurns(n), want[n]);
    }

    private static void byTurns() {
        DoorsBehind x = Due.in("h9,60,0;r20;r3;r7;r5;r9;l0,1,0;l0,2,0;l3,0,0;l3,4,0;");
        turnsAre(x, 0, 7, 2, 5);
        due.is("byTurns(-1)", x.byTurns(-1), Due.BAD);
        due.is("byTurns(4)", x.byTurns(4), Due.BAD);
        due.is("STATE ahead of BAD", new DoorsBehind().byTurns(4), Due.STATE);
        turnsAre(Due.in("h9,60,0;r20;r0;r6;l0,1,0;l1,2,0;"), 0, 0, 0, 0);
        turnsAre(Due.in("h9,60,0;r0;r6;l0,1,0;"), 0, 6, 6, 6);
    }

    /**
     * Two creakers to one room, loud 5 and then 7 of sleep 5, and a latch that wakes: the one who may
     * wear a door out, or wait, does so where it serves.
     */
    private static void byTurnsWear() {
        turnsAre(Due.in("h9,5,0;r0;r6;c0,1,5;"), 0, 6, 6, 6);
        turnsAre(Due.in("h9,5,63;r0;r6;r4;c0,1,5;s0,2,0;"), 0, 6, 2, 2);
        turnsAre(Due.in("h9,5,0;r0;r6;r4;l0,1,6;k0,2,0;"), 0, 0, 0, 0);
    }

    private static void whoAre(DoorsBehind x, int door, int n, int v, int... want) {
        for (int which = 0; which < 4; which++) {
            due.is("who(" + door + ", " + which + ", 0, 0, " + n + ", " + v + ")", x.who(door, which, 0, 0, n, v), want[which]);
        }
    }

    private static void who() {
        DoorsBehind x = Due.in("h1,5,4;r0;r9;r2;l0,1,5;k1,2,8;");
        Due.fill(x, 0, 0, 0, 1);
        whoAre(x, 0, 1, 9, 2 + 8, 63, 64, 0);
        whoAre(x, 0, 1, 1007, 16 + 32, 0, 0, Due.NONE);
        whoAre(x, 0, 1, 1009, 0, 960, 0, Due.NONE);
        whoAre(x, 0, 1, 1010, 4, 0, 0, Due.NONE);
        whoAre(x, 1, 1, 9, 62, 1023, 64, 0);
        whoAre(x, 1, 1, 8, 0, 0, 0, Due.NONE);
        whoAre(x, 0, 2, 1009, 2 + 8, 992, 32, 4);
        whoAre(x, 0, 2, 1007, 16 + 32, 0, 32, 0);
        whoAre(x, 0, 2, 1010, 4, 31, 0, Due.NONE);
        x.rule(2, 60);
        x.rule(1, 9);
        whoAre(x, 1, 2, 2, 62, 4 + 256, 32, 4);
        x.errand(0, 0, 2);
        x.bring(2, 2);
        whoAre(x, 1, 2, 2, 62 - 32, 260, 32, 4);
        whoAre(x, 1, 2, 1008, 32, 0, 0, Due.NONE);
        whoAre(x, 0, 0, 1011, 62, 1023, 64, 0);
        whoAre(x, 0, 0, 0, 0, 0, 0, Due.NONE);
        due.is("the door is as it was", x.kind(1), 4);
        due.is("and its number", x.door(1, 2), 8);
        int[][] wrong = {{-1, 0, 0, 0, 1, 1}, {2, 2, 0, 0, 1, 1}, {0, -1, 0, 0, 1, 1}, {0, 4, 0, 0, 1, 1}, {0, 0, -1, 0, 1, 1},
            {0, 0, 8, 0, 1, 1}, {0, 0, 0, 0, -1, 1}, {0, 0, 0, 0, 9, 1}, {0, 0, 0, 0, 1, -1}, {0, 0, 0, 0, 1, 161},
            {0, 0, 0, 0, 1, 1005}, {0, 0, 0, 0, 1, 1012}, {0, 0, 5, 0, 9, 1}};
        for (int[] w : wrong) due.is("who(" + w[0] + ", ..)", x.who(w[0], w[1], w[2], w[3], w[4], w[5]), Due.BAD);
        due.is("NULL", x.who(0, 0, 5, 9, 1, 160), Due.NULL);
        due.is("PLACE", x.who(0, 0, 0, 2, 1, 160), Due.PLACE);
        due.is("no house", new DoorsBehind().who(0, 2, 0, 0, 1, 1), Due.BAD);
    }

    private static void sticksAre(DoorsBehind x, int n, int p, long above, long below) {
        due.is("sticks(0, 0, " + n + ", " + p + ", 0)", x.sticks(0, 0, n, p, 0), above);
        due.is("sticks(0, 0, " + n + ", " + p + ", 1)", x.sticks(0, 0, n, p, 1), below);
    }

    private static void sticks() {
        DoorsBehind x = Due.in("h9,60,0;r1;r1;r1;r1;r1;r1;r1;r1;"
            + "l0,1,0;l1,2,0;l2,3,0;l3,4,0;l4,5,0;l5,6,0;l6,7,0;l7,0,0;");
        Due.fill(x, 0, 0, 0, 1, 2, 3, 4, 5, 6, 7);
        Due.fill(x, 1, 0, 0, 0, 0);
        sticksAre(x, 0, 10, 1, 1);
        sticksAre(x, 8, 0, 1, 1);
        sticksAre(x, 1, 10, 0, 1);
        sticksAre(x, 2, 5, 1, 4);
        sticksAre(x, 3, 1, 729, 1000);
        sticksAre(x, 8, 1, 43046721, 100000000);
        sticksAre(x, 8, 9, 1, 100000000);
        sticksAre(x, 8, 2, 65536, 390625);
        sticksAre(x, 4, 8, 1, 625);
        due.is("thrice through one door", x.sticks(1, 0, 3, 3, 0), 7);
        due.is("thrice through one door", x.sticks(1, 0, 3, 3, 1), 10);
        x.errand(0, 0, 2);
        sticksAre(x, 2, 0, 0, 1);
        sticksAre(x, 2, 4, 0, 1);
        due.is("p = -1", x.sticks(0, 0, 1, -1, 0), Due.BAD);
        due.is("p = 11", x.sticks(0, 0, 1, 11, 0), Due.BAD);
        due.is("what = -1", x.sticks(0, 0, 1, 1, -1), Due.BAD);
        due.is("what = 2", x.sticks(0, 0, 1, 1, 2), Due.BAD);
    }

    /**
     * By hand, seed 1: X is 16807, then 282475249, 1622650073, 984943658. In a house of three rooms
     * (0, 4, 2) and two doors: 16807 by 3 leaves 1; doors 2100 and 262: 0, 0: back to room 0, empty.
     * 282475249 by 3 leaves 1; doors 35309406: 0, 4413675: 1: room 2, 2 is taken. 1622650073 by 3
     * leaves 2; doors 202831259: 1: astray. 984943658 by 3 leaves 2; doors 123117957: 1: astray.
     */
    private static void drawn() {
        DoorsBehind x = Due.in("h9,60,0;r0;r4;r2;l0,1,0;l1,2,0;");
        int[][] want = {{0, 0, 0}, {1, 0, 0}, {2, 2, 1}, {3, 2, 1}, {4, 2, 1}};
        for (int[] w : want) {
            due.is("drawn(" + w[0] + ", 1, 0)", x.drawn(w[0], 1, 0), w[1]);
            due.is("drawn(" + w[0] + ", 1, 1)", x.drawn(w[0], 1, 1), w[2]);
        }
        due.is("drawn(60, 999999, 1)", x.drawn(60, 999999, 1) >= 0 ? 1 : 0, 1);
        int[][] wrong = {{-1, 1, 0}, {61, 1, 0}, {1, 0, 0}, {1, 1000000, 0}, {1, 1, -1}, {1, 1, 2}};
        for (int[] w : wrong) due.is("drawn(" + w[0] + ", " + w[1] + ", " + w[2] + ")", x.drawn(w[0], w[1], w[2]), Due.BAD);
        due.is("STATE ahead of BAD", new DoorsBehind().drawn(-1, 0, 9), Due.STATE);
    }

    private static void refused() {
        DoorsBehind x = new DoorsBehind();
        due.is("would: STATE", x.would(8, 0, 9, 9), Due.STATE);
        due.is("needs: STATE", x.needs(8, 0, 9, 9), Due.STATE);
        due.is("sticks: STATE", x.sticks(8, 0, 9, 99, 9), Due.STATE);
        Due.read(x, Due.HOUSE);
        Due.fill(x, 0, 0, 0, 1);
        int[][] bad = {{-1, 0, 1, 0}, {8, 0, 1, 0}, {0, 0, -1, 0}, {0, 0, 9, 0}, {0, 0, 1, -1}, {0, 0, 1, 5}, {5, 0, 1, 5}};
        for (int[] b : bad) {
            due.is("would: BAD", x.would(b[0], b[1], b[2], b[3]), Due.BAD);
            due.is("needs: BAD", x.needs(b[0], b[1], b[2], b[3]), Due.BAD);
            due.is("sticks: BAD", x.sticks(b[0], b[1], b[2], 0, b[3]), Due.BAD);
        }
        due.is("needs: what = 3", x.needs(0, 0, 1, 3), Due.BAD);
        due.is("would: NULL", x.would(5, -1, 1, 0), Due.NULL);
        due.is("needs: NULL", x.needs(5, -1, 1, 0), Due.NULL);
        due.is("sticks: NULL", x.sticks(5, -1, 1, 0, 0), Due.NULL);
        int[][] place = {{-1, 1}, {2, 1}, {0, 3}, {3, 0}, {Integer.MAX_VALUE, 8}};
        for (int[] p : place) {
            due.is("would: PLACE", x.would(0, p[0], p[1], 0), Due.PLACE);
            due.is("needs: PLACE", x.needs(0, p[0], p[1], 0), Due.PLACE);
            due.is("sticks: PLACE", x.sticks(0, p[0], p[1], 0, 0), Due.PLACE);
            due.is("who: PLACE", x.who(0, 0, 0, p[0], p[1], 0), Due.PLACE);
        }
    }

    private static void nothingChanges() {
        for (int k = 0; k < 4; k++) {
            DoorsBehind x = Due.in(Due.HOUSE);
            Due.fill(x, 0, 0, 0, 1, 2, 3);
            x.errand(0, 0, 2);
            String was = Due.seen(x);
            x.would(0, 0, 4, k);
            x.way(3, k - 1);
            x.needs(0, 0, 4, k);
            x.sets(3, k);
            x.share(1, k);
            x.byTurns(k);
            x.who(1, k, 0, 0, 3, 3);
            x.sticks(0, 0, 4, 3, k);
            x.drawn(60, 7 + k, k % 2);
            due.same("what is foretold", was, x);
            due.is("keys", x.rule(0, 5), 5);
            due.is("light", x.rule(1, 5), 5);
            due.is("sleep", x.rule(2, 30), 30);
        }
    }
}
