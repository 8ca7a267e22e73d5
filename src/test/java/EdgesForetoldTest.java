import java.math.BigInteger;

/**
 * The edges of promises 17 to 25: what is foretold. Where it can be, what is foretold is held against what comes of
 * it when it is done: errands gone, keys and sleep tried one by one, nights gone through by hand.
 */
public final class EdgesForetoldTest {
    private static final Due due = new Due("EdgesForetoldTest");
    private static final int LEAST = Integer.MIN_VALUE, MOST = Integer.MAX_VALUE;
    /** Eight rooms in a ring; each kind of door; all keys; nobody wakes. */
    private static final String RING = "h9,60,63;r20;r1;r2;r3;r4;r5;r6;r7;"
        + "l0,1,3;b1,2,7;c2,3,4;k3,4,8;s4,5,5;l5,6,0;c6,7,1;k7,0,9;";

    public static void main(String[] args) {
        promise17AsErrands();
        promise17Findings();
        promise17What();
        promise18HowFar();
        promise18First();
        promise18Well();
        promise18K();
        promise19Ring();
        promise19Deep();
        promise19ByTrial();
        promise19None();
        promise20Sets();
        promise20Rooms();
        promise20Edges();
        promise21Share();
        promise21LeastWeight();
        promise21All();
        promise22Turns();
        promise22WhatTheyTake();
        promise22Wear();
        promise23Values();
        promise23Kinds();
        promise23Numbers();
        promise23Keys();
        promise23AnotherDoor();
        promise23WornDoors();
        promise24Fractions();
        promise24Edges();
        promise24AsItStands();
        promise25Nights();
        promise25NightsAsItStands();
        promise25Edges();
        due.end();
    }

    private static void wouldBe(String when, DoorsBehind x, int i, int n, int... want) {
        for (int what = 0; what < 5; what++) {
            due.is(when + ": would(.., " + what + ")", x.would(0, i, n, what), want[what]);
            due.is("its status", x.status(), 0);
        }
    }

    // ---- promise 17: "of an ERRAND as errand()", 0 to 8 doors

    private static void promise17AsErrands() {
        int[] noise = {0, 3, 6, 10, 11, 12, 12, 13, 14}, draught = {0, 1, 3, 4, 5, 5, 6, 7, 8};
        for (int n = 0; n <= 8; n++) {
            DoorsBehind x = Due.in(RING);
            Due.fill(x, 0, 1, 0, 1, 2, 3, 4, 5, 6, 7);
            int room = n % 8, weight = room == 0 ? 20 : room;
            wouldBe(n + " doors", x, 0, n, weight, noise[n], draught[n], n, room);
            due.is("and so it comes", x.errand(0, 0, n), weight);
            due.is("WEAR", x.count(5), n);
            due.is("nothing is there then", x.would(0, 0, n, 0), n >= 5 ? 1008 : 1011);
        }
    }

    /** "what (.. 1000 and the number of a FINDING)", and where one stands then */
    private static void promise17Findings() {
        DoorsBehind x = Due.in("h3,9,1;r1;r2;r0;l0,1,4;k1,2,1;s1,2,0;l1,2,6;b1,2,9;b1,2,6;l1,2,5;");
        Due.fill(x, 0, 0, 0, 7, 0, 1, 0, 3, 0, 5, 0, 6, 0, 2);
        wouldBe("ASTRAY", x, 0, 2, 1006, 4, 1, 1, 1);
        wouldBe("ASTRAY at once", x, 1, 1, 1006, 0, 0, 0, 0);
        wouldBe("LOCKED", x, 2, 2, 1007, 4, 1, 1, 1);
        wouldBe("WOKEN", x, 4, 2, 1009, 10, 2, 2, 1);
        wouldBe("not WOKEN, not DARK: EMPTY", x, 6, 2, 1011, 7, 3, 2, 2);
        wouldBe("not WOKEN: EMPTY", x, 8, 2, 1011, 9, 2, 2, 2);
        x.rule(1, 2);
        wouldBe("DARK", x, 6, 2, 1010, 7, 3, 2, 1);
        wouldBe("a seal: EMPTY", x, 10, 2, 1011, 5, 1, 2, 2);
        x.errand(0, 10, 2);
        wouldBe("BROKEN", x, 10, 2, 1008, 4, 1, 1, 1);
        x.bring(2, 20);
        x.oil(2);
        wouldBe("the greatest WEIGHT", x, 10, 2, 20, 5, 1, 2, 2);
        x.undo();
        x.undo();
        x.bring(2, 1);
        wouldBe("the least WEIGHT", x, 8, 2, 1, 9, 2, 2, 2);
        wouldBe("no door", x, 0, 0, 1, 0, 0, 0, 0);
    }

    private static void promise17What() {
        DoorsBehind x = new DoorsBehind();
        due.is("STATE ahead of BAD", x.would(-1, 0, 9, 5), Due.STATE);
        due.is("STATE ahead of NULL", x.would(0, 0, 1, 0), Due.STATE);
        Due.read(x, RING);
        x.row(7, 0, 8);
        for (int what : new int[] {LEAST, -1, 5, MOST}) {
            due.is("would(7, 0, 1, " + what + ")", x.would(7, 0, 1, what), Due.BAD);
            due.is("BAD ahead of NULL", x.would(6, 0, 1, what), Due.BAD);
            due.is("BAD ahead of PLACE", x.would(7, 9, 1, what), Due.BAD);
        }
        for (int what = 0; what < 5; what++) {
            for (int n : new int[] {LEAST, -1, 9, MOST}) due.is("n = " + n, x.would(7, 0, n, what), Due.BAD);
            for (int row : new int[] {LEAST, -1, 8, MOST}) due.is("row = " + row, x.would(row, 0, 1, what), Due.BAD);
            due.is("NULL", x.would(6, -1, 1, what), Due.NULL);
            due.is("PLACE", x.would(7, 1, 8, what), Due.PLACE);
            due.is("PLACE", x.would(7, 9, 0, what), Due.PLACE);
            due.is("PLACE", x.would(7, -1, 0, what), Due.PLACE);
        }
        due.is("all eight", x.would(7, 0, 8, 4), 0);
        due.is("none at the end", x.would(7, 8, 0, 0), 20);
    }

    // ---- promise 18: "the fewest DOORS (0 to 3) by which an ERRAND ends in it well"

    private static void wayIs(String when, DoorsBehind x, int room, int... want) {
        due.is(when + ": how many to " + room, x.way(room, -1), want.length);
        for (int k = 0; k < want.length; k++) due.is(when + ": the " + k + "-th to " + room, x.way(room, k), want[k]);
        due.is(when + ": not so many to " + room, x.way(room, want.length), Due.NONE);
    }

    private static void noWay(String when, DoorsBehind x, int room) {
        for (int k = -1; k < 4; k++) due.is(when + ": way(" + room + ", " + k + ")", x.way(room, k), Due.NONE);
    }

    private static void promise18HowFar() {
        DoorsBehind x = Due.in(RING);
        wayIs("none", x, 0);
        wayIs("one", x, 1, 0);
        wayIs("two", x, 2, 0, 1);
        wayIs("three", x, 3, 0, 1, 2);
        noWay("four", x, 4);
        wayIs("three, the other way", x, 5, 7, 6, 5);
        wayIs("two, the other way", x, 6, 7, 6);
        wayIs("one, the other way", x, 7, 7);
        for (int room : new int[] {LEAST, -1, 8, MOST}) {
            for (int k = -2; k < 2; k++) due.is("way(" + room + ", " + k + ")", x.way(room, k), Due.BAD);
        }
        DoorsBehind y = Due.in("h9,60,0;r0;r1;r2;l1,2,0;");
        noWay("nothing in the first room", y, 0);
        noWay("no door at the first room", y, 1);
        noWay("no door at the first room", y, 2);
        due.is("the first room that is none", y.way(3, -1), Due.BAD);
    }

    /** "of several rows the first (by numbers)" */
    private static void promise18First() {
        DoorsBehind x = Due.in("h9,60,0;r0;r1;r2;r3;l0,2,0;l1,3,0;l0,1,0;l0,1,0;l2,3,0;l2,3,0;l1,3,0;");
        wayIs("the first of two", x, 1, 2);
        wayIs("the first by its first number", x, 3, 0, 4);
        DoorsBehind y = Due.in("h9,60,0;r0;r1;r2;l1,2,0;l1,2,0;l0,1,0;l0,1,0;l0,2,9;");
        wayIs("fewer ahead of lesser numbers", y, 2, 4);
        y.rule(2, 8);
        wayIs("then the first of four rows", y, 2, 2, 0);
        due.is("the eighth door", Due.in("h9,60,1;r0;r1;" + "k0,1,1;".repeat(7) + "l1,0,0;").way(1, 0), 7);
    }

    /** Each finding by which a row does not come well, so that another one is the first. */
    private static void promise18Well() {
        DoorsBehind x = Due.in("h1,9,0;r0;r5;l0,1,9;k0,1,0;b0,1,0;s0,1,0;c0,1,8;");
        wayIs("at SLEEP 9", x, 1, 0);
        x.rule(2, 8);
        wayIs("WOKEN by the first, LOCKED, DARK, LOCKED", x, 1, 4);
        x.rule(0, 1);
        wayIs("with the key", x, 1, 1);
        x.rule(0, 0);
        x.rule(1, 2);
        wayIs("with more light", x, 1, 2);
        x.rule(1, 1);
        x.rule(2, 7);
        noWay("none comes well", x, 1);
        x.rule(0, 1);
        Due.fill(x, 0, 0, 1);
        x.errand(0, 0, 1);
        noWay("EMPTY", x, 1);
        x.bring(1, 1);
        wayIs("filled again", x, 1, 1);
        DoorsBehind y = Due.in("h9,60,1;r0;r5;s0,1,0;");
        y.row(0, 0, 1);
        y.errand(0, 0, 1);
        y.bring(1, 1);
        noWay("BROKEN", y, 1);
        y.oil(0);
        wayIs("oiled", y, 1, 0);
    }

    /** "how many (k = -1), the k-th (0 on; NONE: not so many)"; "BAD: k below -1, too" */
    private static void promise18K() {
        DoorsBehind x = Due.in(RING);
        for (int room = 0; room < 8; room++) {
            for (int k : new int[] {LEAST, -3, -2}) due.is("way(" + room + ", " + k + ")", x.way(room, k), Due.BAD);
            for (int k : new int[] {3, 4, 8, MOST}) due.is("way(" + room + ", " + k + ")", x.way(room, k), Due.NONE);
        }
        due.is("BAD ahead of NONE", x.way(4, -2), Due.BAD);
        due.is("way(0, 0) of none", x.way(0, 0), Due.NONE);
        due.is("way(0, -1) without a house", new DoorsBehind().way(0, -1), Due.BAD);
        due.is("status() is left", x.status(), 0);
    }

    // ---- promise 19: "the fewest KEYS by which it comes well: how many; which (bits)"; "the least SLEEP (1 to 60)"

    private static final String LOCKS = "h9,60,0;r1;r1;r1;r1;r1;r1;r1;r1;"
        + "k0,1,0;s1,2,1;k2,3,2;k3,4,3;k4,5,4;s5,6,5;k6,7,6;k7,0,9;";

    private static void promise19Ring() {
        DoorsBehind x = Due.in(LOCKS);
        Due.fill(x, 0, 0, 0, 1, 2, 3, 4, 5, 6, 7);
        int[] which = {0, 1, 3, 7, 15, 31, 63, 63, 63};
        for (int keys : new int[] {0, 42, 63}) {
            x.rule(0, keys);
            for (int n = 0; n <= 8; n++) {
                due.is("RING by " + n + " locks: how many", x.needs(0, 0, n, 0), Math.min(n, 6));
                due.is("RING by " + n + " locks: which", x.needs(0, 0, n, 1), which[n]);
                due.is("its status", x.status(), 0);
            }
        }
        DoorsBehind y = Due.in("h9,60,63;r0;r1;l0,1,9;b0,1,9;c0,1,9;k0,1,5;k0,1,9;");
        Due.fill(y, 0, 0, 0, 1, 2, 3, 4);
        int[] one = {0, 0, 0, 32, 8};
        for (int k = 0; k < 5; k++) due.is("RING of kind " + y.kind(k), y.needs(0, k, 1, 1), one[k]);
    }

    private static void promise19Deep() {
        String seven = "h9,1,0;r1;r1;r1;r1;r1;r1;r1;r1;l0,1,9;l1,2,9;l2,3,9;l3,4,9;l4,5,9;l5,6,9;";
        for (int last = 5; last <= 8; last++) {
            DoorsBehind x = Due.in(seven + "l6,7," + last + ";");
            Due.fill(x, 0, 0, 0, 1, 2, 3, 4, 5, 6);
            due.is("DEEP by NOISE " + (54 + last), x.needs(0, 0, 7, 2), last <= 6 ? 54 + last : Due.NONE);
            due.is("its status", x.status(), 0);
            due.is("RING at SLEEP 1", x.needs(0, 0, 7, 0), Due.NONE);
            x.rule(2, 60);
            due.is("at SLEEP 60", x.would(0, 0, 7, 0), last <= 6 ? 1 : 1009);
            due.is("RING at SLEEP 60", x.needs(0, 0, 7, 0), last <= 6 ? 0 : Due.NONE);
        }
        for (int n = 0; n <= 9; n++) {
            DoorsBehind x = Due.in("h9,1,0;r1;r1;l0,1," + n + ";");
            x.row(0, 0, 1);
            due.is("DEEP by NOISE " + n, x.needs(0, 0, 1, 2), Math.max(1, n));
            due.is("DEEP by no door", x.needs(0, 0, 0, 2), 1);
        }
    }

    /** Every KEYS and every SLEEP tried, one by one. */
    private static void promise19ByTrial() {
        for (int[] route : new int[][] {{0, 1}, {0, 2}, {0, 3}, {3, 1}, {3, 2}}) {
            DoorsBehind x = Due.in("h9,20,0;r0;r0;r0;r9;l0,1,7;k1,2,8;s2,3,4;k0,2,3;");
            Due.fill(x, 0, 0, 0, 1, 2, 3, 2);
            int fewest = 99, which = Due.NONE, deep = Due.NONE;
            for (int keys = 0; keys <= 63; keys++) {
                x.rule(0, keys);
                boolean well = x.would(0, route[0], route[1], 0) < 1000;
                if (well && Integer.bitCount(keys) < fewest) {
                    fewest = Integer.bitCount(keys);
                    which = keys;
                }
            }
            due.is("RING, how many", x.needs(0, route[0], route[1], 0), which == Due.NONE ? Due.NONE : fewest);
            due.is("RING, which", x.needs(0, route[0], route[1], 1), which);
            for (int sleep = 60; sleep >= 1; sleep--) {
                x.rule(2, sleep);
                if (x.would(0, route[0], route[1], 0) < 1000) deep = sleep;
            }
            due.is("DEEP", x.needs(0, route[0], route[1], 2), deep);
        }
    }

    private static void promise19None() {
        DoorsBehind x = Due.in("h2,5,1;r0;r0;r3;l0,1,1;k1,2,1;s1,2,0;b1,2,8;b1,2,0;");
        Due.fill(x, 0, 0, 0, 9, 0, 1, 0, 3, 0, 4, 0, 2, 0);
        int[][] routes = {{0, 2, -1, -1, -1}, {2, 2, 1, 2, -1}, {4, 2, -1, -1, -1}, {6, 2, -1, -1, -1}, {8, 2, 1, 1, 2}, {10, 1, -1, -1, -1}};
        for (int[] r : routes) {
            for (int what = 0; what < 3; what++) {
                int want = r[2 + what] < 0 ? Due.NONE : r[2 + what];
                due.is("needs(0, " + r[0] + ", " + r[1] + ", " + what + ")", x.needs(0, r[0], r[1], what), want);
                due.is("its status", x.status(), 0);
            }
        }
        x.errand(0, 8, 2);
        x.bring(2, 1);
        for (int what = 0; what < 3; what++) due.is("BROKEN", x.needs(0, 8, 2, what), Due.NONE);
        for (int what : new int[] {LEAST, -1, 3, MOST}) {
            due.is("what = " + what, x.needs(0, 0, 1, what), Due.BAD);
            due.is("BAD ahead of NULL", x.needs(7, 0, 1, what), Due.BAD);
            due.is("BAD ahead of PLACE", x.needs(0, 11, 1, what), Due.BAD);
        }
        for (int what = 0; what < 3; what++) {
            for (int n : new int[] {LEAST, -1, 9, MOST}) due.is("n = " + n, x.needs(0, 0, n, what), Due.BAD);
            for (int row : new int[] {LEAST, -1, 8, MOST}) due.is("row = " + row, x.needs(row, 0, 1, what), Due.BAD);
            due.is("NULL", x.needs(7, -1, 1, what), Due.NULL);
            due.is("PLACE", x.needs(0, 11, 1, what), Due.PLACE);
            due.is("PLACE", x.needs(0, 12, 0, what), Due.PLACE);
            due.is("STATE ahead of BAD", new DoorsBehind().needs(-1, 0, 9, what + 3), Due.STATE);
        }
    }

    // ---- promise 20: "SETS of v (0 to 160)"

    private static void setsAre(String when, DoorsBehind x, int v, int many, int all, int any) {
        due.is(when + ": sets(" + v + ", 0)", x.sets(v, 0), many);
        due.is(when + ": sets(" + v + ", 1)", x.sets(v, 1), all);
        due.is(when + ": sets(" + v + ", 2)", x.sets(v, 2), any);
    }

    private static void promise20Sets() {
        DoorsBehind x = Due.in("h1,1,0;" + "r1;".repeat(8) + "l0,1,0;");
        int[] choose = {1, 8, 28, 56, 70, 56, 28, 8, 1};
        for (int v = 0; v <= 8; v++) setsAre("eight alike", x, v, choose[v], v == 8 ? 255 : 0, v == 0 ? 0 : 255);
        setsAre("more than all", x, 9, 0, 0, 0);
        DoorsBehind y = Due.in("h1,1,0;r1;r2;r4;r8;r16;r0;r20;r20;l0,1,0;");
        for (int v = 0; v <= 3; v++) setsAre("by twos", y, v, 1, v, v);
        setsAre("either of two", y, 20, 3, 0, 4 + 16 + 64 + 128);
        setsAre("all but the one that is empty", y, 71, 1, 223, 223);
        setsAre("one more than all", y, 72, 0, 0, 0);
        setsAre("one too few for a set", y, 70, 1, 222, 222);
    }

    private static void promise20Rooms() {
        DoorsBehind x = Due.in("h9,60,0;r0;r0;r0;l0,1,0;");
        setsAre("nothing lies anywhere", x, 0, 1, 0, 0);
        setsAre("nothing lies anywhere", x, 1, 0, 0, 0);
        x.bring(0, 4);
        setsAre("in the first alone", x, 0, 1, 0, 0);
        setsAre("in the first alone", x, 4, 1, 1, 1);
        setsAre("in the first alone", x, 8, 0, 0, 0);
        x.bring(2, 4);
        setsAre("in the first and the last", x, 4, 2, 0, 5);
        setsAre("in the first and the last", x, 8, 1, 5, 5);
        x.bring(1, 8);
        setsAre("in all", x, 8, 2, 0, 7);
        setsAre("in all", x, 12, 2, 2, 7);
        x.row(0, 0, 1);
        x.errand(0, 0, 1);
        setsAre("the middle one is taken", x, 8, 1, 5, 5);
    }

    private static void promise20Edges() {
        DoorsBehind x = Due.in("h1,1,0;" + "r20;".repeat(8) + "l0,1,0;");
        setsAre("the greatest", x, 160, 1, 255, 255);
        setsAre("the least", x, 0, 1, 0, 0);
        setsAre("just below", x, 159, 0, 0, 0);
        for (int v : new int[] {LEAST, -1, 161, MOST}) {
            for (int what = 0; what < 3; what++) due.is("sets(" + v + ", " + what + ")", x.sets(v, what), Due.BAD);
        }
        for (int what : new int[] {LEAST, -1, 3, MOST}) due.is("sets(0, " + what + ")", x.sets(0, what), Due.BAD);
        DoorsBehind y = new DoorsBehind();
        for (int v : new int[] {-1, 0, 160, 161}) {
            for (int what = -1; what <= 3; what++) due.is("STATE ahead of BAD", y.sets(v, what), Due.STATE);
        }
    }

    // ---- promise 21: "SHARE of n (0 to 999)"

    private static void sharesAre(DoorsBehind x, int n, int... want) {
        for (int r = 0; r < want.length; r++) due.is("share(" + r + ", " + n + ")", x.share(r, n), want[r]);
    }

    private static void promise21Share() {
        DoorsBehind x = Due.in("h1,1,0;r0;r1;r1;r0;r1;r1;l0,1,0;");
        sharesAre(x, 0, 0, 0, 0, 0, 0, 0);
        sharesAre(x, 1, 0, 1, 0, 0, 0, 0);
        sharesAre(x, 2, 0, 1, 1, 0, 0, 0);
        sharesAre(x, 3, 0, 1, 1, 0, 1, 0);
        sharesAre(x, 4, 0, 1, 1, 0, 1, 1);
        sharesAre(x, 5, 0, 2, 1, 0, 1, 1);
        sharesAre(x, 999, 0, 250, 250, 0, 250, 249);
        for (int r : new int[] {LEAST, -1, 6, 8, MOST}) due.is("share(" + r + ", 1)", x.share(r, 1), Due.BAD);
        for (int n : new int[] {LEAST, -1, 1000, MOST}) {
            for (int r = 0; r < 2; r++) due.is("share(" + r + ", " + n + ")", x.share(r, n), Due.BAD);
        }
        DoorsBehind y = Due.in("h1,1,0;r0;r20;l0,1,0;");
        sharesAre(y, 999, 0, 999);
        sharesAre(y, 0, 0, 0);
        DoorsBehind z = Due.in("h1,1,0;" + "r0;".repeat(8) + "l0,1,0;");
        for (int n : new int[] {0, 1, 999}) sharesAre(z, n, 0, 0, 0, 0, 0, 0, 0, 0);
        for (int n : new int[] {-1, 1000}) due.is("BAD, though all are empty", z.share(0, n), Due.BAD);
        due.is("share(0, 0) without a house", new DoorsBehind().share(0, 0), Due.BAD);
    }

    /** All WEIGHT being 0, 1 and 2: "(0, if all are empty)" is for 0 alone. */
    private static void promise21LeastWeight() {
        DoorsBehind x = Due.in("h1,1,0;r0;r0;r0;l0,1,0;");
        for (int n : new int[] {0, 1, 5, 999}) sharesAre(x, n, 0, 0, 0);
        x.bring(1, 1);
        for (int n : new int[] {0, 1, 5, 999}) sharesAre(x, n, 0, n, 0);
        x.bring(2, 1);
        sharesAre(x, 1, 0, 1, 0);
        sharesAre(x, 5, 0, 3, 2);
        sharesAre(x, 999, 0, 500, 499);
    }

    /** Nothing is lost: what all get is n; and a room gets its part cut, or 1 more. */
    private static void promise21All() {
        int[] weights = {7, 0, 20, 1, 19, 3, 0, 11};
        DoorsBehind x = Due.in("h1,1,0;r7;r0;r20;r1;r19;r3;r0;r11;l0,1,0;");
        for (int n : new int[] {0, 1, 2, 5, 6, 30, 60, 61, 62, 122, 500, 601, 610, 737, 998, 999}) {
            int over = n;
            for (int r = 0; r < 8; r++) over -= n * weights[r] / 61;
            for (int r = 0; r < 8; r++) {
                int want = n * weights[r] / 61;
                if (weights[r] > 0 && over > 0) {
                    want++;
                    over--;
                }
                due.is("share(" + r + ", " + n + ")", x.share(r, n), want);
            }
        }
        DoorsBehind y = Due.in("h1,1,0;" + "r20;".repeat(8) + "l0,1,0;");
        sharesAre(y, 999, 125, 125, 125, 125, 125, 125, 125, 124);
        sharesAre(y, 7, 1, 1, 1, 1, 1, 1, 1, 0);
        sharesAre(y, 8, 1, 1, 1, 1, 1, 1, 1, 1);
    }

    // ---- promise 22: "TURNS of two, n in all (0 to 3)"

    private static void turnsAre(String when, DoorsBehind x, int... want) {
        for (int n = 0; n < 4; n++) due.is(when + ": byTurns(" + n + ")", x.byTurns(n), want[n]);
    }

    private static void promise22Turns() {
        DoorsBehind x = Due.in("h9,60,0;r0;r1;r2;r4;r8;l0,1,0;l0,2,0;l0,3,0;l0,4,0;");
        turnsAre("one by one", x, 0, 8, 4, 6);
        for (int n : new int[] {LEAST, -1, 4, MOST}) due.is("byTurns(" + n + ")", x.byTurns(n), Due.BAD);
        DoorsBehind y = new DoorsBehind();
        for (int n = -1; n <= 4; n++) due.is("STATE ahead of BAD", y.byTurns(n), Due.STATE);
        turnsAre("all alike", Due.in("h9,60,0;r0;r20;r20;r20;l0,1,0;l0,2,0;l0,3,0;"), 0, 20, 0, 20);
        turnsAre("the eighth door", Due.in("h9,60,0;r0;r0;r20;" + "l0,1,0;".repeat(7) + "l2,0,0;"), 0, 20, 20, 20);
    }

    /** "an ERRAND by one DOOR, or none at all": not what lies in the first room, nor behind a second door. */
    private static void promise22WhatTheyTake() {
        turnsAre("the first room", Due.in("h9,60,0;r20;r0;l0,1,0;"), 0, 0, 0, 0);
        turnsAre("a second door", Due.in("h9,60,0;r0;r0;r20;l0,1,0;l1,2,0;"), 0, 0, 0, 0);
        turnsAre("no door at the first room", Due.in("h9,60,0;r0;r9;r20;l1,2,0;"), 0, 0, 0, 0);
        turnsAre("LOCKED", Due.in("h9,60,1;r0;r9;r20;k0,1,0;k0,2,1;"), 0, 9, 9, 9);
        turnsAre("WOKEN", Due.in("h9,8,0;r0;r7;r20;l0,1,8;l0,2,9;"), 0, 7, 7, 7);
        turnsAre("DARK", Due.in("h1,60,0;r0;r7;r20;l0,1,8;b0,2,9;"), 0, 7, 7, 7);
        turnsAre("all empty", Due.in("h9,60,0;r0;r0;l0,1,0;"), 0, 0, 0, 0);
    }

    /** "an ERRAND that does not come well brings nothing, but WEAR stays": what wore before the first turn counts. */
    private static void promise22Wear() {
        turnsAre("a creaker", Due.in("h9,9,0;r0;r4;r3;c0,1,9;l0,2,0;"), 0, 4, 1, 1);
        turnsAre("a seal", Due.in("h9,9,1;r0;r4;r3;s0,1,0;l0,2,0;"), 0, 4, 1, 1);
        DoorsBehind x = Due.in("h9,9,1;r0;r4;r3;s0,1,0;l0,2,0;");
        x.row(0, 0, 1);
        x.errand(0, 0, 1);
        x.bring(1, 20);
        turnsAre("a seal that is broken", x, 0, 3, 3, 3);
        x.oil(0);
        turnsAre("a seal that is oiled", x, 0, 20, 17, 17);
        DoorsBehind y = Due.in("h9,9,0;r0;r4;c0,1,8;");
        y.row(0, 0, 1);
        turnsAre("a creaker ahead of its first opening", y, 0, 4, 4, 4);
        y.errand(0, 0, 1);
        y.bring(1, 5);
        turnsAre("LOUD 10 above SLEEP 9", y, 0, 0, 0, 0);
        y.rule(2, 10);
        turnsAre("LOUD 10 at SLEEP 10", y, 0, 5, 5, 5);
    }

    // ---- promise 23: "comes to v (a WEIGHT, 0 to 160; 1000 and the number of a FINDING, 1006 to 1011)"

    private static void promise23Values() {
        DoorsBehind x = Due.in("h9,60,63;r0;r20;r1;l0,1,0;l0,2,0;");
        Due.fill(x, 0, 0, 0, 1);
        for (int which = 0; which < 4; which++) {
            int none = which == 3 ? Due.NONE : 0, all = which == 0 ? 62 : which == 1 ? 1023 : which == 2 ? 64 : 0;
            for (int v : new int[] {LEAST, -1, 161, 999, 1000, 1005, 1012, MOST}) {
                due.is("who(0, " + which + ", .., " + v + ")", x.who(0, which, 0, 0, 1, v), Due.BAD);
            }
            for (int v : new int[] {0, 2, 19, 21, 159, 160, 1006, 1008, 1009, 1010, 1011}) {
                due.is("who(1, " + which + ", .., " + v + ")", x.who(1, which, 0, 0, 1, v), none);
                due.is("its status", x.status(), 0);
            }
            due.is("of the least WEIGHT", x.who(0, which, 0, 1, 1, 1), all);
            due.is("of the greatest WEIGHT", x.who(1, which, 0, 0, 1, 20), all);
            due.is("EMPTY", x.who(1, which, 0, 0, 0, 1011), all);
            for (int door : new int[] {LEAST, -1, 2, 8, MOST}) due.is("no such door", x.who(door, which, 0, 0, 1, 20), Due.BAD);
            due.is("NULL", x.who(0, which, 1, -1, 1, 20), Due.NULL);
            due.is("PLACE", x.who(0, which, 0, 2, 1, 20), Due.PLACE);
            due.is("PLACE", x.who(0, which, 0, 3, 0, 20), Due.PLACE);
            for (int n : new int[] {LEAST, -1, 9, MOST}) due.is("n = " + n, x.who(0, which, 0, 0, n, 20), Due.BAD);
            for (int row : new int[] {LEAST, -1, 8, MOST}) due.is("row = " + row, x.who(0, which, row, 0, 1, 20), Due.BAD);
            due.is("no house", new DoorsBehind().who(0, which, 0, 0, 1, 20), Due.BAD);
        }
        for (int which : new int[] {LEAST, -1, 4, MOST}) due.is("which = " + which, x.who(0, which, 0, 0, 1, 20), Due.BAD);
    }

    /** "KINDS (bits 1 to 5) of a DOOR": each kind is tried, with the N and the WEAR that the door has. */
    private static void promise23Kinds() {
        String[] tails = {"h9,8,63;r0;r7;", "h9,9,63;r0;r7;", "h1,60,63;r0;r7;", "h9,60,55;r0;r7;", "h9,4,63;r0;r7;", "h9,3,63;r0;r7;"};
        int[] well = {62 - 2 - 8, 62, 62 - 4, 62 - 16 - 32, 62 - 2 - 8, 62 - 2 - 4 - 8};
        int[] ends = {1009, 1009, 1010, 1007, 1009, 1009};
        for (int k = 0; k < tails.length; k++) {
            for (char sort : "lbcks".toCharArray()) {
                DoorsBehind x = Due.in(tails[k] + sort + "0,1,9;");
                x.row(0, 0, 1);
                due.is("well: " + tails[k], x.who(0, 0, 0, 0, 1, 7), well[k]);
                due.is("not well: " + tails[k], x.who(0, 0, 0, 0, 1, ends[k]), 62 - well[k]);
                due.is("the kind stays", x.kind(0), "lbcks".indexOf(sort) + 1);
            }
        }
        DoorsBehind y = Due.in("h9,10,63;r0;r7;l0,1,9;");
        y.row(0, 0, 1);
        y.errand(0, 0, 1);
        y.bring(1, 6);
        due.is("WEAR 1: no creaker, no seal", y.who(0, 0, 0, 0, 1, 6), 62 - 8 - 32);
        due.is("WEAR 1: WOKEN by a creaker", y.who(0, 0, 0, 0, 1, 1009), 8);
        due.is("WEAR 1: a seal is BROKEN", y.who(0, 0, 0, 0, 1, 1008), 32);
        y.rule(2, 11);
        due.is("a creaker of LOUD 11 at SLEEP 11", y.who(0, 0, 0, 0, 1, 6), 62 - 32);
    }

    /** "NUMBERS (N, 0 to 9, bits) of it, likewise" */
    private static void promise23Numbers() {
        for (int sleep = 1; sleep <= 10; sleep++) {
            DoorsBehind x = Due.in("h9," + sleep + ",4;r0;r7;l0,1,0;b0,1,9;c0,1,5;k0,1,2;s0,1,2;");
            Due.fill(x, 0, 0, 0, 1, 2, 3, 4);
            int upTo = sleep >= 9 ? 1023 : (1 << sleep + 1) - 1, ofBolt = 2 * sleep + 1 >= 9 ? 1023 : (1 << 2 * sleep + 2) - 1;
            int[] well = {upTo, ofBolt, upTo, 4 + 256, 4 + 256};
            for (int d = 0; d < 5; d++) {
                due.is("N of door " + d + " at SLEEP " + sleep, x.who(d, 1, 0, d, 1, 7), well[d]);
                due.is("N of door " + d + ", not well", x.who(d, 1, 0, d, 1, d < 3 ? 1009 : 1007), 1023 - well[d]);
            }
        }
    }

    /** "KEYS (0 to 63): how many; the least; NONE" */
    private static void promise23Keys() {
        DoorsBehind x = Due.in(LOCKS);
        Due.fill(x, 0, 0, 0, 1, 2, 3, 4, 5, 6, 7);
        for (int keys : new int[] {0, 63}) {
            x.rule(0, keys);
            for (int n = 0; n <= 8; n++) {
                int locks = Math.min(n, 6);
                due.is(n + " locks: how many", x.who(0, 2, 0, 0, n, 1), 64 >> locks);
                due.is(n + " locks: the least", x.who(0, 3, 0, 0, n, 1), (1 << locks) - 1);
                due.is(n + " locks: LOCKED by how many", x.who(0, 2, 0, 0, n, 1007), 64 - (64 >> locks));
                due.is(n + " locks: LOCKED, the least", x.who(0, 3, 0, 0, n, 1007), n == 0 ? Due.NONE : 0);
            }
        }
        DoorsBehind y = Due.in("h9,60,0;r0;r0;r1;k0,1,5;");
        Due.fill(y, 0, 0, 0);
        due.is("the key 5: how many", y.who(0, 2, 0, 0, 1, 1011), 32);
        due.is("the key 5: the least", y.who(0, 3, 0, 0, 1, 1011), 32);
    }

    private static void promise23AnotherDoor() {
        DoorsBehind x = Due.in("h9,5,0;r0;r0;r8;l0,1,3;l1,2,2;k0,2,4;");
        Due.fill(x, 0, 0, 0, 1, 0, 0);
        due.is("a door that is not gone through", x.who(2, 0, 0, 0, 2, 8), 62);
        due.is("its numbers", x.who(2, 1, 0, 0, 2, 8), 1023);
        due.is("the first of two", x.who(0, 1, 0, 0, 2, 8), 15);
        due.is("the second of two", x.who(1, 1, 0, 0, 2, 8), 7);
        due.is("the kinds of the second", x.who(1, 0, 0, 0, 2, 8), 2 + 4 + 8);
        x.bring(0, 3);
        due.is("a door that is gone through twice", x.who(0, 1, 0, 2, 2, 3), 63);
    }

    /** Numbers and keys are tried with the wear that the doors have. */
    private static void promise23WornDoors() {
        DoorsBehind x = Due.in("h9,6,63;r0;r7;r3;c0,1,2;s0,2,4;");
        Due.fill(x, 0, 0, 0, 1);
        x.errand(0, 0, 1);
        x.errand(0, 1, 1);
        x.bring(1, 5);
        x.bring(2, 4);
        due.is("a creaker of WEAR 1: N up to 4", x.who(0, 1, 0, 0, 1, 5), 31);
        due.is("a creaker of WEAR 1: WOKEN", x.who(0, 1, 0, 0, 1, 1009), 1023 - 31);
        due.is("a broken seal, of any N", x.who(1, 1, 0, 1, 1, 1008), 1023);
        due.is("a broken seal: never well", x.who(1, 1, 0, 1, 1, 4), 0);
        due.is("KEYS of a broken seal: BROKEN", x.who(1, 2, 0, 1, 1, 1008), 32);
        due.is("KEYS of a broken seal: BROKEN, the least", x.who(1, 3, 0, 1, 1, 1008), 16);
        due.is("KEYS of a broken seal: LOCKED", x.who(1, 2, 0, 1, 1, 1007), 32);
        due.is("KEYS of a broken seal: LOCKED, the least", x.who(1, 3, 0, 1, 1, 1007), 0);
        due.is("KEYS of a broken seal: well", x.who(1, 2, 0, 1, 1, 4), 0);
        due.is("KEYS of a broken seal: well, the least", x.who(1, 3, 0, 1, 1, 4), Due.NONE);
        x.rule(0, 1);
        due.is("with the key 0: BROKEN", x.who(1, 1, 0, 1, 1, 1008), 1 + 64);
        due.is("with the key 0: LOCKED", x.who(1, 1, 0, 1, 1, 1007), 1023 - 65);
        x.rule(2, 3);
        due.is("LOUD 4 at SLEEP 3, with any keys", x.who(0, 2, 0, 0, 1, 1009), 64);
        due.is("LOUD 4 at SLEEP 3, with any keys: well", x.who(0, 2, 0, 0, 1, 5), 0);
        DoorsBehind y = Due.in("h1,60,0;r0;r0;r8;l0,1,0;k1,2,3;");
        Due.fill(y, 0, 0, 0, 1);
        due.is("DRAUGHT 2 at LIGHT 1: DARK with the key", y.who(0, 2, 0, 0, 2, 1010), 32);
        due.is("DRAUGHT 2 at LIGHT 1: the least", y.who(0, 3, 0, 0, 2, 1010), 8);
        due.is("DRAUGHT 2 at LIGHT 1: well", y.who(0, 2, 0, 0, 2, 8), 0);
        due.is("DRAUGHT 2 at LIGHT 1: of which kind the lock is", y.who(1, 0, 0, 0, 2, 1010), 2 + 4 + 8);
        due.is("DRAUGHT 2 at LIGHT 1: LOCKED by any number", y.who(1, 1, 0, 0, 2, 1007), 1023);
    }

    // ---- promise 24: "STICKS by p of 10 (0 to 10)": "a fraction", "0 is 0 by 1"

    private static void promise24Fractions() {
        DoorsBehind x = Due.in(RING);
        Due.fill(x, 0, 2, 0, 1, 2, 3, 4, 5, 6, 7);
        for (int n = 0; n <= 8; n++) {
            for (int p = 0; p <= 10; p++) {
                BigInteger above = BigInteger.valueOf(10 - p).pow(n), below = BigInteger.TEN.pow(n), common = above.gcd(below);
                due.is("sticks, " + n + " doors, p = " + p, x.sticks(0, 0, n, p, 0), above.divide(common).longValueExact());
                due.is("sticks, " + n + " doors, p = " + p, x.sticks(0, 0, n, p, 1), below.divide(common).longValueExact());
            }
        }
        due.is("its status", x.status(), 0);
        due.is("the greatest below", x.sticks(0, 0, 8, 1, 1), 100000000L);
    }

    private static void promise24Edges() {
        DoorsBehind x = Due.in("h9,9,1;r0;r5;r0;l0,1,9;k0,1,1;l1,2,0;");
        Due.fill(x, 0, 0, 0, 0, 0, 1, 2, 0, 2);
        for (int p = 0; p <= 10; p++) {
            due.is("no door: EMPTY", x.sticks(0, 0, 0, p, 0), 0);
            due.is("no door: EMPTY", x.sticks(0, 0, 0, p, 1), 1);
            due.is("LOCKED", x.sticks(0, 3, 1, p, 0), 0);
            due.is("LOCKED", x.sticks(0, 3, 1, p, 1), 1);
            due.is("ASTRAY", x.sticks(0, 4, 1, p, 0), 0);
            due.is("ASTRAY", x.sticks(0, 4, 1, p, 1), 1);
            due.is("EMPTY", x.sticks(0, 5, 2, p, 0), 0);
            due.is("EMPTY", x.sticks(0, 5, 2, p, 1), 1);
        }
        due.is("one door thrice, p = 9", x.sticks(0, 0, 3, 9, 1), 10);
        due.is("one door thrice, p = 10", x.sticks(0, 0, 3, 10, 0), 0);
        due.is("one door thrice, p = 10", x.sticks(0, 0, 3, 10, 1), 1);
        due.is("one door thrice, p = 0", x.sticks(0, 0, 3, 0, 0), 1);
        for (int p : new int[] {LEAST, -1, 11, MOST}) due.is("p = " + p, x.sticks(0, 0, 1, p, 0), Due.BAD);
        for (int what : new int[] {LEAST, -1, 2, MOST}) due.is("what = " + what, x.sticks(0, 0, 1, 1, what), Due.BAD);
        for (int n : new int[] {LEAST, -1, 9, MOST}) due.is("n = " + n, x.sticks(0, 0, n, 1, 0), Due.BAD);
        for (int row : new int[] {LEAST, -1, 8, MOST}) due.is("row = " + row, x.sticks(row, 0, 1, 1, 0), Due.BAD);
        for (int what = 0; what < 2; what++) {
            due.is("NULL", x.sticks(7, -1, 1, 1, what), Due.NULL);
            due.is("PLACE", x.sticks(0, 7, 1, 1, what), Due.PLACE);
            due.is("PLACE", x.sticks(0, 8, 0, 1, what), Due.PLACE);
            due.is("STATE ahead of BAD", new DoorsBehind().sticks(-1, 0, 9, 11, what + 2), Due.STATE);
        }
    }

    private static void likely(String when, DoorsBehind x, int i, int n, int above, int below) {
        due.is(when + ": above", x.sticks(0, i, n, 3, 0), above);
        due.is(when + ": below", x.sticks(0, i, n, 3, 1), below);
        due.is(when + ": status()", x.status(), 0);
    }

    /** What does not come well even if no door sticks is never likely: WOKEN, DARK, BROKEN, at their edges. */
    private static void promise24AsItStands() {
        DoorsBehind x = Due.in("h3,8,2;r0;r5;r6;l0,1,5;b1,2,7;s0,2,1;");
        Due.fill(x, 0, 0, 0, 1, 2);
        likely("NOISE 8 at SLEEP 8, DRAUGHT 3 at LIGHT 3", x, 0, 2, 49, 100);
        x.rule(2, 7);
        likely("NOISE 8 at SLEEP 7", x, 0, 2, 0, 1);
        x.undo();
        x.rule(1, 2);
        likely("DRAUGHT 3 at LIGHT 2", x, 0, 2, 0, 1);
        x.undo();
        likely("a seal", x, 2, 1, 7, 10);
        x.errand(0, 2, 1);
        x.bring(2, 1);
        likely("a broken seal", x, 2, 1, 0, 1);
        x.oil(2);
        likely("a seal that is oiled", x, 2, 1, 7, 10);
        x.rule(0, 61);
        likely("a seal without its key", x, 2, 1, 0, 1);
    }

    // ---- promise 25: "NIGHTS of n ERRANDS (0 to 60) by a SEED (1 to 999999)"

    /** The nights gone through in a house itself: things brought, then errands; x and y are made alike. */
    private static void nights(String house, DoorsBehind x, DoorsBehind y, int n, int seed) {
        int taken = x.count(4), wear = x.count(5);
        y.row(0, 2, 2);
        int rooms = y.count(2), doors = y.count(1), well = 0;
        long made = seed;
        for (int k = 0; k < n; k++) {
            made = made * 16807 % 2147483647L;
            if (made % 3 == 0) y.bring((int) (made % rooms), 5);
            y.set(0, 0, (int) (made / 8 % doors));
            y.set(0, 1, (int) (made / 64 % doors));
            if (y.errand(0, 0, 2) > 0) well++;
        }
        String when = "drawn(" + n + ", " + seed + ", ..) in " + house;
        due.is(when + ": TAKEN", x.drawn(n, seed, 0), y.count(4) - taken);
        due.is(when + ": how many", x.drawn(n, seed, 1), well);
        due.is(when + ": no more is TAKEN", x.count(4), taken);
        due.is(when + ": no more WEAR", x.count(5), wear);
    }

    private static final int[] SEEDS = {1, 2, 3, 12345, 127773, 999998, 999999};

    private static void promise25Nights() {
        String[] houses = {"h9,60,63;r0;r4;r2;l0,1,0;l1,2,0;", "h9,60,63;r3;r4;l0,1,0;", "h3,9,21;r1;r0;r0;r9;r20;l0,1,2;b0,2,3;c0,3,1;k3,4,2;s0,4,4;",
            "h9,60,63;" + "r0;".repeat(8) + "l0,1,0;l0,2,0;l0,3,0;c0,4,0;k0,5,3;l1,6,0;l2,7,0;b1,2,1;"};
        for (String house : houses) {
            for (int seed : SEEDS) {
                for (int n : new int[] {0, 1, 2, 59, 60}) nights(house, Due.in(house), Due.in(house), n, seed);
            }
        }
    }

    /** The errands are gone with the keys, the light and the sleep that there are, by doors as worn as they are. */
    private static void promise25NightsAsItStands() {
        String[] houses = {"h9,60,2;r3;r4;r5;k0,1,0;k1,2,1;l0,2,0;", "h1,60,63;r3;r4;r5;l0,1,0;s1,2,1;b0,2,0;",
            "h9,3,63;r3;r4;r5;l0,1,3;l1,2,1;c0,2,2;"};
        for (String house : houses) {
            for (int seed : SEEDS) nights(house, Due.in(house), Due.in(house), 60, seed);
        }
        for (int seed : SEEDS) nights("a worn house", worn(), worn(), 60, seed);
        DoorsBehind x = Due.in(houses[0]);
        int with = x.drawn(60, 1, 1);
        x.rule(0, 63);
        due.is("with all keys more come well", x.drawn(60, 1, 1) > with ? 1 : 0, 1);
    }

    /** A creaker that has become as loud as the guard sleeps, and a seal that is broken. */
    private static DoorsBehind worn() {
        DoorsBehind x = Due.in("h9,8,63;r3;r4;r5;c0,1,1;s1,2,1;l0,2,0;");
        Due.fill(x, 0, 0, 0, 1);
        x.errand(0, 0, 2);
        for (int k = 0; k < 3; k++) x.errand(0, 0, 1);
        return x;
    }

    private static void promise25Edges() {
        DoorsBehind x = Due.in(RING);
        for (int what = 0; what < 2; what++) {
            due.is("no nights", x.drawn(0, 1, what), 0);
            due.is("no nights", x.drawn(0, 999999, what), 0);
            for (int n : new int[] {LEAST, -1, 61, MOST}) due.is("n = " + n, x.drawn(n, 1, what), Due.BAD);
            for (int seed : new int[] {LEAST, -1, 0, 1000000, MOST}) due.is("seed = " + seed, x.drawn(1, seed, what), Due.BAD);
        }
        for (int what : new int[] {LEAST, -1, 2, MOST}) due.is("what = " + what, x.drawn(1, 1, what), Due.BAD);
        DoorsBehind y = new DoorsBehind();
        due.is("STATE ahead of BAD", y.drawn(61, 1, 0), Due.STATE);
        due.is("STATE ahead of BAD", y.drawn(1, 0, 0), Due.STATE);
        due.is("STATE ahead of BAD", y.drawn(1, 1, 2), Due.STATE);
        due.is("STATE", y.drawn(0, 1, 0), Due.STATE);
    }
}
