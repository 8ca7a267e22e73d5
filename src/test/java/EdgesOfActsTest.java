/** The edges of promises 9, 12 to 14, 26 and 27: acts, undone; images, restored. */
public final class EdgesOfActsTest {
    private static final Due due = new Due("EdgesOfActsTest");
    private static final int LEAST = Integer.MIN_VALUE, MOST = Integer.MAX_VALUE;

    public static void main(String[] args) {
        promise9None();
        promise9HowManyAreKept();
        promise9OldestIsForgotten();
        promise9RoundTheRing();
        promise9EachKindOfAct();
        promise9EachEndOfAnErrand();
        promise9WhatIsNoAct();
        promise9RefusedWhenFull();
        promise9WhatIsLeft();
        promise12Oil();
        promise12AllWear();
        promise13Bring();
        promise13Full();
        promise14Rule();
        promise14Acts();
        promise14WhatItIsFor();
        promise26Image();
        promise26ChangesNothing();
        promise27Restore();
        promise27WholeHouse();
        promise27AnotherHouse();
        promise27NoActs();
        due.end();
    }

    // ---- promise 9: "how many can be undone yet. STATE: none."

    private static void promise9None() {
        DoorsBehind x = new DoorsBehind();
        due.is("undo() without a house", x.undo(), Due.STATE);
        Due.read(x, Due.HOUSE);
        due.is("undo() of a new house", x.undo(), Due.STATE);
        x.rule(0, 1);
        due.is("undo() of one", x.undo(), 0);
        due.is("undo() of none left", x.undo(), Due.STATE);
        due.is("KEYS", x.rule(0, 2), 5);
    }

    /** "24 at most are kept" */
    private static void promise9HowManyAreKept() {
        for (int many : new int[] {1, 23, 24, 25, 26, 48, 49, 60}) {
            DoorsBehind x = Due.in(Due.HOUSE);
            for (int k = 1; k <= many; k++) {
                x.rule(2, k);
                due.is("count(7) of " + k, x.count(7), Math.min(k, 24));
            }
            int kept = Math.min(many, 24);
            for (int k = kept - 1; k >= 0; k--) due.is("undo() of " + many, x.undo(), k);
            due.is("undo() once more of " + many, x.undo(), Due.STATE);
            due.is("SLEEP then", x.rule(2, 1), many <= 24 ? 30 : many - 24);
        }
    }

    /** "of more the oldest is forgotten": the 25th leaves the first one done for good. */
    private static void promise9OldestIsForgotten() {
        DoorsBehind x = Due.in(Due.HOUSE);
        x.bring(0, 9);
        x.rule(0, 63);
        for (int k = 0; k < 22; k++) x.rule(1, 1 + k % 9);
        due.is("24 acts", x.count(7), 24);
        x.rule(2, 7);
        due.is("24 of 25 acts", x.count(7), 24);
        for (int k = 23; k >= 0; k--) due.is("undo()", x.undo(), k);
        due.is("undo() of the forgotten one", x.undo(), Due.STATE);
        due.is("what it brought is there", x.room(0, 0), 9);
        due.is("KEYS are undone", x.rule(0, 1), 5);
        due.is("LIGHT is undone", x.rule(1, 1), 5);
        due.is("SLEEP is undone", x.rule(2, 1), 30);
    }

    /** Acts done, undone and done again, so that what is kept goes round its end more than once. */
    private static void promise9RoundTheRing() {
        DoorsBehind x = Due.in("h9,60,0;r0;r0;l0,1,0;l0,1,0;");
        Due.fill(x, 0, 0, 0, 1);
        for (int k = 0; k < 30; k++) x.errand(0, 0, 1);
        for (int k = 23; k >= 14; k--) due.is("undo()", x.undo(), k);
        due.is("WEAR of 20 errands", x.door(0, 3), 20);
        for (int k = 0; k < 15; k++) x.errand(0, 1, 1);
        due.is("24 of 29 acts", x.count(7), 24);
        for (int k = 1; k <= 24; k++) {
            due.is("undo()", x.undo(), 24 - k);
            due.is("WEAR of the second", x.door(1, 3), Math.max(0, 15 - k));
            due.is("WEAR of the first", x.door(0, 3), k <= 15 ? 20 : 35 - k);
        }
        due.is("undo()", x.undo(), Due.STATE);
        due.is("WEAR at last", x.count(5), 11);
    }

    private static void promise9EachKindOfAct() {
        DoorsBehind x = Due.in(Due.HOUSE);
        Due.fill(x, 0, 0, 0, 1);
        String[] was = new String[8];
        was[0] = house(x);
        due.is("an errand", x.errand(0, 0, 2), 12);
        was[1] = house(x);
        due.is("oil", x.oil(0), 1);
        was[2] = house(x);
        due.is("bring", x.bring(2, 20), 50);
        was[3] = house(x);
        due.is("rule(0)", x.rule(0, 0), 5);
        was[4] = house(x);
        due.is("rule(1)", x.rule(1, 1), 5);
        was[5] = house(x);
        due.is("rule(2)", x.rule(2, 60), 30);
        was[6] = house(x);
        due.is("an errand", x.errand(0, 0, 2), Due.DARK);
        for (int k = 6; k >= 0; k--) {
            due.is("undo()", x.undo(), k);
            due.text("undone " + k, house(x), was[k]);
        }
        due.is("KEYS", x.rule(0, 1), 5);
        due.is("LIGHT", x.rule(1, 1), 5);
        due.is("SLEEP", x.rule(2, 1), 30);
    }

    private static String house(DoorsBehind x) {
        StringBuilder s = new StringBuilder();
        for (int k = 1; k < 6; k++) s.append(x.count(k)).append(' ');
        for (int k = 0; k < 5; k++) s.append(x.room(k, 0)).append(' ').append(x.door(k, 3)).append(' ');
        return s.toString();
    }

    /** "an ERRAND (also one that ends by ASTRAY to EMPTY)" */
    private static void promise9EachEndOfAnErrand() {
        DoorsBehind x = Due.in("h2,9,1;r0;r0;r5;r6;l0,1,1;k0,1,1;s0,2,0;l0,1,9;b1,3,2;");
        int[][] routes = {{0, 9}, {0, 0, 1}, {2}, {2}, {3, 4}, {0, 4}, {0}};
        int[] ends = {Due.ASTRAY, Due.LOCKED, 5, Due.BROKEN, Due.WOKEN, Due.DARK, Due.EMPTY};
        int[] wear = {0, 1, 2, 3, 3, 5, 7, 8};
        for (int k = 0; k < 7; k++) {
            Due.fill(x, 0, 0, routes[k]);
            due.is("errand " + k, x.errand(0, 0, routes[k].length), ends[k]);
            due.is("acts", x.count(7), k + 1);
            due.is("WEAR of all", x.count(5), wear[k + 1]);
        }
        for (int k = 6; k >= 0; k--) {
            due.is("undo()", x.undo(), k);
            due.is("WEAR of all then", x.count(5), wear[k]);
            due.is("TAKEN then", x.count(4), k > 2 ? 5 : 0);
        }
        due.is("WEIGHT", x.count(3), 11);
    }

    private static void promise9WhatIsNoAct() {
        DoorsBehind x = Due.in(Due.HOUSE);
        x.row(0, 0, 2);
        x.set(0, 1, 1);
        x.copy(0, 0, 0, 1, 1);
        x.drop(0);
        x.feed('h');
        x.house();
        x.fault();
        x.image(0);
        x.as(0, 1);
        x.ask(0, 0);
        x.byTurns(3);
        x.drawn(60, 1, 0);
        x.way(4, -1);
        due.is("none of these is an act", x.count(7), 0);
        due.is("undo()", x.undo(), Due.STATE);
    }

    /** What is refused forgets no act, when as many are kept as can be. */
    private static void promise9RefusedWhenFull() {
        DoorsBehind x = Due.in(Due.HOUSE);
        x.row(0, 0, 1);
        for (int k = 1; k <= 24; k++) x.rule(2, k);
        due.is("errand: BAD", x.errand(0, 0, 9), Due.BAD);
        due.is("errand: NULL", x.errand(1, 0, 1), Due.NULL);
        due.is("errand: PLACE", x.errand(0, 0, 2), Due.PLACE);
        due.is("oil: STATE", x.oil(0), Due.STATE);
        due.is("oil: BAD", x.oil(9), Due.BAD);
        due.is("bring: STATE", x.bring(1, 1), Due.STATE);
        due.is("bring: BAD", x.bring(0, 0), Due.BAD);
        due.is("rule: BAD", x.rule(0, 64), Due.BAD);
        due.is("rule: BAD", x.rule(3, 1), Due.BAD);
        due.is("restore: BAD", x.restore(2), Due.BAD);
        due.is("restore: STATE", x.restore(0), Due.STATE);
        due.is("house: a FAULT", x.house(), -1000100);
        for (int k = 23; k >= 0; k--) due.is("undo()", x.undo(), k);
        due.is("SLEEP as at first", x.rule(2, 1), 30);
    }

    /** Rows, tape, trace, fault, images and status are no part of what is undone. */
    private static void promise9WhatIsLeft() {
        DoorsBehind x = Due.in(Due.HOUSE);
        x.house();
        x.row(0, 0, 3);
        x.errand(0, 0, 1);
        x.image(0);
        x.rule(1, 9);
        x.row(1, 1, 4);
        x.feed('h');
        x.ask(0, 1);
        x.set(0, 3, 0);
        x.undo();
        due.is("undo()", x.undo(), 0);
        due.is("rows", x.count(0), 2);
        due.is("the tape", x.count(8), 1);
        due.trace("the trace", x, 21, 20);
        due.is("fault()", x.fault(), 1);
        due.is("status()", x.status(), 2);
        due.ledger("the ledger", x, 100, 301, 200);
        due.is("restore(0)", x.restore(0), 1);
        due.is("WEAR of the image", x.count(5), 1);
    }

    // ---- promise 12: "its WEAR as it was. BAD; STATE: it is 0."

    private static void promise12Oil() {
        for (int doors = 1; doors <= 8; doors++) {
            DoorsBehind x = Due.in("h9,60,0;r0;r1;" + "l0,1,0;".repeat(doors));
            Due.fill(x, 0, 0, 0, doors - 1);
            for (int d : new int[] {LEAST, -1, doors, 8, MOST}) due.is("oil(" + d + ") of " + doors, x.oil(d), Due.BAD);
            due.is("oil of WEAR 0", x.oil(doors - 1), Due.STATE);
            x.errand(0, 1, 1);
            due.is("oil of WEAR 1", x.oil(doors - 1), 1);
            due.is("its WEAR then", x.door(doors - 1, 3), 0);
            due.is("oil of WEAR 0 again", x.oil(doors - 1), Due.STATE);
            due.is("acts", x.count(7), 2);
            due.is("undo()", x.undo(), 1);
            due.is("its WEAR again", x.door(doors - 1, 3), 1);
        }
        due.is("oil(0) without a house", new DoorsBehind().oil(0), Due.BAD);
    }

    private static void promise12AllWear() {
        DoorsBehind x = Due.in("h9,60,0;r0;r1;c0,1,0;l0,1,0;");
        Due.fill(x, 0, 0, 0, 1);
        for (int k = 0; k < 40; k++) x.errand(0, 0, 1);
        for (int k = 0; k < 3; k++) x.errand(0, 1, 1);
        due.is("LOUD of WEAR 40", x.door(0, 4), 80);
        due.is("oil of WEAR 40", x.oil(0), 40);
        due.is("LOUD then", x.door(0, 4), 0);
        due.is("the other one stays", x.door(1, 3), 3);
        due.is("WEAR of all", x.count(5), 3);
        due.is("oil of WEAR 3", x.oil(1), 3);
        due.is("WEAR of all", x.count(5), 0);
        due.ledger("oil leaves the ledger", x, 101, 411, 201);
    }

    // ---- promise 13: "WEIGHT v (1 to 20)": "WEIGHT of all ROOMS then. BAD; STATE: something lies in it."

    private static void promise13Bring() {
        for (int rooms = 2; rooms <= 8; rooms++) {
            DoorsBehind x = Due.in("h1,1,0;" + "r0;".repeat(rooms) + "l0,1,0;");
            for (int r : new int[] {LEAST, -1, rooms, 8, MOST}) due.is("bring(" + r + ", 1) of " + rooms, x.bring(r, 1), Due.BAD);
            for (int v : new int[] {LEAST, -1, 0, 21, MOST}) due.is("bring(0, " + v + ")", x.bring(0, v), Due.BAD);
            due.is("no act", x.count(7), 0);
            due.is("bring(0, 1)", x.bring(0, 1), 1);
            due.is("bring to the last", x.bring(rooms - 1, 20), 21);
            due.is("the last", x.room(rooms - 1, 0), 20);
            for (int v : new int[] {1, 20}) due.is("bring(0, " + v + ") again", x.bring(0, v), Due.STATE);
            for (int v : new int[] {0, 21}) due.is("BAD ahead of STATE", x.bring(0, v), Due.BAD);
            due.is("acts", x.count(7), 2);
        }
        due.is("bring(0, 1) without a house", new DoorsBehind().bring(0, 1), Due.BAD);
        for (int v = 1; v <= 20; v++) due.is("bring(1, " + v + ")", Due.in("h1,1,0;r2;r0;l0,1,0;").bring(1, v), 2 + v);
        DoorsBehind y = Due.in("h1,1,0;r1;r0;l0,1,0;");
        due.is("WEIGHT 1 is something", y.bring(0, 1), Due.STATE);
    }

    private static void promise13Full() {
        DoorsBehind x = Due.in("h9,60,0;" + "r0;".repeat(8) + "l0,7,0;");
        for (int r = 0; r < 8; r++) due.is("bring(" + r + ", 20)", x.bring(r, 20), 20 * (r + 1));
        for (int r = 0; r < 8; r++) due.is("bring(" + r + ", 1)", x.bring(r, 1), Due.STATE);
        x.row(0, 0, 1);
        due.is("taken", x.errand(0, 0, 1), 20);
        due.is("bring to the one that is empty then", x.bring(7, 3), 143);
        due.is("TAKEN stays", x.count(4), 20);
        for (int k = 9; k >= 0; k--) due.is("undo()", x.undo(), k);
        due.is("all undone", x.count(3), 0);
    }

    // ---- promise 14: "KEYS (which = 0; 0 to 63), LIGHT (1; 1 to 9), SLEEP (2; 1 to 60) is v: what it was"

    private static void promise14Rule() {
        DoorsBehind x = Due.in("h9,60,63;r0;r0;l0,1,0;");
        int[][] right = {{0, 0, 63}, {0, 63, 0}, {0, 1, 63}, {0, 62, 1}, {1, 1, 9}, {1, 9, 1}, {1, 5, 9}, {2, 1, 60}, {2, 60, 1}, {2, 33, 60}};
        for (int[] r : right) due.is("rule(" + r[0] + ", " + r[1] + ")", x.rule(r[0], r[1]), r[2]);
        for (int v : new int[] {LEAST, -1, 64, MOST}) due.is("KEYS " + v, x.rule(0, v), Due.BAD);
        for (int v : new int[] {LEAST, -1, 0, 10, MOST}) due.is("LIGHT " + v, x.rule(1, v), Due.BAD);
        for (int v : new int[] {LEAST, -1, 0, 61, MOST}) due.is("SLEEP " + v, x.rule(2, v), Due.BAD);
        for (int which : new int[] {LEAST, -1, 3, MOST}) due.is("rule(" + which + ", 1)", x.rule(which, 1), Due.BAD);
        due.is("acts", x.count(7), 10);
        due.is("KEYS as they were", x.rule(0, 0), 62);
        due.is("LIGHT as it was", x.rule(1, 1), 5);
        due.is("SLEEP as it was", x.rule(2, 1), 33);
        DoorsBehind y = new DoorsBehind();
        for (int which = -1; which <= 3; which++) {
            for (int v : new int[] {-1, 0, 1, 64}) due.is("STATE ahead of BAD", y.rule(which, v), Due.STATE);
        }
    }

    private static void promise14Acts() {
        DoorsBehind x = Due.in("h9,60,63;r0;r0;l0,1,0;");
        for (int which = 0; which < 3; which++) {
            int was = x.rule(which, 1);
            due.is("an act", x.count(7), 1);
            due.is("undo()", x.undo(), 0);
            due.is("as it was", x.rule(which, 2), was);
            due.is("undo()", x.undo(), 0);
            due.is("the value that stands", x.rule(which, was), was);
            due.is("is an act, too", x.count(7), 1);
            due.is("undo()", x.undo(), 0);
        }
    }

    /** Which of the three it is, seen by what an errand comes to. */
    private static void promise14WhatItIsFor() {
        DoorsBehind x = Due.in("h9,60,63;r0;r0;r4;k0,1,5;b1,2,9;");
        Due.fill(x, 0, 0, 0, 1);
        due.is("well", x.would(0, 0, 2, 0), 4);
        x.rule(0, 31);
        due.is("without KEY 5", x.would(0, 0, 2, 0), 1007);
        x.rule(0, 32);
        due.is("with KEY 5 alone", x.would(0, 0, 2, 0), 4);
        x.rule(1, 2);
        due.is("at LIGHT 2", x.would(0, 0, 2, 0), 1010);
        x.rule(1, 3);
        due.is("at LIGHT 3", x.would(0, 0, 2, 0), 4);
        x.rule(2, 4);
        due.is("at SLEEP 4", x.would(0, 0, 2, 0), 1009);
        x.rule(2, 5);
        due.is("at SLEEP 5", x.would(0, 0, 2, 0), 4);
    }

    // ---- promise 26: "An IMAGE (0, 1) is kept of the HOUSE: 1. BAD; STATE: no HOUSE."

    private static void promise26Image() {
        DoorsBehind x = new DoorsBehind();
        for (int k : new int[] {LEAST, -1, 2, MOST}) due.is("BAD ahead of STATE", x.image(k), Due.BAD);
        for (int k = 0; k < 2; k++) due.is("image(" + k + ") of no house", x.image(k), Due.STATE);
        Due.read(x, Due.HOUSE);
        for (int k : new int[] {LEAST, -1, 2, MOST}) due.is("image(" + k + ")", x.image(k), Due.BAD);
        for (int k = 0; k < 2; k++) due.is("none is kept yet", x.restore(k), Due.STATE);
        due.is("image(0)", x.image(0), 1);
        due.is("not the other one", x.restore(1), Due.STATE);
        due.is("image(1)", x.image(1), 1);
        x.bring(0, 5);
        due.is("image(0) again", x.image(0), 1);
        due.is("restore(1)", x.restore(1), 1);
        due.is("as the other one was kept", x.room(0, 0), 0);
        due.is("restore(0)", x.restore(0), 1);
        due.is("as it was kept last", x.room(0, 0), 5);
    }

    private static void promise26ChangesNothing() {
        DoorsBehind x = Due.in(Due.HOUSE);
        Due.fill(x, 0, 0, 0, 1);
        x.errand(0, 0, 1);
        x.errand(0, 0, 1);
        String was = Due.seen(x);
        x.image(0);
        x.image(1);
        due.same("image()", was, x);
        due.is("status()", x.status(), 11);
        due.is("undo()", x.undo(), 1);
        due.is("undo()", x.undo(), 0);
        due.is("restore(0)", x.restore(0), 1);
        due.is("what is undone is in the image", x.count(5), 2);
    }

    // ---- promise 27: "The HOUSE is as an IMAGE kept it (no ACT can be undone then): 1. BAD; STATE: none was kept."

    private static void promise27Restore() {
        DoorsBehind x = new DoorsBehind();
        for (int k : new int[] {LEAST, -1, 2, MOST}) due.is("BAD ahead of STATE", x.restore(k), Due.BAD);
        for (int k = 0; k < 2; k++) due.is("restore(" + k + ") of none", x.restore(k), Due.STATE);
        Due.read(x, Due.HOUSE);
        x.rule(0, 1);
        for (int k = 0; k < 2; k++) due.is("restore(" + k + ") of none", x.restore(k), Due.STATE);
        due.is("the act stays", x.count(7), 1);
        x.image(1);
        due.is("restore(0) of none", x.restore(0), Due.STATE);
        due.is("the act stays", x.count(7), 1);
        due.is("restore(1)", x.restore(1), 1);
        due.is("no act then", x.count(7), 0);
        due.is("restore(1) again", x.restore(1), 1);
        for (int k : new int[] {LEAST, -1, 2, MOST}) due.is("restore(" + k + ")", x.restore(k), Due.BAD);
    }

    private static void promise27WholeHouse() {
        DoorsBehind x = Due.in(Due.HOUSE);
        Due.fill(x, 0, 0, 0, 1, 4);
        x.errand(0, 0, 2);
        x.bring(0, 6);
        x.rule(0, 4);
        x.rule(1, 3);
        x.rule(2, 44);
        x.image(0);
        String was = house(x);
        x.errand(0, 0, 1);
        x.errand(0, 2, 1);
        x.errand(0, 0, 0);
        x.oil(1);
        x.bring(2, 20);
        x.rule(0, 63);
        x.rule(1, 9);
        x.rule(2, 1);
        x.feed('h');
        x.ask(4, 0);
        for (int k = 0; k < 2; k++) {
            due.is("restore(0)", x.restore(0), 1);
            due.text("restored", house(x), was);
            due.is("KEYS", x.rule(0, 1), 4);
            due.is("LIGHT", x.rule(1, 1), 3);
            due.is("SLEEP", x.rule(2, 1), 44);
        }
        due.ledger("the ledger is left", x, 300);
        due.trace("the trace is left", x, 14, 13, 10);
        due.is("the tape is left", x.count(8), 1);
        due.is("rows are left", x.count(0), 1);
        due.is("status() is left", x.status(), 0);
    }

    /** The doors of an image are those of its house, though another house has been read since. */
    private static void promise27AnotherHouse() {
        DoorsBehind x = Due.in("h1,1,0;r1;r2;r3;b0,1,9;c1,2,8;");
        x.image(0);
        Due.read(x, "h2,2,2;" + "r4;".repeat(8) + "s7,0,3;".repeat(8));
        x.image(1);
        due.is("restore(0)", x.restore(0), 1);
        due.is("doors", x.count(1), 2);
        due.is("rooms", x.count(2), 3);
        due.is("kind(0)", x.kind(0), 2);
        due.is("kind(2)", x.kind(2), Due.BAD);
        due.is("door(1, 2)", x.door(1, 2), 8);
        due.is("room(3, 0)", x.room(3, 0), Due.BAD);
        due.is("LIGHT", x.rule(1, 1), 1);
        due.is("restore(1)", x.restore(1), 1);
        due.is("doors", x.count(1), 8);
        due.is("rooms", x.count(2), 8);
        due.is("kind(7)", x.kind(7), 5);
        due.is("door(7, 0)", x.door(7, 0), 7);
        due.is("LIGHT", x.rule(1, 1), 2);
    }

    private static void promise27NoActs() {
        DoorsBehind x = Due.in(Due.HOUSE);
        x.image(0);
        for (int k = 1; k <= 30; k++) x.rule(2, k);
        due.is("restore(0)", x.restore(0), 1);
        due.is("undo()", x.undo(), Due.STATE);
        due.is("SLEEP", x.rule(2, 60), 30);
        due.is("count(7)", x.count(7), 1);
        due.is("undo()", x.undo(), 0);
        due.is("undo()", x.undo(), Due.STATE);
        for (int k = 1; k <= 24; k++) x.rule(2, k);
        due.is("24 acts again", x.count(7), 24);
        for (int k = 23; k >= 0; k--) due.is("undo()", x.undo(), k);
        due.is("SLEEP as restored", x.rule(2, 60), 30);
    }
}
