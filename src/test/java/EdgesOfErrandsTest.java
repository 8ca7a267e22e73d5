/** The edges of promises 10, 11, 15 and 16: errands, the ledger, doors, rooms. */
public final class EdgesOfErrandsTest {
    private static final Due due = new Due("EdgesOfErrandsTest");
    private static final int LEAST = Integer.MIN_VALUE, MOST = Integer.MAX_VALUE;
    /** A ring of eight rooms, all filled, and eight latches of loudness 1. */
    private static final String RING = "h9,60,0;r11;r1;r2;r3;r4;r5;r6;r7;"
        + "l0,1,1;l1,2,1;l2,3,1;l3,4,1;l4,5,1;l5,6,1;l6,7,1;l7,0,1;";

    public static void main(String[] args) {
        promise10HowMany();
        promise10Places();
        promise10Order();
        promise10NoSuchDoor();
        promise10LeadsFromOrTo();
        promise10AstrayFirst();
        promise10Keys();
        promise10SealWear();
        promise10Sleep();
        promise10LoudOfKinds();
        promise10CreakerWear();
        promise10Light();
        promise10Gaps();
        promise10OpenDoors();
        promise10NoiseAndDraughtBeginAnew();
        promise10Weights();
        promise10FirstInTime();
        promise10WhatStaysChanged();
        promise10RowsStay();
        promise10UpToThe512thCall();
        promise11Ledger();
        promise11FullLedger();
        promise11EmptyAsAnErrandBegins();
        promise15Door();
        promise15LoudNow();
        promise15Gaps();
        promise16Room();
        promise16Bits();
        due.end();
    }

    // ---- promise 10: "by n ITEMS (0 to 8) of a ROW from i on"

    private static void promise10HowMany() {
        DoorsBehind x = Due.in(RING);
        Due.fill(x, 0, 2, 0, 1, 2, 3, 4, 5, 6, 7, 0);
        int[] want = {11, 1, 2, 3, 4, 5, 6, 7, 11};
        for (int n = 0; n <= 8; n++) {
            due.is("errand(0, 0, " + n + ")", x.errand(0, 0, n), want[n]);
            due.is("status()", x.status(), 0);
            due.is("TAKEN", x.count(4), want[n]);
            due.is("undo()", x.undo(), 0);
        }
        for (int n : new int[] {LEAST, -1, 9, MOST}) due.is("errand(0, 0, " + n + ")", x.errand(0, 0, n), Due.BAD);
        for (int row : new int[] {LEAST, -1, 8, MOST}) due.is("errand(" + row + ", 0, 0)", x.errand(row, 0, 0), Due.BAD);
        x.row(7, 0, 1);
        due.is("the last row", x.errand(7, 0, 1), 1);
    }

    private static void promise10Places() {
        DoorsBehind x = Due.in(RING);
        x.row(0, 0, 40);
        x.set(0, 39, 7);
        due.is("the last item", x.errand(0, 39, 1), 7);
        due.is("eight from 32 on: seven times through door 0, then astray by door 7", x.errand(0, 32, 8), Due.ASTRAY);
        due.is("eight from 33 on", x.errand(0, 33, 8), Due.PLACE);
        due.is("one from 40 on", x.errand(0, 40, 1), Due.PLACE);
        due.is("none from 40 on", x.errand(0, 40, 0), 11);
        due.is("none from 41 on", x.errand(0, 41, 0), Due.PLACE);
        due.is("none from -1 on", x.errand(0, -1, 0), Due.PLACE);
        x.row(1, 0, 0);
        due.is("none of a row of none", x.errand(1, 0, 0), Due.EMPTY);
        due.is("none of a row of none, from 1 on", x.errand(1, 1, 0), Due.PLACE);
        due.is("one of a row of none", x.errand(1, 0, 1), Due.PLACE);
        for (int i : new int[] {LEAST, -1, 40, MOST}) due.is("eight from " + i + " on", x.errand(0, i, 8), Due.PLACE);
        due.is("acts: what is refused is none", x.count(7), 4);
    }

    /** "STATE: no HOUSE (ahead of BAD); NULL; PLACE" */
    private static void promise10Order() {
        DoorsBehind x = new DoorsBehind();
        due.is("STATE ahead of BAD", x.errand(-1, 0, 0), Due.STATE);
        due.is("STATE ahead of BAD", x.errand(0, 0, 9), Due.STATE);
        due.is("STATE ahead of NULL", x.errand(0, 0, 1), Due.STATE);
        due.is("status()", x.status(), 0);
        Due.read(x, RING);
        due.is("BAD ahead of NULL", x.errand(0, -1, 9), Due.BAD);
        due.is("NULL ahead of PLACE", x.errand(0, -1, 1), Due.NULL);
        due.is("status()", x.status(), 1);
        x.row(0, 0, 1);
        due.is("BAD ahead of PLACE", x.errand(0, -1, 9), Due.BAD);
        due.is("PLACE ahead of ASTRAY", x.errand(0, 0, 2), Due.PLACE);
        due.is("status()", x.status(), 2);
        due.is("no act", x.count(7), 0);
        due.is("no wear", x.count(5), 0);
    }

    /** "if there is no such one": the last door, and the first number that is none, at both ends. */
    private static void promise10NoSuchDoor() {
        for (int doors = 1; doors <= 8; doors++) {
            DoorsBehind x = Due.in("h9,60,0;r0;r9;" + "l0,1,0;".repeat(doors));
            Due.fill(x, 0, 2, doors - 1, doors, -1, LEAST, MOST);
            for (int k = 1; k < 5; k++) {
                due.is("no such door of " + doors, x.errand(0, k, 1), Due.ASTRAY);
                due.is("status()", x.status(), 6);
                due.ledger("no such door of " + doors, x, 406);
            }
            due.is("no wear", x.count(5), 0);
            due.is("the last of " + doors, x.errand(0, 0, 1), 9);
            due.ledger("the last of " + doors, x, 100 + doors - 1, 301, 200 + doors - 1);
        }
    }

    /** "or it does not lead from, or to, the ROOM in which one stands" */
    private static void promise10LeadsFromOrTo() {
        DoorsBehind x = Due.in("h9,60,0;r0;r1;r2;r3;l1,0,0;l2,1,0;l2,3,0;");
        Due.fill(x, 0, 0, 0, 1, 2);
        due.is("by doors the other way", x.errand(0, 0, 3), 3);
        due.is("a door not at the first room", x.errand(0, 1, 1), Due.ASTRAY);
        due.is("a door not at the first room", x.errand(0, 2, 1), Due.ASTRAY);
        Due.fill(x, 1, 0, 0, 2);
        due.is("a door not at the second room", x.errand(1, 0, 2), Due.ASTRAY);
        due.ledger("a door not at the second room", x, 100, 406, 200);
        Due.fill(x, 2, 0, 0, 0, 0);
        due.is("there, back and there", x.errand(2, 0, 3), 1);
        due.is("back: nothing lies there", x.errand(2, 0, 2), Due.EMPTY);
    }

    /** A door that does not lead from there is ASTRAY, whatever else it is: locked, broken, loud, draughty, open. */
    private static void promise10AstrayFirst() {
        DoorsBehind x = Due.in("h1,4,2;r0;r0;r9;r9;k2,3,0;s2,3,1;l2,3,5;b2,3,0;s0,1,1;s1,2,7;c0,1,0;");
        Due.fill(x, 0, 0, 0, 1, 2, 3);
        for (int door = 0; door < 4; door++) {
            due.is("not there: door " + door, x.errand(0, door, 1), Due.ASTRAY);
            due.ledger("not there: door " + door, x, 406);
        }
        due.is("nothing was opened", x.count(5), 0);
        Due.fill(x, 1, 0, 4, 5, 1);
        due.is("by three seals", x.errand(1, 0, 3), 9);
        due.is("the seal is broken", x.door(1, 3), 1);
        due.is("not there, and broken", x.errand(0, 1, 1), Due.ASTRAY);
        x.oil(4);
        Due.fill(x, 2, 0, 4, 5, 4);
        x.oil(5);
        due.is("open, but not there", x.errand(2, 0, 3), Due.ASTRAY);
        due.ledger("open, but not there", x, 104, 105, 406, 205, 204);
        x.oil(4);
        x.oil(5);
        Due.fill(x, 3, 0, 6, 4, 6, 5);
        due.is("open, and there again", x.would(3, 0, 4, 0), 9);
        due.is("open, and there again: the ROOM", x.would(3, 0, 4, 4), 2);
    }

    /** "its KEY (N by 6, what is left over) among KEYS, else LOCKED" */
    private static void promise10Keys() {
        for (char sort : "ks".toCharArray()) {
            for (int n = 0; n <= 9; n++) {
                DoorsBehind x = Due.in("h9,60,0;r0;r8;" + sort + "0,1," + n + ";");
                x.row(0, 0, 1);
                int key = 1 << n % 6;
                x.rule(0, 63 - key);
                due.is("all keys but its own", x.errand(0, 0, 1), Due.LOCKED);
                due.is("status()", x.status(), 7);
                due.ledger("all keys but its own", x, 407);
                due.is("it does not wear", x.door(0, 3), 0);
                x.rule(0, key);
                due.is("its own key alone", x.errand(0, 0, 1), 8);
                due.ledger("its own key alone", x, 100, 301, 200);
            }
        }
        for (char sort : "lbc".toCharArray()) {
            DoorsBehind x = Due.in("h9,60,0;r0;r8;" + sort + "0,1,3;");
            x.row(0, 0, 1);
            due.is("no key for " + sort, x.errand(0, 0, 1), 8);
        }
    }

    /** "a seal must have WEAR 0, else BROKEN" */
    private static void promise10SealWear() {
        DoorsBehind x = Due.in("h9,60,1;r0;r8;s0,1,0;");
        x.row(0, 0, 2);
        due.is("WEAR 0", x.errand(0, 0, 1), 8);
        due.is("WEAR 1", x.errand(0, 0, 1), Due.BROKEN);
        due.is("status()", x.status(), 8);
        due.ledger("WEAR 1", x, 408);
        due.is("WEAR stays", x.door(0, 3), 1);
        x.rule(0, 62);
        due.is("LOCKED ahead of BROKEN", x.errand(0, 0, 1), Due.LOCKED);
        x.rule(0, 1);
        x.oil(0);
        x.bring(0, 2);
        due.is("through it and back, oiled", x.errand(0, 0, 2), 2);
        due.is("it was opened once", x.door(0, 3), 1);
        for (char sort : "lbck".toCharArray()) {
            DoorsBehind y = Due.in("h9,60,1;r0;r8;" + sort + "0,1,0;");
            y.row(0, 0, 1);
            y.errand(0, 0, 1);
            due.is("no other one is broken", y.errand(0, 0, 1), Due.EMPTY);
            due.is("it wears on", y.door(0, 3), 2);
        }
    }

    /** "if NOISE is above SLEEP: WOKEN" */
    private static void promise10Sleep() {
        DoorsBehind x = Due.in("h9,60,0;r0;r1;r2;l0,1,9;l1,2,4;");
        Due.fill(x, 0, 0, 0, 1);
        for (int sleep = 1; sleep <= 15; sleep++) {
            x.rule(2, sleep);
            int want = sleep < 9 ? 1009 : sleep < 13 ? 1009 : 2;
            due.is("two doors at SLEEP " + sleep, x.would(0, 0, 2, 0), want);
            due.is("one door at SLEEP " + sleep, x.would(0, 0, 1, 0), sleep < 9 ? 1009 : 1);
            due.is("doors opened at SLEEP " + sleep, x.would(0, 0, 2, 3), sleep < 9 ? 1 : 2);
        }
        x.rule(2, 12);
        due.is("NOISE 13 above SLEEP 12", x.errand(0, 0, 2), Due.WOKEN);
        due.is("status()", x.status(), 9);
        due.ledger("NOISE 13 above SLEEP 12", x, 100, 101, 409, 201, 200);
        x.rule(2, 13);
        due.is("NOISE 13 at SLEEP 13", x.errand(0, 0, 2), 2);
        due.ledger("NOISE 13 at SLEEP 13", x, 100, 101, 302, 201, 200);
        x.rule(2, 8);
        due.is("NOISE 9 above SLEEP 8", x.errand(0, 0, 2), Due.WOKEN);
        due.ledger("NOISE 9 above SLEEP 8", x, 100, 409, 200);
    }

    /** "of a latch N; of a bolt N by 2 (cut); .. of a lock, a seal 1" */
    private static void promise10LoudOfKinds() {
        for (int n = 0; n <= 9; n++) {
            String doors = "l0,1," + n + ";b0,1," + n + ";c0,1," + n + ";k0,1," + n + ";s0,1," + n + ";";
            DoorsBehind x = Due.in("h9,60,63;r0;r1;" + doors);
            Due.fill(x, 0, 0, 0, 1, 2, 3, 4);
            int[] want = {n, n / 2, n, 1, 1};
            for (int k = 0; k < 5; k++) {
                due.is("NOISE of kind " + (k + 1) + ", N " + n, x.would(0, k, 1, 1), want[k]);
                due.is("LOUD of kind " + (k + 1) + ", N " + n, x.door(k, 4), want[k]);
            }
        }
    }

    /** "of a creaker N, and 2 for each WEAR (as it is ahead of this opening)" */
    private static void promise10CreakerWear() {
        DoorsBehind x = Due.in("h9,60,63;r0;r1;c0,1,1;l0,1,1;b0,1,2;k0,1,0;");
        Due.fill(x, 0, 0, 0, 1, 2, 3);
        for (int wear = 0; wear < 29; wear++) {
            due.is("NOISE at WEAR " + wear, x.would(0, 0, 1, 1), 1 + 2 * wear);
            due.is("LOUD at WEAR " + wear, x.door(0, 4), 1 + 2 * wear);
            x.errand(0, 0, 1);
            for (int k = 1; k < 4; k++) {
                x.errand(0, k, 1);
                due.is("LOUD of others stays", x.door(k, 4), 1);
            }
        }
        due.is("LOUD 59, and SLEEP 60", x.errand(0, 0, 1), Due.EMPTY);
        due.is("LOUD 61, and SLEEP 60", x.errand(0, 0, 1), Due.WOKEN);
        due.is("it wears all the same", x.door(0, 3), 31);
    }

    /** "if the DRAUGHT (GAPS of all DOORS that are open) is above LIGHT: DARK" */
    private static void promise10Light() {
        DoorsBehind x = Due.in(RING);
        Due.fill(x, 0, 0, 0, 1, 2, 3, 4, 5, 6, 7);
        for (int light = 1; light <= 9; light++) {
            x.rule(1, light);
            for (int n = 1; n <= 8; n++) {
                int well = n == 8 ? 11 : n;
                due.is(n + " latches at LIGHT " + light, x.would(0, 0, n, 0), n > light ? 1010 : well);
            }
        }
        x.rule(1, 7);
        due.is("DRAUGHT 8 above LIGHT 7", x.errand(0, 0, 8), Due.DARK);
        due.is("status()", x.status(), 10);
        due.ledger("DRAUGHT 8 above LIGHT 7", x, 100, 101, 102, 103, 104, 105, 106, 107, 410, 207, 206, 205, 204, 203, 202, 201, 200);
        x.rule(1, 8);
        due.is("DRAUGHT 8 at LIGHT 8", x.errand(0, 0, 8), 11);
        DoorsBehind y = Due.in("h4,60,0;r1;r1;r1;r1;r1;r1;b0,1,0;b1,2,0;b2,3,0;b3,4,0;b4,5,0;");
        Due.fill(y, 0, 0, 0, 1, 2, 3, 4);
        due.is("two bolts at LIGHT 4", y.would(0, 0, 2, 0), 1);
        due.is("three bolts at LIGHT 4", y.would(0, 0, 3, 0), 1010);
        y.rule(1, 9);
        due.is("four bolts at LIGHT 9", y.would(0, 0, 4, 0), 1);
        due.is("five bolts at LIGHT 9", y.would(0, 0, 5, 0), 1010);
        due.is("the DRAUGHT of five bolts", y.would(0, 0, 5, 2), 10);
    }

    /** "GAP: of a bolt 2, of a seal 0, of all others 1" */
    private static void promise10Gaps() {
        DoorsBehind x = Due.in("h1,60,63;r0;r1;l0,1,0;b0,1,0;c0,1,0;k0,1,0;s0,1,0;");
        Due.fill(x, 0, 0, 0, 1, 2, 3, 4);
        int[] gaps = {1, 2, 1, 1, 0};
        for (int k = 0; k < 5; k++) {
            due.is("GAP of kind " + (k + 1), x.door(k, 5), gaps[k]);
            due.is("DRAUGHT of kind " + (k + 1), x.would(0, k, 1, 2), gaps[k]);
            due.is("at LIGHT 1", x.would(0, k, 1, 0), gaps[k] > 1 ? 1010 : 1);
        }
        DoorsBehind y = Due.in("h1,60,63;r0;r0;r0;r0;r7;s0,1,0;s1,2,1;s2,3,2;c3,4,3;l3,4,3;");
        Due.fill(y, 0, 0, 0, 1, 2, 3, 4);
        due.is("three seals and a creaker at LIGHT 1", y.errand(0, 0, 4), 7);
    }

    /** "If it stands open, one goes through": no key, no noise, no wear, no second entry of the ledger. */
    private static void promise10OpenDoors() {
        DoorsBehind x = Due.in("h1,1,1;r5;r6;k0,1,0;");
        x.row(0, 0, 8);
        for (int n = 1; n <= 8; n++) {
            due.is(n + " times through a lock", x.would(0, 0, n, 0), n % 2 == 0 ? 5 : 6);
            due.is("NOISE", x.would(0, 0, n, 1), 1);
            due.is("DRAUGHT", x.would(0, 0, n, 2), 1);
            due.is("DOORS", x.would(0, 0, n, 3), 1);
            due.is("the ROOM", x.would(0, 0, n, 4), n % 2);
        }
        due.is("eight times", x.errand(0, 0, 8), 5);
        due.ledger("eight times", x, 100, 300, 200);
        due.is("WEAR", x.door(0, 3), 1);
        DoorsBehind y = Due.in("h1,1,1;r5;r6;r2;s0,1,0;s1,2,6;");
        Due.fill(y, 0, 0, 0, 1, 1, 0, 0, 1, 1, 0);
        due.is("through seals that stand open", y.errand(0, 0, 4), Due.WOKEN);
        y.rule(2, 2);
        y.oil(0);
        y.oil(1);
        due.is("through seals that stand open", y.errand(0, 0, 8), 5);
        due.ledger("through seals that stand open", y, 100, 101, 300, 201, 200);
    }

    /** "all DOORS shut, NOISE 0": nothing is left of the errand before. */
    private static void promise10NoiseAndDraughtBeginAnew() {
        DoorsBehind x = Due.in("h1,9,0;r0;r6;l0,1,9;");
        x.row(0, 0, 1);
        due.is("the first", x.errand(0, 0, 1), 6);
        for (int k = 0; k < 5; k++) {
            due.is("as loud again", x.errand(0, 0, 1), Due.EMPTY);
            due.ledger("opened again", x, 100, 411, 200);
        }
        due.is("WEAR", x.door(0, 3), 6);
    }

    /** "what lies in the ROOM is TAKEN (.. its WEIGHT is 0 then); if nothing does: EMPTY" */
    private static void promise10Weights() {
        DoorsBehind x = Due.in("h9,60,0;r0;r1;r20;l0,1,0;l0,2,0;");
        Due.fill(x, 0, 0, 0, 1);
        due.is("WEIGHT 1", x.errand(0, 0, 1), 1);
        due.is("room 1", x.room(1, 0), 0);
        due.is("room 2 stays", x.room(2, 0), 20);
        due.is("WEIGHT 20", x.errand(0, 1, 1), 20);
        due.is("TAKEN", x.count(4), 21);
        due.is("WEIGHT of all", x.count(3), 0);
        for (int n = 0; n <= 1; n++) {
            due.is("EMPTY", x.errand(0, 0, n), Due.EMPTY);
            due.is("status()", x.status(), 11);
        }
        due.is("TAKEN stays", x.count(4), 21);
        due.is("brought", x.bring(0, 3), 3);
        due.is("in the first room, by no door", x.errand(0, 0, 0), 3);
        due.ledger("in the first room", x, 300);
    }

    /** "of several the first in time": what comes first on the way, whatever would come behind it. */
    private static void promise10FirstInTime() {
        DoorsBehind x = Due.in("h1,5,1;r0;r0;r0;l0,1,5;k1,2,1;b1,2,9;s1,2,0;c1,2,2;l1,2,0;");
        Due.fill(x, 0, 2, 0, 9, 0, 1, 0, 2, 0, 4, 0, 5, 0, 3, 9, 1);
        due.is("ASTRAY at the second", x.would(0, 0, 2, 0), 1006);
        due.is("LOCKED at the second", x.would(0, 2, 2, 0), 1007);
        due.is("WOKEN ahead of DARK", x.would(0, 4, 2, 0), 1009);
        due.is("WOKEN by a creaker", x.would(0, 6, 2, 0), 1009);
        due.is("DARK, not woken, ahead of EMPTY", x.would(0, 8, 2, 0), 1010);
        due.is("WOKEN by a seal", x.would(0, 10, 2, 0), 1009);
        due.is("ASTRAY at the first", x.would(0, 12, 2, 0), 1006);
        due.is("EMPTY on the way is none", x.would(0, 0, 1, 0), 1011);
        x.rule(1, 9);
        due.is("EMPTY at last", x.would(0, 8, 2, 0), 1011);
        x.bring(2, 4);
        due.is("rooms on the way may be empty", x.would(0, 8, 2, 0), 4);
        x.rule(2, 4);
        due.is("WOKEN at the first ahead of LOCKED", x.would(0, 2, 2, 0), 1009);
        due.is("WOKEN at the first ahead of ASTRAY", x.would(0, 0, 2, 0), 1009);
    }

    /** "WEAR and THE LEDGER stay changed, whatever it came to"; and it is an ACT. */
    private static void promise10WhatStaysChanged() {
        String[] houses = {"h9,60,0;r0;r3;r4;l0,1,2;l0,2,2;", "h9,60,0;r0;r3;r4;l0,1,2;k1,2,2;", "h9,2,0;r0;r3;r4;l0,1,2;l1,2,2;",
            "h1,60,0;r0;r3;r4;l0,1,2;l1,2,2;", "h9,60,0;r0;r3;r0;l0,1,2;l1,2,2;"};
        int[] finding = {6, 7, 9, 10, 11};
        int[][] ledgers = {{100, 406, 200}, {100, 407, 200}, {100, 101, 409, 201, 200}, {100, 101, 410, 201, 200},
            {100, 101, 411, 201, 200}};
        for (int k = 0; k < houses.length; k++) {
            DoorsBehind x = Due.in(houses[k]);
            Due.fill(x, 0, 0, 0, 1);
            int weight = x.count(3), wear = (ledgers[k].length - 1) / 2;
            due.is(houses[k], x.errand(0, 0, 2), -1000010 - finding[k]);
            due.is("status()", x.status(), finding[k]);
            due.ledger(houses[k], x, ledgers[k]);
            due.is("WEIGHT stays", x.count(3), weight);
            due.is("TAKEN stays", x.count(4), 0);
            due.is("WEAR of the first", x.door(0, 3), 1);
            due.is("WEAR of the second", x.door(1, 3), wear - 1);
            due.is("an act", x.count(7), 1);
            due.is("undo()", x.undo(), 0);
            due.is("WEAR undone", x.count(5), 0);
            due.ledger(houses[k] + " undone", x, ledgers[k]);
            due.is("status() stays", x.status(), finding[k]);
        }
    }

    private static void promise10RowsStay() {
        DoorsBehind x = Due.in(RING);
        Due.fill(x, 0, 1, 0, 1, 2);
        x.errand(0, 0, 3);
        x.undo();
        due.is("the same row", x.errand(0, 0, 3), 3);
        due.is("its length", x.drop(0), 3);
    }

    /** "at most 512 calls": 22 to tell the house, 1 for the row, 487 errands, and the last two. */
    private static void promise10UpToThe512thCall() {
        DoorsBehind x = Due.in("h9,60,0;r0;r9;c0,1,9;");
        x.row(0, 0, 1);
        due.is("the first errand", x.errand(0, 0, 1), 9);
        for (int wear = 1; wear < 487; wear++) {
            due.is("at WEAR " + wear, x.errand(0, 0, 1), 9 + 2 * wear > 60 ? Due.WOKEN : Due.EMPTY);
        }
        due.is("LOUD by call 511", x.door(0, 4), 9 + 2 * 487);
        due.is("oil by call 512", x.oil(0), 487);
    }

    // ---- promise 11: "Number i of THE LEDGER (0 the first); NONE."

    private static void promise11Ledger() {
        DoorsBehind x = Due.in(RING);
        for (int i : new int[] {LEAST, -1, 0, 1, MOST}) due.is("an empty one", x.ledger(i), Due.NONE);
        x.row(0, 0, 1);
        x.errand(0, 0, 0);
        due.is("the only one", x.ledger(0), 300);
        for (int i : new int[] {LEAST, -1, 1, 2, MOST}) due.is("beside the only one", x.ledger(i), Due.NONE);
        x.errand(0, 0, 1);
        int[] want = {100, 301, 200};
        for (int i = 0; i < 3; i++) due.is("ledger(" + i + ")", x.ledger(i), want[i]);
        for (int i : new int[] {LEAST, -1, 3, 4, MOST}) due.is("beside three", x.ledger(i), Due.NONE);
        x.errand(0, 0, 0);
        due.is("a shorter one", x.ledger(0), 411);
        due.is("nothing of the longer one", x.ledger(1), Due.NONE);
        due.is("status() is left", x.status(), 11);
    }

    private static void promise11FullLedger() {
        DoorsBehind x = Due.in(RING);
        Due.fill(x, 0, 0, 0, 1, 2, 3, 4, 5, 6, 7);
        x.errand(0, 0, 8);
        due.is("count(6)", x.count(6), 17);
        due.ledger("eight doors", x, 100, 101, 102, 103, 104, 105, 106, 107, 300, 207, 206, 205, 204, 203, 202, 201, 200);
        x.errand(0, 0, 8);
        due.is("count(6)", x.count(6), 17);
        due.is("EMPTY ahead of what is shut", x.ledger(8), 411);
        due.is("the last one", x.ledger(16), 200);
        due.is("behind it", x.ledger(17), Due.NONE);
    }

    private static void promise11EmptyAsAnErrandBegins() {
        DoorsBehind x = Due.in(RING);
        x.row(0, 0, 1);
        x.errand(0, 0, 1);
        due.is("BAD", x.errand(0, 0, 9), Due.BAD);
        due.is("PLACE", x.errand(0, 0, 2), Due.PLACE);
        due.is("NULL", x.errand(1, 0, 1), Due.NULL);
        x.would(0, 0, 1, 0);
        x.image(0);
        x.restore(0);
        due.ledger("as it was", x, 100, 301, 200);
        x.errand(0, 0, 1);
        due.ledger("anew", x, 100, 411, 200);
        Due.read(x, "h0");
        due.ledger("behind a fault", x, 100, 411, 200);
        Due.read(x, RING);
        due.ledger("of another house", x);
    }

    // ---- promise 15: "0 FROM, 1 TO, 2 N, 3 WEAR, 4 LOUD (now), 5 GAP. BAD."

    private static void promise15Door() {
        DoorsBehind x = Due.in("h9,60,63;r0;r0;r0;r0;r0;r0;r0;r0;l0,7,9;b7,0,9;c1,2,0;k3,4,9;s6,5,0;l2,1,1;l5,6,0;b4,3,1;");
        int[][] want = {{0, 7, 9, 0, 9, 1}, {7, 0, 9, 0, 4, 2}, {1, 2, 0, 0, 0, 1}, {3, 4, 9, 0, 1, 1}, {6, 5, 0, 0, 1, 0},
            {2, 1, 1, 0, 1, 1}, {5, 6, 0, 0, 0, 1}, {4, 3, 1, 0, 0, 2}};
        for (int d = 0; d < 8; d++) {
            for (int what = 0; what < 6; what++) due.is("door(" + d + ", " + what + ")", x.door(d, what), want[d][what]);
            for (int what : new int[] {LEAST, -1, 6, MOST}) due.is("door(" + d + ", " + what + ")", x.door(d, what), Due.BAD);
        }
        for (int d : new int[] {LEAST, -1, 8, MOST}) {
            for (int what = -1; what <= 6; what++) due.is("door(" + d + ", " + what + ")", x.door(d, what), Due.BAD);
        }
        DoorsBehind y = Due.in("h1,1,0;r0;r0;l0,1,0;");
        due.is("the only door", y.door(0, 1), 1);
        due.is("no other", y.door(1, 1), Due.BAD);
    }

    private static void promise15LoudNow() {
        DoorsBehind x = Due.in("h9,60,63;r1;r1;l0,1,9;b0,1,9;c0,1,9;k0,1,9;s0,1,9;");
        Due.fill(x, 0, 0, 0, 1, 2, 3, 4);
        for (int d = 0; d < 5; d++) x.errand(0, d, 1);
        int[] loud = {9, 4, 11, 1, 1};
        for (int d = 0; d < 5; d++) {
            due.is("WEAR of " + d, x.door(d, 3), 1);
            due.is("LOUD of " + d, x.door(d, 4), loud[d]);
            due.is("N of " + d, x.door(d, 2), 9);
        }
        x.undo();
        x.undo();
        x.undo();
        due.is("LOUD when it is undone", x.door(2, 4), 9);
    }

    /** "GAP: of a bolt 2, of a seal 0, of all others 1", of any N and any wear. */
    private static void promise15Gaps() {
        int[] gaps = {1, 2, 1, 1, 0};
        for (int n = 0; n <= 9; n++) {
            DoorsBehind x = Due.in("h9,60,63;r0;r0;l0,1,n;b0,1,n;c0,1,n;k0,1,n;s0,1,n;".replace("n", "" + n));
            Due.fill(x, 0, 0, 0, 1, 2, 3, 4);
            for (int d = 0; d < 5; d++) {
                due.is("GAP of door " + d + ", N " + n, x.door(d, 5), gaps[d]);
                due.is("DRAUGHT of door " + d + ", N " + n, x.would(0, d, 1, 2), gaps[d]);
                x.errand(0, d, 1);
                due.is("GAP of door " + d + ", worn", x.door(d, 5), gaps[d]);
            }
        }
    }

    // ---- promise 16: "0 WEIGHT, 1 DOORS (bits) that lead from it, or to it. BAD."

    private static void promise16Room() {
        for (int rooms = 2; rooms <= 8; rooms++) {
            DoorsBehind x = Due.in("h1,1,0;" + "r20;".repeat(rooms - 1) + "r0;l0,1,0;");
            due.is("the first", x.room(0, 0), 20);
            due.is("the last but one", x.room(rooms - 2, 0), 20);
            due.is("the last", x.room(rooms - 1, 0), 0);
            for (int r : new int[] {LEAST, -1, rooms, 8, MOST}) {
                due.is("room(" + r + ", 0) of " + rooms, x.room(r, 0), Due.BAD);
                due.is("room(" + r + ", 1) of " + rooms, x.room(r, 1), Due.BAD);
            }
            for (int what : new int[] {LEAST, -1, 2, MOST}) due.is("room(0, " + what + ")", x.room(0, what), Due.BAD);
        }
    }

    private static void promise16Bits() {
        DoorsBehind x = Due.in("h1,1,0;r0;r0;r0;r0;l0,1,0;l1,0,0;l0,1,0;l1,0,0;l0,1,0;l1,0,0;l0,1,0;l2,0,0;");
        due.is("all doors", x.room(0, 1), 255);
        due.is("all but the last", x.room(1, 1), 127);
        due.is("the last", x.room(2, 1), 128);
        due.is("none", x.room(3, 1), 0);
        DoorsBehind y = Due.in("h1,1,0;r0;r0;r0;l1,2,0;");
        due.is("none at the first", y.room(0, 1), 0);
        due.is("the first from it", y.room(1, 1), 1);
        due.is("the first to it", y.room(2, 1), 1);
    }
}
