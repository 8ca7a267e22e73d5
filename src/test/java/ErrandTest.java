/** Promises 10, 11, 15, 16: errands, the ledger, doors and rooms. */
public final class ErrandTest {
    private static final Due due = new Due("ErrandTest");

    public static void main(String[] args) {
        doors();
        rooms();
        refused();
        taken();
        astray();
        lockedAndBroken();
        woken();
        dark();
        empty();
        throughOpenDoors();
        creakersWear();
        eightDoors();
        due.end();
    }

    private static void doors() {
        DoorsBehind x = Due.in(Due.HOUSE);
        int[][] want = {{0, 1, 3, 0, 3, 1}, {1, 2, 7, 0, 3, 2}, {2, 3, 4, 0, 4, 1}, {3, 4, 8, 0, 1, 1}, {0, 4, 2, 0, 1, 0}};
        for (int d = 0; d < 5; d++) {
            for (int w = 0; w < 6; w++) due.is("door(" + d + ", " + w + ")", x.door(d, w), want[d][w]);
            due.is("door(" + d + ", -1)", x.door(d, -1), Due.BAD);
            due.is("door(" + d + ", 6)", x.door(d, 6), Due.BAD);
        }
        due.is("door(5, 0)", x.door(5, 0), Due.BAD);
        due.is("door(-1, 0)", x.door(-1, 0), Due.BAD);
        due.is("door(MAX, 0)", x.door(Integer.MAX_VALUE, 0), Due.BAD);
    }

    private static void rooms() {
        DoorsBehind x = Due.in(Due.HOUSE);
        int[] weights = {0, 7, 12, 3, 20}, doors = {17, 3, 6, 12, 24};
        for (int r = 0; r < 5; r++) {
            due.is("room(" + r + ", 0)", x.room(r, 0), weights[r]);
            due.is("room(" + r + ", 1)", x.room(r, 1), doors[r]);
            due.is("room(" + r + ", 2)", x.room(r, 2), Due.BAD);
            due.is("room(" + r + ", -1)", x.room(r, -1), Due.BAD);
        }
        due.is("room(5, 0)", x.room(5, 0), Due.BAD);
        due.is("room(-1, 1)", x.room(-1, 1), Due.BAD);
    }

    private static void refused() {
        DoorsBehind x = new DoorsBehind();
        due.is("STATE ahead of BAD", x.errand(8, 0, 9), Due.STATE);
        Due.read(x, Due.HOUSE);
        due.is("NULL", x.errand(0, 0, 0), Due.NULL);
        Due.fill(x, 0, 2, 0, 1, 2);
        x.errand(0, 0, 1);
        String was = Due.seen(x);
        due.is("errand(-1, 0, 1)", x.errand(-1, 0, 1), Due.BAD);
        due.is("errand(8, 0, 1)", x.errand(8, 0, 1), Due.BAD);
        due.is("errand(0, 0, -1)", x.errand(0, 0, -1), Due.BAD);
        due.is("errand(0, 0, 9)", x.errand(0, 0, 9), Due.BAD);
        due.is("BAD ahead of NULL", x.errand(1, 0, 9), Due.BAD);
        due.is("NULL ahead of PLACE", x.errand(1, -1, 1), Due.NULL);
        due.is("errand(0, -1, 1)", x.errand(0, -1, 1), Due.PLACE);
        due.is("errand(0, 3, 1)", x.errand(0, 3, 1), Due.PLACE);
        due.is("errand(0, 1, 3)", x.errand(0, 1, 3), Due.PLACE);
        due.is("errand(0, MAX, 1)", x.errand(0, Integer.MAX_VALUE, 1), Due.PLACE);
        due.is("errand(0, 4, 0)", x.errand(0, 4, 0), Due.PLACE);
        due.same("what is refused", was, x);
        due.is("no doors from the end on", x.errand(0, 3, 0), Due.EMPTY);
    }

    private static void taken() {
        DoorsBehind x = Due.in(Due.HOUSE);
        Due.fill(x, 0, 0, 0, 1, 2, 3);
        due.is("to room 4", x.errand(0, 0, 4), 20);
        due.ledger("to room 4", x, 100, 101, 102, 103, 304, 203, 202, 201, 200);
        due.is("its weight then", x.room(4, 0), 0);
        due.is("TAKEN", x.count(4), 20);
        due.is("WEIGHT of all", x.count(3), 22);
        due.is("WEAR of all", x.count(5), 4);
        due.is("ACTS", x.count(7), 1);
        due.is("to room 1", x.errand(0, 0, 1), 7);
        due.ledger("to room 1", x, 100, 301, 200);
        due.is("TAKEN in all", x.count(4), 27);
        due.is("wear of door 0", x.door(0, 3), 2);
        DoorsBehind y = Due.in("h1,1,0;r4;r0;l0,1,9;");
        y.row(0, 0, 0);
        due.is("by no doors", y.errand(0, 0, 0), 4);
        due.ledger("by no doors", y, 300);
        due.is("by no doors again", y.errand(0, 0, 0), Due.EMPTY);
        due.ledger("by no doors again", y, 411);
    }

    private static void astray() {
        DoorsBehind x = Due.in(Due.HOUSE);
        Due.fill(x, 0, 0, 0, 2, -1, 5, 127);
        due.is("a door elsewhere", x.errand(0, 0, 2), Due.ASTRAY);
        due.ledger("a door elsewhere", x, 100, 406, 200);
        due.is("the door wears", x.door(0, 3), 1);
        due.is("the weight stays", x.room(1, 0), 7);
        due.is("it is an act", x.count(7), 1);
        for (int k = 2; k < 5; k++) {
            due.is("no such door", x.errand(0, k, 1), Due.ASTRAY);
            due.ledger("no such door", x, 406);
        }
        Due.fill(x, 1, 2, 256, Integer.MIN_VALUE, Integer.MAX_VALUE);
        for (int k = 0; k < 3; k++) due.is("no such number", x.errand(1, k, 1), Due.ASTRAY);
        due.is("acts", x.count(7), 7);
    }

    private static void lockedAndBroken() {
        DoorsBehind x = Due.in(Due.HOUSE);
        Due.fill(x, 0, 0, 4, 3);
        due.is("a seal, a lock from its other side", x.errand(0, 0, 2), 3);
        due.ledger("a seal, a lock", x, 104, 103, 303, 203, 204);
        due.is("the seal again", x.errand(0, 0, 1), Due.BROKEN);
        due.ledger("the seal again", x, 408);
        due.is("it does not wear", x.door(4, 3), 1);
        x.rule(0, 1 + 2 + 8 + 16 + 32);
        due.is("LOCKED ahead of BROKEN", x.errand(0, 0, 1), Due.LOCKED);
        due.ledger("locked", x, 407);
        x.oil(4);
        due.is("oiled, but locked", x.errand(0, 0, 1), Due.LOCKED);
        x.rule(0, 4);
        due.is("oiled, with its key", x.errand(0, 0, 1), 20);
        due.ledger("oiled, with its key", x, 104, 304, 204);
        keysByNumber();
    }

    private static void keysByNumber() {
        for (int n = 0; n <= 9; n++) {
            DoorsBehind x = Due.in("h9,60,0;r0;r1;k0,1," + n + ";");
            x.row(0, 0, 1);
            for (int key = 0; key < 6; key++) {
                x.rule(0, 1 << key);
                due.is("key " + key + " for " + n, x.would(0, 0, 1, 0), key == n % 6 ? 1 : 1007);
            }
        }
    }

    private static void woken() {
        DoorsBehind x = Due.in("h9,7,0;r0;r1;r2;r3;l0,1,3;l1,2,4;l2,3,1;l0,2,8;");
        Due.fill(x, 0, 0, 0, 1, 2, 3);
        due.is("noise as great as sleep", x.errand(0, 0, 2), 2);
        due.is("noise above sleep", x.errand(0, 0, 3), Due.WOKEN);
        due.ledger("noise above sleep", x, 100, 101, 102, 409, 202, 201, 200);
        due.is("the last one wears, too", x.door(2, 3), 1);
        due.is("by one door", x.errand(0, 3, 1), Due.WOKEN);
        DoorsBehind y = Due.in("h1,1,0;r0;r1;b0,1,9;");
        y.row(0, 0, 1);
        due.is("WOKEN ahead of DARK", y.errand(0, 0, 1), Due.WOKEN);
        due.ledger("WOKEN ahead of DARK", y, 100, 409, 200);
    }

    private static void dark() {
        DoorsBehind x = Due.in("h2,60,63;r0;r1;r2;r3;r4;b0,1,1;s1,2,0;k2,3,0;c0,4,9;");
        Due.fill(x, 0, 0, 0, 1, 2);
        due.is("draught as great as light", x.errand(0, 0, 2), 2);
        x.oil(1);
        due.is("draught above light", x.errand(0, 0, 3), Due.DARK);
        due.ledger("draught above light", x, 100, 101, 102, 410, 202, 201, 200);
        due.is("the last one wears, too", x.door(2, 3), 1);
        due.is("nothing is taken", x.room(3, 0), 3);
    }

    private static void empty() {
        DoorsBehind x = Due.in("h9,60,0;r0;r0;l0,1,0;");
        x.row(0, 0, 1);
        due.is("nothing lies there", x.errand(0, 0, 1), Due.EMPTY);
        due.ledger("nothing lies there", x, 100, 411, 200);
        due.is("TAKEN", x.count(4), 0);
    }

    private static void throughOpenDoors() {
        DoorsBehind x = Due.in("h1,5,0;r2;r1;l0,1,5;");
        x.row(0, 2, 8);
        due.is("eight times through one door", x.errand(0, 0, 8), 2);
        due.ledger("eight times through one door", x, 100, 300, 200);
        due.is("it wears once", x.door(0, 3), 1);
        due.is("three times", x.errand(0, 0, 3), 1);
        DoorsBehind y = Due.in("h9,60,1;r2;r1;s0,1,0;");
        y.row(0, 2, 2);
        due.is("twice through a seal", y.errand(0, 0, 2), 2);
    }

    private static void creakersWear() {
        DoorsBehind x = Due.in("h9,6,0;r0;r9;c0,1,2;");
        x.row(0, 0, 1);
        due.is("first", x.errand(0, 0, 1), 9);
        due.is("LOUD", x.door(0, 4), 4);
        due.is("second", x.errand(0, 0, 1), Due.EMPTY);
        due.is("third", x.errand(0, 0, 1), Due.EMPTY);
        due.is("LOUD", x.door(0, 4), 8);
        due.is("fourth", x.errand(0, 0, 1), Due.WOKEN);
        due.is("oil", x.oil(0), 4);
        due.is("oiled", x.errand(0, 0, 1), Due.EMPTY);
    }

    private static void eightDoors() {
        DoorsBehind x = Due.in("h9,60,0;r6;r1;r1;r1;r1;r1;r1;r1;"
            + "l0,1,9;l1,2,0;l2,3,0;l3,4,0;l4,5,0;l5,6,0;l6,7,0;l7,0,9;");
        Due.fill(x, 0, 0, 0, 1, 2, 3, 4, 5, 6, 7);
        due.is("all round", x.errand(0, 0, 8), 6);
        due.ledger("all round", x, 100, 101, 102, 103, 104, 105, 106, 107, 300, 207, 206, 205, 204, 203, 202, 201, 200);
        x.rule(2, 17);
        due.is("woken by the last", x.errand(0, 0, 8), Due.WOKEN);
        due.ledger("woken by the last", x, 100, 101, 102, 103, 104, 105, 106, 107, 409, 207, 206, 205, 204, 203, 202, 201, 200);
    }
}
