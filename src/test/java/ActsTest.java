/** Promises 9, 12 to 14, 26, 27, 32: what is done and undone, images, counts. */
public final class ActsTest {
    private static final Due due = new Due("ActsTest");

    public static void main(String[] args) {
        oil();
        bring();
        rule();
        undo();
        oldestIsForgotten();
        images();
        counts();
        due.end();
    }

    private static void oil() {
        due.is("oil(0) without a house", new DoorsBehind().oil(0), Due.BAD);
        DoorsBehind x = Due.in(Due.HOUSE);
        Due.fill(x, 0, 0, 0);
        due.is("oil(0) of no wear", x.oil(0), Due.STATE);
        due.is("oil(5)", x.oil(5), Due.BAD);
        due.is("oil(-1)", x.oil(-1), Due.BAD);
        due.is("none of them is an act", x.count(7), 0);
        x.errand(0, 0, 1);
        x.errand(0, 0, 1);
        due.is("oil(0)", x.oil(0), 2);
        due.is("its wear", x.door(0, 3), 0);
        due.is("oil(0) again", x.oil(0), Due.STATE);
        due.is("acts", x.count(7), 3);
    }

    private static void bring() {
        due.is("bring(0, 1) without a house", new DoorsBehind().bring(0, 1), Due.BAD);
        DoorsBehind x = Due.in(Due.HOUSE);
        due.is("bring(0, 0)", x.bring(0, 0), Due.BAD);
        due.is("bring(0, 21)", x.bring(0, 21), Due.BAD);
        due.is("bring(5, 1)", x.bring(5, 1), Due.BAD);
        due.is("bring(-1, 1)", x.bring(-1, 1), Due.BAD);
        due.is("bring(1, 1)", x.bring(1, 1), Due.STATE);
        due.is("BAD ahead of STATE", x.bring(1, 21), Due.BAD);
        due.is("bring(0, 20)", x.bring(0, 20), 62);
        due.is("room(0, 0)", x.room(0, 0), 20);
        due.is("bring(0, 20) again", x.bring(0, 20), Due.STATE);
        due.is("acts", x.count(7), 1);
        due.is("undo()", x.undo(), 0);
        due.is("bring(0, 1)", x.bring(0, 1), 43);
    }

    private static void rule() {
        due.is("STATE ahead of BAD", new DoorsBehind().rule(3, 0), Due.STATE);
        DoorsBehind x = Due.in(Due.HOUSE);
        int[][] wrong = {{-1, 1}, {3, 1}, {0, -1}, {0, 64}, {1, 0}, {1, 10}, {2, 0}, {2, 61}};
        for (int[] w : wrong) due.is("rule(" + w[0] + ", " + w[1] + ")", x.rule(w[0], w[1]), Due.BAD);
        due.is("no act", x.count(7), 0);
        int[][] right = {{0, 63, 5}, {0, 0, 63}, {1, 9, 5}, {1, 1, 9}, {2, 60, 30}, {2, 1, 60}};
        for (int[] r : right) due.is("rule(" + r[0] + ", " + r[1] + ")", x.rule(r[0], r[1]), r[2]);
        due.is("acts", x.count(7), 6);
        for (int k = 5; k >= 0; k--) due.is("undo()", x.undo(), k);
        due.is("keys as at first", x.rule(0, 1), 5);
        due.is("light as at first", x.rule(1, 1), 5);
        due.is("sleep as at first", x.rule(2, 1), 30);
    }

    private static void undo() {
        DoorsBehind x = Due.in(Due.HOUSE);
        Due.fill(x, 0, 0, 0, 1, 9);
        due.is("undo() of none", x.undo(), Due.STATE);
        x.errand(0, 0, 2);
        due.is("TAKEN", x.count(4), 12);
        due.is("undo() of an errand", x.undo(), 0);
        due.ledger("undone", x, 100, 101, 302, 201, 200);
        due.is("weight", x.room(2, 0), 12);
        due.is("TAKEN then", x.count(4), 0);
        due.is("WEAR then", x.count(5), 0);
        x.errand(0, 0, 3);
        due.is("astray", x.status(), 6);
        due.is("WEAR of one gone astray", x.count(5), 2);
        due.is("undo() of one gone astray", x.undo(), 0);
        due.is("its WEAR then", x.count(5), 0);
        x.errand(0, 0, 1);
        x.oil(0);
        x.bring(1, 2);
        due.is("undo() of bring", x.undo(), 2);
        due.is("room 1", x.room(1, 0), 0);
        due.is("undo() of oil", x.undo(), 1);
        due.is("door 0", x.door(0, 3), 1);
        due.is("undo() of the errand", x.undo(), 0);
        due.is("undo() of none left", x.undo(), Due.STATE);
        due.is("rows are no acts", x.count(0), 1);
    }

    private static void oldestIsForgotten() {
        DoorsBehind x = Due.in(Due.HOUSE);
        for (int k = 1; k <= 60; k++) {
            x.rule(2, k);
            due.is("count(7)", x.count(7), Math.min(k, 24));
        }
        for (int k = 23; k >= 0; k--) due.is("undo()", x.undo(), k);
        due.is("undo() of a forgotten one", x.undo(), Due.STATE);
        due.is("sleep as it was 24 acts ago", x.rule(2, 1), 36);
        due.is("count(7) then", x.count(7), 1);
    }

    private static void images() {
        DoorsBehind x = new DoorsBehind();
        due.is("image(0) of no house", x.image(0), Due.STATE);
        due.is("image(2)", x.image(2), Due.BAD);
        due.is("image(-1)", x.image(-1), Due.BAD);
        due.is("restore(0) of none", x.restore(0), Due.STATE);
        due.is("restore(2)", x.restore(2), Due.BAD);
        due.is("restore(-1)", x.restore(-1), Due.BAD);
        Due.read(x, Due.HOUSE);
        Due.fill(x, 0, 0, 0, 1, 9);
        x.errand(0, 0, 1);
        x.rule(0, 33);
        due.is("image(1)", x.image(1), 1);
        due.is("acts stay", x.count(7), 2);
        due.is("restore(0) yet", x.restore(0), Due.STATE);
        x.errand(0, 0, 2);
        x.rule(0, 4);
        x.rule(1, 9);
        due.is("restore(1)", x.restore(1), 1);
        due.ledger("restored", x, 100, 101, 302, 201, 200);
        due.is("undo()", x.undo(), Due.STATE);
        due.is("count(7)", x.count(7), 0);
        due.is("TAKEN", x.count(4), 7);
        due.is("WEAR", x.count(5), 1);
        due.is("WEIGHT", x.count(3), 35);
        due.is("keys", x.rule(0, 0), 33);
        due.is("light", x.rule(1, 1), 5);
        Due.read(x, "h1,1,0;r1;r1;s0,1,4;");
        due.is("image(0) of another house", x.image(0), 1);
        due.is("restore(1) of the first house", x.restore(1), 1);
        due.is("its doors", x.count(1), 5);
        due.is("its rooms", x.count(2), 5);
        due.is("its kinds", x.kind(0), 1);
        due.is("restore(0)", x.restore(0), 1);
        due.is("the other's doors", x.count(1), 1);
        due.is("the other's kind", x.kind(0), 5);
        due.is("an image of a foretold thing is not changed", x.restore(1), 1);
        due.is("TAKEN again", x.count(4), 7);
    }

    private static void counts() {
        DoorsBehind x = Due.in(Due.HOUSE);
        Due.fill(x, 0, 0, 0, 1);
        Due.fill(x, 5, 1, 0);
        x.errand(0, 0, 2);
        x.feed(1);
        x.feed(2);
        int[] want = {2, 5, 5, 30, 12, 2, 5, 1, 2};
        for (int k = 0; k < want.length; k++) due.is("count(" + k + ")", x.count(k), want[k]);
        due.is("count(-1)", x.count(-1), Due.BAD);
        due.is("count(9)", x.count(9), Due.BAD);
    }
}
