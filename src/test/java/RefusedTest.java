/**
 * "What is refused, or found, changes nothing but status(), but an ERRAND": each refusal that the document names,
 * of each call, at the first number that is not allowed at either end, and far off; what is asked or foretold
 * changes nothing either. Each call is made on an object of its own, which is then held against its twin.
 */
public final class RefusedTest {
    private static final Due due = new Due("RefusedTest");
    private static final Twin twin = new Twin(due);
    private static final int LEAST = Integer.MIN_VALUE, MOST = Integer.MAX_VALUE;
    private static final int HELD = Twin.PLACE;

    public static void main(String[] args) {
        rowsAreBad();
        tellingIsBad();
        doingIsBad();
        foretellingIsBad();
        turnsAndDrawsAreBad();
        whoIsBad();
        askingIsBad();
        stateOfAHouse();
        stateWithoutAHouse();
        badWithoutAHouse();
        full();
        foundInRows();
        foundOnRoutes();
        faults();
        asked();
        foretold();
        due.end();
    }

    private static void bad(String call, Twin.Call c) {
        twin.leaves(call, Twin::lived, c, Due.BAD, HELD);
    }

    // ---- BAD, in a house of six rooms and five doors

    private static void rowsAreBad() {
        for (int row : new int[] {LEAST, -1, 8, MOST}) {
            bad("row(" + row + ", 0, 1)", x -> x.row(row, 0, 1));
            bad("row(" + row + ", 0, -1), BAD ahead of SIZE", x -> x.row(row, 0, -1));
            bad("set(" + row + ", 0, 1)", x -> x.set(row, 0, 1));
            bad("copy(" + row + ", 0, 0, 0, 1)", x -> x.copy(row, 0, 0, 0, 1));
            bad("copy(0, 0, " + row + ", 0, 1)", x -> x.copy(0, 0, row, 0, 1));
            bad("copy(5, -1, " + row + ", 0, 1), BAD ahead of NULL", x -> x.copy(5, -1, row, 0, 1));
            bad("copy(" + row + ", -1, 5, 0, 1), BAD ahead of NULL", x -> x.copy(row, -1, 5, 0, 1));
            bad("drop(" + row + ")", x -> x.drop(row));
        }
        for (int lane : new int[] {LEAST, -1, 3, MOST}) {
            bad("row(0, " + lane + ", 1)", x -> x.row(0, lane, 1));
            bad("row(0, " + lane + ", -1), BAD ahead of SIZE", x -> x.row(0, lane, -1));
        }
        for (int n : new int[] {41, MOST}) bad("row(0, 0, " + n + ")", x -> x.row(0, 0, n));
    }

    private static void tellingIsBad() {
        for (int letter : new int[] {LEAST, -1, 256, MOST}) bad("feed(" + letter + ")", x -> x.feed(letter));
    }

    private static void doingIsBad() {
        for (int door : new int[] {LEAST, -1, 5, 8, MOST}) {
            bad("oil(" + door + ")", x -> x.oil(door));
            bad("door(" + door + ", 0)", x -> x.door(door, 0));
        }
        for (int room : new int[] {LEAST, -1, 6, 8, MOST}) {
            bad("bring(" + room + ", 1)", x -> x.bring(room, 1));
            bad("room(" + room + ", 0)", x -> x.room(room, 0));
        }
        for (int v : new int[] {LEAST, -1, 0, 21, MOST}) {
            bad("bring(3, " + v + "), an empty room", x -> x.bring(3, v));
            bad("bring(0, " + v + "), BAD ahead of STATE", x -> x.bring(0, v));
        }
        for (int which : new int[] {LEAST, -1, 3, MOST}) bad("rule(" + which + ", 1)", x -> x.rule(which, 1));
        for (int v : new int[] {LEAST, -1, 64, MOST}) bad("rule(0, " + v + ")", x -> x.rule(0, v));
        for (int v : new int[] {LEAST, 0, 10, MOST}) bad("rule(1, " + v + ")", x -> x.rule(1, v));
        for (int v : new int[] {LEAST, 0, 61, MOST}) bad("rule(2, " + v + ")", x -> x.rule(2, v));
        for (int what : new int[] {LEAST, -1, 6, MOST}) bad("door(0, " + what + ")", x -> x.door(0, what));
        for (int what : new int[] {LEAST, -1, 2, MOST}) bad("room(0, " + what + ")", x -> x.room(0, what));
        for (int row : new int[] {LEAST, -1, 8, MOST}) badRoute("row " + row, row, -1, 1);
        for (int n : new int[] {LEAST, -1, 9, MOST}) {
            badRoute("n = " + n, 0, 0, n);
            badRoute("n = " + n + " ahead of NULL", 5, 0, n);
            badRoute("n = " + n + " ahead of PLACE", 0, -1, n);
        }
    }

    private static void badRoute(String why, int row, int i, int n) {
        bad("errand, " + why, x -> x.errand(row, i, n));
        bad("would, " + why, x -> x.would(row, i, n, 0));
        bad("needs, " + why, x -> x.needs(row, i, n, 0));
        bad("who, " + why, x -> x.who(0, 0, row, i, n, 7));
        bad("sticks, " + why, x -> x.sticks(row, i, n, 1, 0));
    }

    private static void foretellingIsBad() {
        for (int what : new int[] {LEAST, -1, 5, MOST}) badWould(what);
        for (int what : new int[] {LEAST, -1, 3, MOST}) badNeeds(what);
        for (int what : new int[] {LEAST, -1, 2, MOST}) badSticks(1, what);
        for (int p : new int[] {LEAST, -1, 11, MOST}) badSticks(p, 0);
        for (int room : new int[] {LEAST, -1, 6, 8, MOST}) {
            bad("way(" + room + ", -1)", x -> x.way(room, -1));
            bad("share(" + room + ", 1)", x -> x.share(room, 1));
        }
        for (int k : new int[] {LEAST, -2}) bad("way(1, " + k + ")", x -> x.way(1, k));
        for (int n : new int[] {LEAST, -1, 1000, MOST}) bad("share(1, " + n + ")", x -> x.share(1, n));
        for (int v : new int[] {LEAST, -1, 161, MOST}) bad("sets(" + v + ", 0)", x -> x.sets(v, 0));
        for (int what : new int[] {LEAST, -1, 3, MOST}) bad("sets(6, " + what + ")", x -> x.sets(6, what));
    }

    private static void badWould(int what) {
        bad("would(0, 0, 1, " + what + ")", x -> x.would(0, 0, 1, what));
        bad("would(5, 0, 1, " + what + "), BAD ahead of NULL", x -> x.would(5, 0, 1, what));
        bad("would(0, 5, 1, " + what + "), BAD ahead of PLACE", x -> x.would(0, 5, 1, what));
    }

    private static void badNeeds(int what) {
        bad("needs(0, 0, 1, " + what + ")", x -> x.needs(0, 0, 1, what));
        bad("needs(5, 0, 1, " + what + "), BAD ahead of NULL", x -> x.needs(5, 0, 1, what));
        bad("needs(0, 5, 1, " + what + "), BAD ahead of PLACE", x -> x.needs(0, 5, 1, what));
    }

    private static void badSticks(int p, int what) {
        bad("sticks(0, 0, 1, " + p + ", " + what + ")", x -> x.sticks(0, 0, 1, p, what));
        bad("sticks(5, 0, 1, " + p + ", " + what + "), BAD ahead of NULL", x -> x.sticks(5, 0, 1, p, what));
        bad("sticks(0, 5, 1, " + p + ", " + what + "), BAD ahead of PLACE", x -> x.sticks(0, 5, 1, p, what));
    }

    private static void turnsAndDrawsAreBad() {
        for (int n : new int[] {LEAST, -1, 4, MOST}) bad("byTurns(" + n + ")", x -> x.byTurns(n));
        for (int n : new int[] {LEAST, -1, 61, MOST}) bad("drawn(" + n + ", 1, 0)", x -> x.drawn(n, 1, 0));
        for (int seed : new int[] {LEAST, -1, 0, 1000000, MOST}) bad("drawn(1, " + seed + ", 0)", x -> x.drawn(1, seed, 0));
        for (int what : new int[] {LEAST, -1, 2, MOST}) bad("drawn(1, 1, " + what + ")", x -> x.drawn(1, 1, what));
        for (int k : new int[] {LEAST, -1, 2, MOST}) {
            bad("image(" + k + ")", x -> x.image(k));
            bad("restore(" + k + ")", x -> x.restore(k));
        }
    }

    private static void whoIsBad() {
        for (int door : new int[] {LEAST, -1, 5, 8, MOST}) {
            for (int which = 0; which < 4; which++) badWho(door, which, 7);
        }
        for (int which : new int[] {LEAST, -1, 4, MOST}) badWho(0, which, 7);
        for (int v : new int[] {LEAST, -1, 161, 1005, 1012, MOST}) {
            for (int which = 0; which < 4; which++) badWho(0, which, v);
        }
    }

    private static void badWho(int door, int which, int v) {
        String call = "who(" + door + ", " + which + ", .., " + v + ")";
        bad(call, x -> x.who(door, which, 0, 0, 1, v));
        bad(call + ", BAD ahead of NULL", x -> x.who(door, which, 5, 0, 1, v));
        bad(call + ", BAD ahead of PLACE", x -> x.who(door, which, 0, 5, 1, v));
    }

    private static void askingIsBad() {
        for (int one : new int[] {LEAST, -1, 5, 8, MOST}) {
            bad("kind(" + one + ")", x -> x.kind(one));
            for (int what = 0; what < 2; what++) badAsk(one, what);
            for (int kind = 0; kind <= 5; kind++) badAs(one, kind);
        }
        for (int kind : new int[] {LEAST, -1, 6, MOST}) {
            for (int one = 0; one < 5; one++) badAs(one, kind);
        }
        for (int what : new int[] {LEAST, -1, 2, MOST}) badAsk(1, what);
        for (int what : new int[] {LEAST, -1, 9, MOST}) bad("count(" + what + ")", x -> x.count(what));
    }

    private static void badAs(int one, int kind) {
        bad("as(" + one + ", " + kind + ")", x -> x.as(one, kind));
    }

    private static void badAsk(int one, int what) {
        bad("ask(" + one + ", " + what + ")", x -> x.ask(one, what));
    }

    // ---- STATE and FULL

    private static void stateOfAHouse() {
        twin.leaves("undo() of no act", Twin::withoutActs, x -> x.undo(), Due.STATE, HELD);
        twin.leaves("oil(0), oiled", Twin::lived, x -> x.oil(0), Due.STATE, HELD);
        twin.leaves("oil(4), never opened", Twin::lived, x -> x.oil(4), Due.STATE, HELD);
        for (int v : new int[] {1, 20}) {
            twin.leaves("bring(0, " + v + ")", Twin::lived, x -> x.bring(0, v), Due.STATE, HELD);
            twin.leaves("bring(5, " + v + ")", Twin::lived, x -> x.bring(5, v), Due.STATE, HELD);
        }
    }

    private static void state(String call, Twin.Call c) {
        twin.leaves(call + " without a house", Twin::bare, c, Due.STATE, HELD);
    }

    private static void stateWithoutAHouse() {
        state("undo()", x -> x.undo());
        for (int row : new int[] {-1, 0, 5, 8}) {
            for (int n : new int[] {-1, 0, 1, 9}) stateOfRoute(row, n);
        }
        for (int which = -1; which <= 3; which++) stateOfRule(which);
        for (int v : new int[] {-1, 0, 160, 161}) {
            state("sets(" + v + ", 0)", x -> x.sets(v, 0));
            state("sets(" + v + ", 3)", x -> x.sets(v, 3));
        }
        for (int n = -1; n <= 4; n++) stateOfTurns(n);
        for (int k = 0; k < 2; k++) stateOfImage(k);
        state("drawn(1, 1, 0)", x -> x.drawn(1, 1, 0));
        state("drawn(61, 0, 2), ahead of BAD", x -> x.drawn(61, 0, 2));
    }

    private static void stateOfRoute(int row, int n) {
        String route = "(" + row + ", 0, " + n + ")";
        state("errand" + route, x -> x.errand(row, 0, n));
        state("would" + route, x -> x.would(row, 0, n, 0));
        state("would" + route + ", what = 5", x -> x.would(row, 0, n, 5));
        state("needs" + route, x -> x.needs(row, 0, n, 0));
        state("needs" + route + ", what = 3", x -> x.needs(row, 0, n, 3));
        state("sticks" + route, x -> x.sticks(row, 0, n, 1, 0));
        state("sticks" + route + ", p = 11", x -> x.sticks(row, 0, n, 11, 2));
    }

    private static void stateOfRule(int which) {
        state("rule(" + which + ", 1)", x -> x.rule(which, 1));
        state("rule(" + which + ", 64)", x -> x.rule(which, 64));
    }

    private static void stateOfTurns(int n) {
        state("byTurns(" + n + ")", x -> x.byTurns(n));
    }

    private static void stateOfImage(int k) {
        state("image(" + k + ")", x -> x.image(k));
        state("restore(" + k + ")", x -> x.restore(k));
    }

    private static void badWithoutAHouse() {
        noneThere("oil(0)", x -> x.oil(0));
        noneThere("bring(0, 1)", x -> x.bring(0, 1));
        noneThere("door(0, 0)", x -> x.door(0, 0));
        noneThere("room(0, 0)", x -> x.room(0, 0));
        noneThere("way(0, -1)", x -> x.way(0, -1));
        noneThere("share(0, 0)", x -> x.share(0, 0));
        for (int which = 0; which < 4; which++) noWho(which);
        noneThere("kind(0)", x -> x.kind(0));
        noneThere("as(0, 0)", x -> x.as(0, 0));
        noneThere("ask(0, 0)", x -> x.ask(0, 0));
        noneThere("image(2), BAD ahead of STATE", x -> x.image(2));
        noneThere("image(-1), BAD ahead of STATE", x -> x.image(-1));
        noneThere("restore(2), BAD ahead of STATE", x -> x.restore(2));
        noneThere("restore(-1), BAD ahead of STATE", x -> x.restore(-1));
    }

    private static void noneThere(String call, Twin.Call c) {
        twin.leaves(call + " without a house", Twin::bare, c, Due.BAD, HELD);
    }

    private static void noWho(int which) {
        noneThere("who(0, " + which + ", ..)", x -> x.who(0, which, 0, 0, 1, 7));
        noneThere("who(0, " + which + ", ..), BAD ahead of NULL", x -> x.who(0, which, 5, 0, 1, 7));
    }

    private static void full() {
        due.is("the tape but for one byte", Twin.nearlyFullTape().count(8), 109);
        due.is("the full tape", Twin.fullTape().count(8), 110);
        for (int letter : new int[] {0, ';', 255}) {
            twin.leaves("feed(" + letter + ") of 111", Twin::fullTape, x -> x.feed(letter), Due.FULL, HELD);
        }
        for (int letter : new int[] {LEAST, -1, 256, MOST}) {
            twin.leaves("feed(" + letter + "), BAD ahead of FULL", Twin::fullTape, x -> x.feed(letter), Due.BAD, HELD);
        }
        twin.changes("feed of 110", Twin::nearlyFullTape, x -> x.feed('1'), 110, "tape");
    }

    // ---- FINDINGS of calls that are no errand; an errand that finds NULL or PLACE does not begin

    private static void finds(String call, Twin.Call c, int number) {
        twin.leaves(call, Twin::lived, c, -1000010 - number, number);
    }

    private static void foundInRows() {
        for (int n : new int[] {LEAST, -1}) {
            finds("row(0, 0, " + n + ")", x -> x.row(0, 0, n), 4);
            finds("row(5, 2, " + n + ")", x -> x.row(5, 2, n), 4);
        }
        for (int i : new int[] {LEAST, -1, 0, MOST}) finds("set(5, " + i + ", 1)", x -> x.set(5, i, 1), 1);
        for (int i : new int[] {LEAST, -1, 5, MOST}) finds("set(0, " + i + ", 1)", x -> x.set(0, i, 1), 2);
        finds("set(2, 0, 1), a row of none", x -> x.set(2, 0, 1), 2);
        finds("set(7, 40, 1)", x -> x.set(7, 40, 1), 2);
        for (int n : new int[] {-1, 0, 1}) {
            finds("copy(5, 0, 0, 0, " + n + ")", x -> x.copy(5, 0, 0, 0, n), 1);
            finds("copy(0, 0, 5, 0, " + n + ")", x -> x.copy(0, 0, 5, 0, n), 1);
            finds("copy(5, 0, 5, 0, " + n + ")", x -> x.copy(5, 0, 5, 0, n), 1);
            finds("copy(0, 0, 1, 0, " + n + "), bytes to shorts", x -> x.copy(0, 0, 1, 0, n), 5);
            finds("copy(1, 0, 0, 0, " + n + "), shorts to bytes", x -> x.copy(1, 0, 0, 0, n), 5);
            finds("copy(1, -1, 3, 9, " + n + "), shorts to ints", x -> x.copy(1, -1, 3, 9, n), 5);
            finds("copy(3, 0, 0, 0, " + n + "), ints to bytes", x -> x.copy(3, 0, 0, 0, n), 5);
        }
        int[][] places = {{-1, 0, 1}, {0, -1, 1}, {0, 0, -1}, {5, 0, 1}, {0, 40, 1}, {6, 0, 0}, {0, 41, 0}, {-1, 0, 0}, {0, -1, 0},
            {0, 0, 6}, {1, 0, 5}, {0, 36, 5}, {LEAST, 0, 1}, {0, LEAST, 1}, {0, 0, LEAST}, {MOST, 0, 1}, {0, MOST, 1},
            {0, 0, MOST}, {1, 0, MOST}, {0, 1, MOST}, {MOST, MOST, MOST}, {LEAST, LEAST, LEAST}};
        for (int[] p : places) {
            finds("copy(0, " + p[0] + ", 7, " + p[1] + ", " + p[2] + ")", x -> x.copy(0, p[0], 7, p[1], p[2]), 2);
        }
        finds("drop(5)", x -> x.drop(5), 1);
        int[][] no = {{0, 2}, {0, 3}, {0, 4}, {0, 5}, {1, 3}, {1, 4}, {1, 5}, {2, 2}, {2, 4}, {2, 5}, {3, 1}, {3, 2}, {3, 3}, {3, 5},
            {4, 1}, {4, 2}, {4, 3}};
        for (int[] k : no) finds("as(" + k[0] + ", " + k[1] + ")", x -> x.as(k[0], k[1]), 3);
    }

    private static void foundOnRoutes() {
        for (int n : new int[] {0, 1, 8}) {
            for (int i : new int[] {LEAST, -1, 0, MOST}) foundOnRoute(5, i, n, 1);
        }
        int[][] places = {{-1, 0}, {-1, 1}, {5, 1}, {6, 0}, {0, 6}, {1, 5}, {LEAST, 0}, {LEAST, 8}, {MOST, 0}, {MOST, 1}, {MOST, 8}};
        for (int[] p : places) foundOnRoute(0, p[0], p[1], 2);
        foundOnRoute(2, 0, 1, 2);
        foundOnRoute(2, 1, 0, 2);
        foundOnRoute(7, 33, 8, 2);
        foundOnRoute(7, 40, 1, 2);
        foundOnRoute(7, 41, 0, 2);
    }

    private static void foundOnRoute(int row, int i, int n, int number) {
        String route = "(" + row + ", " + i + ", " + n + ")";
        finds("errand" + route, x -> x.errand(row, i, n), number);
        finds("would" + route, x -> x.would(row, i, n, 4), number);
        finds("needs" + route, x -> x.needs(row, i, n, 2), number);
        finds("who" + route, x -> x.who(4, 3, row, i, n, 1011), number);
        finds("sticks" + route, x -> x.sticks(row, i, n, 10, 1), number);
    }

    /** "-1000100 less the place of a FAULT: all stays": of each beginning that is no house, the fault is its end. */
    private static void faults() {
        for (int length = 0; length < Twin.STAR.length(); length++) {
            String part = Twin.STAR.substring(0, length);
            if (length >= 36 && part.endsWith(";")) continue;
            twin.leaves("house() of " + part, Twin::livedWithoutTape, x -> Due.read(x, part), -1000100 - length, HELD);
        }
        twin.leaves("house() of nothing", Twin::livedWithoutTape, x -> x.house(), -1000100, HELD);
        twin.leaves("house() of no tokens", Twin::livedWithoutTape, x -> Due.read(x, Twin.STAR.replace(";s", "; s")), -1000157, HELD);
    }

    // ---- what is asked and foretold changes nothing

    private static void leaves(String call, Twin.Call c, long want, int status) {
        twin.leaves(call, Twin::lived, c, want, status);
    }

    private static void asked() {
        leaves("fault()", x -> x.fault(), 1, HELD);
        leaves("ledger(0)", x -> x.ledger(0), 103, HELD);
        leaves("ledger(2)", x -> x.ledger(2), 203, HELD);
        leaves("trace(5)", x -> x.trace(5), 20, HELD);
        for (int i : new int[] {LEAST, -1, 3, 17, MOST}) leaves("ledger(" + i + ")", x -> x.ledger(i), Due.NONE, HELD);
        for (int i : new int[] {LEAST, -1, 6, 16, MOST}) leaves("trace(" + i + ")", x -> x.trace(i), Due.NONE, HELD);
        int[] ofDoor = {0, 3, 4, 1, 6, 1};
        for (int what = 0; what < 6; what++) askedOfDoor(what, ofDoor[what]);
        leaves("room(0, 0)", x -> x.room(0, 0), 6, HELD);
        leaves("room(0, 1)", x -> x.room(0, 1), 31, HELD);
        leaves("kind(4)", x -> x.kind(4), 5, HELD);
        leaves("as(4, 4)", x -> x.as(4, 4), 4, 0);
        leaves("status()", x -> x.status(), HELD, HELD);
        int[] counts = {5, 5, 6, 51, 10, 2, 3, 7, 20};
        for (int what = 0; what < 9; what++) askedCount(what, counts[what]);
    }

    private static void askedOfDoor(int what, int want) {
        leaves("door(2, " + what + ")", x -> x.door(2, what), want, HELD);
    }

    private static void askedCount(int what, int want) {
        leaves("count(" + what + ")", x -> x.count(what), want, HELD);
    }

    private static void foretold() {
        int[] would = {20, 1, 1, 1, 4}, astray = {1006, 1, 1, 1, 4};
        for (int what = 0; what < 5; what++) foretoldWould(what, would[what], astray[what]);
        leaves("way(2, -1)", x -> x.way(2, -1), 1, HELD);
        leaves("way(2, 0)", x -> x.way(2, 0), 1, HELD);
        leaves("way(2, 1)", x -> x.way(2, 1), Due.NONE, HELD);
        leaves("way(3, -1)", x -> x.way(3, -1), Due.NONE, HELD);
        int[] needs = {1, 4, 1};
        for (int what = 0; what < 3; what++) foretoldNeeds(what, needs[what]);
        int[] sets = {1, 6, 6};
        for (int what = 0; what < 3; what++) foretoldSets(what, sets[what]);
        leaves("share(5, 999)", x -> x.share(5, 999), 176, HELD);
        leaves("byTurns(0)", x -> x.byTurns(0), 0, HELD);
        leaves("byTurns(1)", x -> x.byTurns(1), 20, HELD);
        leaves("byTurns(2)", x -> x.byTurns(2), 8, HELD);
        leaves("byTurns(3)", x -> x.byTurns(3), 17, HELD);
        int[] who = {62 - 32, 4 + 32 + 256, 32, 4};
        for (int which = 0; which < 4; which++) foretoldWho(which, who[which]);
        leaves("sticks(0, 3, 1, 5, 0)", x -> x.sticks(0, 3, 1, 5, 0), 1, 0);
        leaves("sticks(0, 3, 1, 5, 1)", x -> x.sticks(0, 3, 1, 5, 1), 2, 0);
        leaves("drawn(0, 1, 0)", x -> x.drawn(0, 1, 0), 0, HELD);
        leaves("drawn(0, 1, 1)", x -> x.drawn(0, 1, 1), 0, HELD);
        for (int n : new int[] {1, 60}) {
            for (int seed : new int[] {1, 999999}) leftByDraws(n, seed);
        }
    }

    private static void foretoldWould(int what, int want, int astray) {
        leaves("would(0, 3, 1, " + what + ")", x -> x.would(0, 3, 1, what), want, 0);
        leaves("would(1, 0, 2, " + what + ")", x -> x.would(1, 0, 2, what), astray, 0);
    }

    private static void foretoldNeeds(int what, int want) {
        leaves("needs(0, 3, 1, " + what + ")", x -> x.needs(0, 3, 1, what), want, 0);
        leaves("needs(1, 0, 2, " + what + ")", x -> x.needs(1, 0, 2, what), Due.NONE, 0);
    }

    private static void foretoldSets(int what, int want) {
        leaves("sets(16, " + what + ")", x -> x.sets(16, what), want, HELD);
    }

    private static void foretoldWho(int which, int want) {
        leaves("who(3, " + which + ", 0, 3, 1, 20)", x -> x.who(3, which, 0, 3, 1, 20), want, 0);
    }

    /** What draws come to is tested elsewhere: here, that the same draws come to the same twice. */
    private static void leftByDraws(int n, int seed) {
        for (int what = 0; what < 2; what++) {
            int asked = what;
            long want = Twin.lived().drawn(n, seed, what);
            leaves("drawn(" + n + ", " + seed + ", " + what + ")", x -> x.drawn(n, seed, asked), want, HELD);
        }
    }
}
