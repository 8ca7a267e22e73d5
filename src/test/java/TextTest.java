/** Promises 6 to 8: the tape, houses that are read, faults. */
public final class TextTest {
    private static final Due due = new Due("TextTest");
    private static final String LAW = "h1,1,0;", ROOMS = "r0;r0;", DOOR = "l0,1,0;";

    public static void main(String[] args) {
        tape();
        good();
        lawFaults();
        roomFaults();
        doorFaults();
        noTokens();
        tooMany();
        allStays();
        stands();
        due.end();
    }

    private static void tape() {
        DoorsBehind x = new DoorsBehind();
        due.is("feed(-1)", x.feed(-1), Due.BAD);
        due.is("feed(256)", x.feed(256), Due.BAD);
        for (int k = 1; k <= 110; k++) due.is("feed", x.feed(k == 1 ? 0 : 255), k);
        due.is("count(8)", x.count(8), 110);
        due.is("feed of one more", x.feed(0), Due.FULL);
        due.is("BAD ahead of FULL", x.feed(256), Due.BAD);
        due.is("house()", x.house(), -1000100);
        due.is("count(8) then", x.count(8), 0);
        due.is("feed then", x.feed(7), 1);
    }

    private static void good() {
        reads(LAW + ROOMS + DOOR, 1);
        reads("h9,60,63;" + ROOMS + DOOR, 1);
        reads("h09,01,00;r20;r00;s01,00,09;", 1);
        reads(LAW + ROOMS.repeat(4) + "l7,0,9;".repeat(8), 8);
        reads(LAW + ROOMS + "l0,1,0;b0,1,0;c0,1,0;k0,1,0;s1,0,0;", 5);
        DoorsBehind x = Due.in(LAW + ROOMS + "l0,1,0;b0,1,0;c0,1,0;k0,1,0;s1,0,0;");
        for (int k = 0; k < 5; k++) due.is("kind(" + k + ")", x.kind(k), k + 1);
    }

    private static void lawFaults() {
        fails("", 0, 1);
        fails("x", 0, 1);
        fails("r", 0, 1);
        fails("h", 1, 1);
        fails("h,", 1, 1);
        fails("ha", 1, 1);
        fails("h0", 1, 2);
        fails("h10,", 1, 2);
        fails("h1", 2, 1);
        fails("h1;", 2, 1);
        fails("h1,0", 3, 2);
        fails("h1,61", 3, 2);
        fails("h1,1,64", 5, 2);
        fails("h1,1,99", 5, 2);
        fails("h1,1,;", 5, 1);
        fails("h1,1,0", 6, 1);
        fails("h1,1,0,", 6, 1);
        fails("h0,0,64;", 1, 2);
        fails("h1,1,0;", 7, 1);
        fails("h1,1,0;h", 7, 1);
    }

    private static void roomFaults() {
        fails(LAW + DOOR, 7, 1);
        fails(LAW + "r", 8, 1);
        fails(LAW + "r21;", 8, 2);
        fails(LAW + "r0", 9, 1);
        fails(LAW + "r0,", 9, 1);
        fails(LAW + "r0;", 10, 1);
        fails(LAW + "r0;" + DOOR, 10, 1);
        fails(LAW + ROOMS, 13, 1);
        fails(LAW + ROOMS + "h", 13, 1);
        fails(LAW + ROOMS + ";", 13, 1);
        fails(LAW + ROOMS + "r20;r21;", 18, 2);
        fails(LAW + ROOMS + DOOR + "r0;", 20, 1);
    }

    private static void doorFaults() {
        fails(LAW + ROOMS + "a0,1,0;", 13, 1);
        fails(LAW + ROOMS + "l", 14, 1);
        fails(LAW + ROOMS + "l2,", 14, 2);
        fails(LAW + ROOMS + "l1,1,", 16, 2);
        fails(LAW + ROOMS + "l1,01,", 16, 2);
        fails(LAW + ROOMS + "l1,2,", 16, 2);
        fails(LAW + ROOMS + "l1;", 15, 1);
        fails(LAW + ROOMS + "l0,1,10;", 18, 2);
        fails(LAW + ROOMS + "l0,1,9", 19, 1);
        fails(LAW + ROOMS + "l0,1,9,", 19, 1);
        fails(LAW + ROOMS + "l0,1;", 17, 1);
        fails(LAW + ROOMS + DOOR + "l", 21, 1);
        fails(LAW + ROOMS + DOOR + "0", 20, 1);
        fails(LAW + ROOMS + DOOR + "h", 20, 1);
        fails(LAW + ROOMS + DOOR + ";", 20, 1);
    }

    private static void noTokens() {
        fails("h100,1,0;", 1, 1);
        fails("h1,001,0;", 3, 1);
        fails("h1,1234,0;", 3, 1);
        fails("H1,1,0;", 0, 1);
        fails("h 1,1,0;", 1, 1);
        fails("h1.1,0;", 2, 1);
        fails("h1,-1,0;", 3, 1);
        fails(LAW + ROOMS + DOOR + " ", 20, 1);
        fails(LAW + ROOMS + DOOR + "\n", 20, 1);
        fails(LAW + ROOMS + DOOR + (char) 0, 20, 1);
        fails(LAW + ROOMS + DOOR + (char) 233, 20, 1);
        fails(LAW + "r000;", 8, 1);
        fails("h/", 1, 1);
        fails("h:", 1, 1);
    }

    private static void tooMany() {
        fails(LAW + ROOMS.repeat(4) + "r", 31, 3);
        fails(LAW + ROOMS.repeat(4) + "r99", 31, 3);
        fails(LAW + ROOMS.repeat(4) + DOOR + "r", 38, 1);
        fails(LAW + ROOMS + DOOR.repeat(8) + "s", 69, 3);
        fails(LAW + ROOMS + DOOR.repeat(8) + "x", 69, 1);
        fails(LAW + ROOMS + DOOR.repeat(8) + "r", 69, 1);
    }

    private static void allStays() {
        DoorsBehind x = Due.in(Due.HOUSE);
        Due.fill(x, 0, 0, 0, 1);
        x.errand(0, 0, 2);
        String was = Due.seen(x);
        Due.tell(x, LAW + ROOMS.repeat(4) + DOOR + "l7,7,0;");
        due.is("a fault far behind", x.house(), -1000141);
        due.is("fault()", x.fault(), 2);
        due.same("a fault", was, x);
        due.is("undo() yet", x.undo(), 0);
        due.is("a house that is good", Due.read(x, LAW + ROOMS + DOOR), 1);
        due.is("the latest fault stays", x.fault(), 2);
        due.is("house() of nothing", x.house(), -1000100);
        due.is("fault() then", x.fault(), 1);
    }

    private static void stands() {
        DoorsBehind x = Due.in(Due.HOUSE);
        Due.fill(x, 0, 0, 0, 1);
        x.errand(0, 0, 2);
        x.rule(0, 63);
        due.is("another house", Due.read(x, "h1,1,0;r3;r4;r5;c0,2,1;"), 1);
        int[] counts = {1, 1, 3, 12, 0, 0, 0, 0, 0};
        for (int k = 0; k < counts.length; k++) due.is("count(" + k + ")", x.count(k), counts[k]);
        due.is("undo()", x.undo(), Due.STATE);
        due.is("wear", x.door(0, 3), 0);
        due.is("kind", x.kind(0), 3);
        due.is("keys", x.rule(0, 1), 0);
        due.is("light", x.rule(1, 2), 1);
        due.is("sleep", x.rule(2, 2), 1);
    }

    private static void reads(String text, int doors) {
        DoorsBehind x = new DoorsBehind();
        due.is(text, Due.read(x, text), doors);
        due.is("no fault in " + text, x.fault(), 0);
        due.is("count(1) of " + text, x.count(1), doors);
    }

    private static void fails(String text, int place, int number) {
        DoorsBehind x = new DoorsBehind();
        due.is(text, Due.read(x, text), -1000100 - place);
        due.is("fault() of " + text, x.fault(), number);
        due.is("no house by " + text, x.count(2), 0);
        due.is("the tape of " + text, x.count(8), 0);
    }
}
