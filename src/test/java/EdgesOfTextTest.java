/** The edges of promises 6 to 8: the tape, every number and every place of a text, each fault. */
public final class EdgesOfTextTest {
    private static final Due due = new Due("EdgesOfTextTest");
    private static final String LAW = "h1,1,0;", ROOMS = "r0;r0;", DOOR = "l0,1,0;", HEAD = LAW + ROOMS;

    public static void main(String[] args) {
        promise6Bytes();
        promise6Full();
        promise6FullText();
        promise7Law();
        promise7Weights();
        promise7HowManyRooms();
        promise7HowManyDoors();
        promise7FromAndTo();
        promise7Numbers();
        promise7Figures();
        promise7EveryPlace();
        promise7EveryEnd();
        promise7NoTokens();
        promise7TheFirstToken();
        promise7TheLeast();
        promise7TapeIsEmptyThen();
        promise7AnotherHouse();
        promise7AllStays();
        promise8Fault();
        due.end();
    }

    private static void reads(String text, int doors) {
        DoorsBehind x = new DoorsBehind();
        due.is(text, Due.read(x, text), doors);
        due.is("fault() of " + text, x.fault(), 0);
        due.is("count(1) of " + text, x.count(1), doors);
        due.is("the tape behind " + text, x.count(8), 0);
    }

    private static void fails(String text, int place, int number) {
        DoorsBehind x = new DoorsBehind();
        due.is(text, Due.read(x, text), -1000100 - place);
        due.is("fault() of " + text, x.fault(), number);
        due.is("no rooms by " + text, x.count(2), 0);
        due.is("no doors by " + text, x.count(1), 0);
        due.is("no house by " + text, x.rule(0, 0), Due.STATE);
        due.is("the tape behind " + text, x.count(8), 0);
    }

    // ---- promise 6: "A byte (0 to 255)", "at most 110 bytes", "BAD; FULL."

    private static void promise6Bytes() {
        DoorsBehind x = new DoorsBehind();
        for (int letter : new int[] {Integer.MIN_VALUE, -256, -1, 256, 257, Integer.MAX_VALUE}) {
            due.is("feed(" + letter + ")", x.feed(letter), Due.BAD);
        }
        due.is("count(8)", x.count(8), 0);
        due.is("feed(0)", x.feed(0), 1);
        due.is("feed(255)", x.feed(255), 2);
        due.is("feed(-1) then", x.feed(-1), Due.BAD);
        due.is("count(8) then", x.count(8), 2);
        due.is("feed(1)", x.feed(1), 3);
    }

    private static void promise6Full() {
        DoorsBehind x = new DoorsBehind();
        for (int k = 1; k <= 110; k++) {
            due.is("feed of byte " + k, x.feed(k), k);
            due.is("count(8)", x.count(8), k);
        }
        for (int letter : new int[] {0, 104, 255}) due.is("feed of byte 111", x.feed(letter), Due.FULL);
        for (int letter : new int[] {-1, 256}) due.is("BAD ahead of FULL", x.feed(letter), Due.BAD);
        due.is("count(8)", x.count(8), 110);
        due.is("status()", x.status(), 0);
        x.house();
        due.is("count(8) when it was read", x.count(8), 0);
        for (int k = 1; k <= 110; k++) due.is("feed of byte " + k + " anew", x.feed(k), k);
        due.is("feed of byte 111 anew", x.feed(1), Due.FULL);
    }

    /** A house of 110 bytes; what is refused behind them is not there when they are read. */
    private static void promise6FullText() {
        String text = "h9,60,63;" + "r20;".repeat(8) + "l00,1,9;".repeat(4) + "l00,01,9;".repeat(3) + "s07,06,09;";
        due.is("its bytes", text.length(), 110);
        DoorsBehind x = new DoorsBehind();
        Due.tell(x, text);
        due.is("feed of one more", x.feed('x'), Due.FULL);
        due.is("house()", x.house(), 8);
        due.is("the last door", x.door(7, 0), 7);
        due.is("the last number", x.door(7, 2), 9);
        due.is("the last kind", x.kind(7), 5);
        String cut = text.replace(";l00,01,9;s", ";l00,01,09;s");
        DoorsBehind y = new DoorsBehind();
        Due.tell(y, cut);
        due.is("a house of 111 bytes lacks the last", y.house(), -1000210);
        due.is("fault()", y.fault(), 1);
    }

    // ---- promise 7: the numbers of a law, "(1 to 9; 1 to 60; 0 to 63)"

    private static void promise7Law() {
        for (int light = 0; light <= 10; light++) {
            String text = "h" + light + ",1,0;" + ROOMS + DOOR;
            if (light < 1 || light > 9) fails(text, 1, 2);
            else due.is("LIGHT of " + text, Due.in(text).rule(1, 1), light);
        }
        for (int sleep : new int[] {0, 1, 2, 59, 60, 61, 99}) {
            String text = "h1," + sleep + ",0;" + ROOMS + DOOR;
            if (sleep < 1 || sleep > 60) fails(text, 3, 2);
            else due.is("SLEEP of " + text, Due.in(text).rule(2, 1), sleep);
        }
        for (int keys : new int[] {0, 1, 62, 63, 64, 99}) {
            String text = "h1,1," + keys + ";" + ROOMS + DOOR;
            if (keys > 63) fails(text, 5, 2);
            else due.is("KEYS of " + text, Due.in(text).rule(0, 1), keys);
        }
        fails("h00,1,0;" + ROOMS + DOOR, 1, 2);
        fails("h1,00,0;" + ROOMS + DOOR, 3, 2);
        reads("h01,01,00;" + ROOMS + DOOR, 1);
        reads("h09,60,63;" + ROOMS + DOOR, 1);
    }

    // ---- "r WEIGHT ; (0 to 20)"

    private static void promise7Weights() {
        for (int weight = 0; weight <= 20; weight++) {
            DoorsBehind x = Due.in(LAW + "r" + weight + ";r" + (20 - weight) + ";" + DOOR);
            due.is("the first room", x.room(0, 0), weight);
            due.is("the second room", x.room(1, 0), 20 - weight);
        }
        fails(LAW + "r21;r0;" + DOOR, 8, 2);
        fails(LAW + "r0;r21;" + DOOR, 11, 2);
        fails(LAW + "r0;r99;" + DOOR, 11, 2);
        reads(LAW + "r00;r09;" + DOOR, 1);
    }

    // ---- "ROOMS 0 .. 7, 2 to 8"

    private static void promise7HowManyRooms() {
        fails(LAW + DOOR, 7, 1);
        fails(LAW + "r0;" + DOOR, 10, 1);
        for (int rooms = 2; rooms <= 8; rooms++) {
            String text = LAW + "r3;".repeat(rooms) + DOOR;
            reads(text, 1);
            DoorsBehind x = Due.in(text);
            due.is("count(2) of " + text, x.count(2), rooms);
            due.is("the last room of " + text, x.room(rooms - 1, 0), 3);
            due.is("no room more of " + text, x.room(rooms, 0), Due.BAD);
        }
        fails(LAW + "r3;".repeat(9) + DOOR, 31, 3);
        fails(LAW + "r3;".repeat(10) + DOOR, 31, 3);
        fails(LAW + "r3;".repeat(8), 31, 1);
        fails(LAW + "r3;".repeat(8) + "r", 31, 3);
    }

    // ---- "DOORS 0 .. 7, 8 at most"; one at least

    private static void promise7HowManyDoors() {
        fails(HEAD, 13, 1);
        for (int doors = 1; doors <= 8; doors++) {
            String text = HEAD + DOOR.repeat(doors);
            reads(text, doors);
            DoorsBehind x = Due.in(text);
            due.is("the last door of " + text, x.door(doors - 1, 1), 1);
            due.is("no door more of " + text, x.door(doors, 0), Due.BAD);
        }
        for (char sort : "lbcks".toCharArray()) {
            fails(HEAD + DOOR.repeat(8) + sort + "0,1,0;", 69, 3);
            fails(HEAD + DOOR.repeat(8) + sort, 69, 3);
            reads(HEAD + DOOR.repeat(7) + sort + "0,1,0;", 8);
            reads(HEAD + sort + "0,1,0;", 1);
        }
    }

    // ---- "two ROOMS, not the same"

    private static void promise7FromAndTo() {
        for (int rooms = 2; rooms <= 8; rooms++) {
            String head = LAW + "r0;".repeat(rooms);
            int place = head.length() + 1;
            for (int a = 0; a <= 8; a++) {
                String text = head + "l" + a + ",0,0;";
                if (a >= rooms) fails(text, place, 2);
                else if (a == 0) fails(text, place + 2, 2);
                else reads(text, 1);
                text = head + "l0," + a + ",0;";
                if (a >= rooms || a == 0) fails(text, place + 2, 2);
                else reads(text, 1);
            }
            int last = rooms - 1;
            fails(head + "l" + last + "," + last + ",0;", place + 2, 2);
            fails(head + "l" + last + ",0" + last + ",0;", place + 2, 2);
            fails(head + "l0" + last + "," + last + ",0;", place + 3, 2);
            fails(head + "l" + rooms + "," + rooms + ",0;", place, 2);
            DoorsBehind x = Due.in(head + "l" + last + ",0,0;l0," + last + ",0;");
            due.is("FROM the last", x.door(0, 0), last);
            due.is("TO the first", x.door(0, 1), 0);
            due.is("FROM the first", x.door(1, 0), 0);
            due.is("TO the last", x.door(1, 1), last);
        }
        fails(HEAD + "l10,1,0;", 14, 2);
        fails(HEAD + "l1,10,0;", 16, 2);
    }

    // ---- N, "0 to 9"

    private static void promise7Numbers() {
        for (char sort : "lbcks".toCharArray()) {
            for (int n = 0; n <= 11; n++) {
                String text = HEAD + sort + "0,1," + n + ";";
                if (n > 9) fails(text, 18, 2);
                else due.is("N of " + text, Due.in(text).door(0, 2), n);
            }
            reads(HEAD + sort + "0,1,09;", 1);
            fails(HEAD + sort + "0,1,99;", 18, 2);
        }
    }

    // ---- "NUMBERS (figures, 2 at most)", "a run of three figures, at its first"

    private static void promise7Figures() {
        String[] parts = {"h", ",", ",", ";r", ";r", ";l", ",", ",", ";"};
        String[] good = {"1", "1", "0", "0", "0", "0", "1", "0"};
        String[] two = {"01", "01", "00", "00", "00", "00", "01", "00"};
        for (int k = 0; k < 8; k++) {
            StringBuilder ahead = new StringBuilder();
            for (int j = 0; j < k; j++) ahead.append(parts[j]).append(good[j]);
            ahead.append(parts[k]);
            StringBuilder behind = new StringBuilder();
            for (int j = k + 1; j < 8; j++) behind.append(parts[j]).append(good[j]);
            behind.append(';');
            reads(ahead + good[k] + behind, 1);
            reads(ahead + two[k] + behind, 1);
            fails(ahead + "" + behind, ahead.length(), 1);
            fails(ahead + "0" + two[k] + behind, ahead.length(), 1);
            fails(ahead + "999" + behind, ahead.length(), 1);
            fails(ahead + "00" + two[k] + behind, ahead.length(), 1);
            fails(ahead + "0".repeat(9) + behind, ahead.length(), 1);
            fails(ahead + "99" + behind, ahead.length(), 2);
            fails(ahead + "000", ahead.length(), 1);
            fails(ahead + "99", ahead.length(), 2);
            fails(ahead + good[k], ahead.length() + 1, 1);
            fails(ahead + two[k], ahead.length() + 2, 1);
        }
    }

    /** At each place of a text each sign that cannot stand there. */
    private static void promise7EveryPlace() {
        String text = HEAD + DOOR;
        String signs = "abcdefghijklmnopqrstuvwxyz,;";
        for (int k = 0; k < text.length(); k++) {
            for (char sign : signs.toCharArray()) {
                if (sign == text.charAt(k)) continue;
                if (k == 13 && "bcks".indexOf(sign) >= 0) continue;
                if (k == 13 && sign == 'r') fails(text.substring(0, k) + sign + text.substring(k + 1), 15, 1);
                else fails(text.substring(0, k) + sign + text.substring(k + 1), k, 1);
            }
        }
        for (char sign : signs.toCharArray()) {
            if ("lbcks".indexOf(sign) >= 0) fails(text + sign, 21, 1);
            else fails(text + sign, 20, 1);
        }
        for (int figure = 0; figure < 10; figure++) {
            fails(figure + text, 0, 1);
            fails(LAW + figure + ROOMS + DOOR, 7, 1);
            fails(LAW + ROOMS + figure + DOOR, 13, 1);
            fails(text + figure, 20, 1);
        }
    }

    /** "the end: how many bytes there are" */
    private static void promise7EveryEnd() {
        String text = "h9,60,63;r20;r00;r7;s02,01,09;b1,2,7;";
        for (int k = 0; k < text.length(); k++) {
            String part = text.substring(0, k);
            if (part.endsWith(";s02,01,09;")) reads(part, 1);
            else fails(part, k, 1);
        }
        reads(text, 2);
    }

    /** "letters a to z (each by itself), NUMBERS .., SIGNS , and ; nothing else" */
    private static void promise7NoTokens() {
        String text = HEAD + DOOR;
        for (int letter = 0; letter < 256; letter++) {
            char c = (char) letter;
            boolean isToken = c >= 'a' && c <= 'z' || c >= '0' && c <= '9' || c == ',' || c == ';';
            if (isToken) continue;
            fails(c + text, 0, 1);
            fails(text + c, 20, 1);
            fails("h" + c, 1, 1);
            fails("h1" + c + ",1", 2, 1);
            fails(HEAD + c + DOOR, 13, 1);
        }
    }

    /** "the first TOKEN that has one (its first byte)" */
    private static void promise7TheFirstToken() {
        fails("h0,61,64;r21;", 1, 2);
        fails("h1,61,64;r21;", 3, 2);
        fails("h1,1,64;r21;", 5, 2);
        fails("h1,1,63;r21;", 9, 2);
        fails("h1,60;", 5, 1);
        fails("h1,61;", 3, 2);
        fails("h10 ", 1, 2);
        fails("h1 0", 2, 1);
        fails(LAW + "r0;r21;x", 11, 2);
        fails(LAW + "r0;r20;x", 14, 1);
        fails(HEAD + "l2,2,10;", 14, 2);
        fails(HEAD + "l1,1,10;", 16, 2);
        fails(HEAD + "l1,0,10;", 18, 2);
        fails(HEAD + "l1,0,9", 19, 1);
        fails(LAW + "r0;".repeat(8) + "r21;", 31, 3);
        fails(LAW + "r0;".repeat(7) + "r21;r0;", 29, 2);
        fails(HEAD + DOOR.repeat(8) + "l9,9,9;", 69, 3);
        fails(HEAD + DOOR.repeat(7) + "l0,1,10;l", 67, 2);
    }

    /** "of one TOKEN the least": what cannot stand there is 1, whatever else it is. */
    private static void promise7TheLeast() {
        fails("h100,1,0;", 1, 1);
        fails("h999,1,0;", 1, 1);
        fails("99", 0, 1);
        fails("h1,1,0;99", 7, 1);
        fails(LAW + ROOMS.repeat(4) + DOOR + "r0;", 38, 1);
        fails(LAW + "l0,1,0;".repeat(9), 7, 1);
        fails(HEAD + DOOR.repeat(8) + "r0;", 69, 1);
        fails(HEAD + DOOR.repeat(8) + "h", 69, 1);
        fails(HEAD + DOOR.repeat(8) + "99", 69, 1);
        fails(HEAD + "l000,1,0;", 14, 1);
        fails(HEAD + "l0,000,0;", 16, 1);
    }

    private static void promise7TapeIsEmptyThen() {
        DoorsBehind x = new DoorsBehind();
        due.is("an empty tape", x.house(), -1000100);
        due.is("its fault", x.fault(), 1);
        Due.tell(x, HEAD);
        due.is("no doors", x.house(), -1000113);
        Due.tell(x, DOOR);
        due.is("what was read is not there again", x.house(), -1000100);
        due.is("a house", Due.read(x, HEAD + DOOR), 1);
        due.is("the tape then", x.house(), -1000100);
        due.is("the house stands", x.count(1), 1);
        Due.tell(x, "h1");
        due.is("what is fed then begins a text", x.house(), -1000102);
    }

    /** "stands in place of the one before: WEAR of all DOORS is 0, nothing is TAKEN; no ACT .., THE LEDGER is empty" */
    private static void promise7AnotherHouse() {
        String big = "h9,60,63;" + "r5;".repeat(8) + "l0,1,0;".repeat(8);
        DoorsBehind x = Due.in(big);
        x.row(0, 0, 2);
        x.errand(0, 0, 1);
        x.errand(0, 0, 1);
        x.rule(0, 7);
        x.ask(0, 0);
        due.is("ahead of it: TAKEN", x.count(4), 5);
        due.is("the same text again", Due.read(x, big), 8);
        int[] counts = {1, 8, 8, 40, 0, 0, 0, 0, 0};
        for (int k = 0; k < 9; k++) due.is("the same text again: count(" + k + ")", x.count(k), counts[k]);
        due.is("undo()", x.undo(), Due.STATE);
        due.ledger("the same text again", x);
        due.is("status() stays", x.status(), 11);
        x.errand(0, 0, 1);
        due.is("the least house", Due.read(x, LAW + "r0;r1;" + DOOR), 1);
        int[] least = {1, 1, 2, 1, 0, 0, 0, 0, 0};
        for (int k = 0; k < 9; k++) due.is("the least house: count(" + k + ")", x.count(k), least[k]);
        due.is("no room of the one before", x.room(2, 0), Due.BAD);
        due.is("no door of the one before", x.door(1, 0), Due.BAD);
        due.is("rooms at the door", x.room(0, 1), 1);
        due.is("its rows stay", x.errand(0, 0, 1), 1);
        due.is("the great house again", Due.read(x, big), 8);
        due.is("its last door has no WEAR", x.door(7, 3), 0);
        due.is("its last room", x.room(7, 0), 5);
    }

    private static void promise7AllStays() {
        DoorsBehind x = Due.in(Due.HOUSE);
        Due.fill(x, 0, 0, 0, 1, 2);
        x.errand(0, 0, 3);
        x.rule(1, 4);
        String was = Due.seen(x);
        String[] wrong = {"", "h", "h0", "h1,1,0;r3;r4", HEAD, HEAD + DOOR + "l1,1", HEAD + DOOR + "r"};
        for (String text : wrong) {
            Due.read(x, text);
            due.is("status()", x.status(), 0);
        }
        due.same("faults", was, x);
        due.is("LIGHT", x.rule(1, 1), 4);
        due.is("SLEEP", x.rule(2, 1), 30);
        due.is("KEYS", x.rule(0, 1), 5);
        for (int k = 4; k >= 0; k--) due.is("undo()", x.undo(), k);
    }

    // ---- promise 8: "The number of the latest FAULT; 0 before one."

    private static void promise8Fault() {
        DoorsBehind x = new DoorsBehind();
        due.is("before one", x.fault(), 0);
        Due.read(x, HEAD + DOOR);
        due.is("behind a good text", x.fault(), 0);
        Due.read(x, "h0");
        due.is("2", x.fault(), 2);
        x.feed('h');
        due.is("while bytes come", x.fault(), 2);
        x.house();
        due.is("1", x.fault(), 1);
        Due.read(x, LAW + "r0;".repeat(9));
        due.is("3", x.fault(), 3);
        due.is("a good text", Due.read(x, HEAD + DOOR), 1);
        due.is("the latest one yet", x.fault(), 3);
        x.image(0);
        x.restore(0);
        due.is("the latest one when restored", x.fault(), 3);
        Due.read(x, "h10");
        due.is("2 again", x.fault(), 2);
    }
}
