/** Promises 28 to 31: kinds, doors taken as one of a kind, asks, the trace. */
public final class AsksTest {
    private static final Due due = new Due("AsksTest");

    public static void main(String[] args) {
        kinds();
        asOnes();
        asks();
        refused();
        due.end();
    }

    private static void kinds() {
        DoorsBehind x = Due.in(Due.HOUSE);
        for (int k = 0; k < 5; k++) due.is("kind(" + k + ")", x.kind(k), k + 1);
        due.is("kind(5)", x.kind(5), Due.BAD);
        due.is("kind(-1)", x.kind(-1), Due.BAD);
        due.is("kind(0) without a house", new DoorsBehind().kind(0), Due.BAD);
    }

    private static void asOnes() {
        DoorsBehind x = Due.in(Due.HOUSE);
        String[] is = {"110000", "111000", "110100", "100010", "100011"};
        for (int one = 0; one < 5; one++) {
            for (int kind = 0; kind <= 5; kind++) {
                boolean fits = is[one].charAt(kind) == '1';
                due.is("as(" + one + ", " + kind + ")", x.as(one, kind), fits ? one : Due.KIND);
                due.is("its status", x.status(), fits ? 0 : 3);
            }
            due.is("as(" + one + ", 6)", x.as(one, 6), Due.BAD);
            due.is("as(" + one + ", -1)", x.as(one, -1), Due.BAD);
        }
        due.is("as(5, 0)", x.as(5, 0), Due.BAD);
        due.is("as(-1, 0)", x.as(-1, 0), Due.BAD);
    }

    private static void asks() {
        DoorsBehind x = Due.in(Due.HOUSE);
        Due.fill(x, 0, 0, 0, 1, 2, 3);
        Due.fill(x, 1, 0, 4);
        x.errand(0, 0, 4);
        x.errand(0, 0, 2);
        x.errand(1, 0, 1);
        due.is("SIZE of a latch", x.ask(0, 0), 3 + 0 + 2);
        due.trace("SIZE of a latch", x, 11, 10, 21, 20);
        due.is("MARK of a latch", x.ask(0, 1), 0 + 2);
        due.trace("MARK of a latch", x, 21, 20);
        due.is("SIZE of a bolt", x.ask(1, 0), -(7 + 2 * (1 + 2)));
        due.trace("SIZE of a bolt", x, 12, 11, 10, 24, 21, 20);
        due.is("MARK of a bolt", x.ask(1, 1), 2 * (1 + 2));
        due.trace("MARK of a bolt", x, 24, 21, 20);
        due.is("SIZE of a creaker", x.ask(2, 0), 4 + (2 + 1 - 1000));
        due.trace("SIZE of a creaker", x, 11, 10, 22, 21, 20);
        due.is("MARK of a creaker", x.ask(2, 1), 2 + 1 - 1000);
        due.trace("MARK of a creaker", x, 22, 21, 20);
        due.is("SIZE of a lock", x.ask(3, 0), 8 - 100);
        due.trace("SIZE of a lock", x, 13, 10);
        due.is("MARK of a lock", x.ask(3, 1), 3 - (8 - 100));
        due.trace("MARK of a lock", x, 23, 20, 13, 10);
        due.is("SIZE of a seal", x.ask(4, 0), 2 * (2 - 100));
        due.trace("SIZE of a seal", x, 14, 13, 10);
        due.is("MARK of a seal", x.ask(4, 1), 4 - 2 * (2 - 100));
        due.trace("MARK of a seal", x, 23, 20, 14, 13, 10);
    }

    private static void refused() {
        DoorsBehind x = Due.in(Due.HOUSE);
        due.trace("ahead of all asks", x);
        x.ask(3, 0);
        due.is("ask(0, 2)", x.ask(0, 2), Due.BAD);
        due.is("ask(0, -1)", x.ask(0, -1), Due.BAD);
        due.is("ask(5, 0)", x.ask(5, 0), Due.BAD);
        due.is("ask(-1, 0)", x.ask(-1, 0), Due.BAD);
        due.trace("what is refused leaves the trace", x, 13, 10);
        due.is("ask(0, 0) without a house", new DoorsBehind().ask(0, 0), Due.BAD);
    }
}
