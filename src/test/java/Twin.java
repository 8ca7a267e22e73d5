/**
 * Two objects made alike, one of which takes one call more: what that call changed is seen by asking both for all
 * that there is (rows, tape, house, acts, images, ledger, trace). Asking changes both, but both alike.
 */
final class Twin {
    /** What makes an object, the same one each time; the latest call with a row must have found PLACE. */
    interface Maker {
        DoorsBehind make();
    }

    interface Call {
        long on(DoorsBehind x);
    }

    /** The status that the makers here leave. */
    static final int PLACE = 2;

    /** Six rooms round the first one, with weights by which they are told apart; keys 0, 2 and 5. */
    static final String STAR = "h9,40,37;r6;r7;r12;r3;r20;r9;l0,1,3;b0,2,7;c0,3,4;k0,4,8;s5,0,5;";
    private static final String OTHER = "h2,3,4;r1;r2;s0,1,4;";
    private static final String PENDING = "h3,4,5;r8;r9;c1,0,6;";

    private final Due due;

    Twin(Due due) {
        this.due = due;
    }

    /** The call answers so, and then all is as if it had not been made, but the status. */
    void leaves(String call, Maker maker, Call more, long want, int status) {
        DoorsBehind x = maker.make(), y = maker.make();
        due.is(call, more.on(x), want);
        due.is("status() behind " + call, x.status(), status);
        due.is("status() without " + call, y.status(), PLACE);
        due.text("all behind " + call, all(x), all(y));
    }

    /** The call answers so, and something is not as if it had not been made. */
    void changes(String call, Maker maker, Call more, long want) {
        DoorsBehind x = maker.make(), y = maker.make();
        due.is(call, more.on(x), want);
        due.is(call + " is seen", all(x).equals(all(y)) ? 0 : 1, 1);
    }

    // ---- makers, each of some 130 calls at most

    /** No house; two rows; some bytes on the tape; a fault. */
    static DoorsBehind bare() {
        DoorsBehind x = new DoorsBehind();
        x.house();
        Due.fill(x, 0, 0, 1, 0);
        x.row(7, 2, 40);
        Due.tell(x, "h1,2,");
        x.set(0, 2, 0);
        return x;
    }

    /** No house, and a tape on which 109 bytes are. */
    static DoorsBehind nearlyFullTape() {
        DoorsBehind x = new DoorsBehind();
        Due.tell(x, "h9,60,63;" + "r20;".repeat(8) + "l00,1,9;".repeat(6) + "l0,01,09;" + "l0,1,09;" + "l0,");
        x.row(0, 0, 0);
        x.set(0, 0, 0);
        return x;
    }

    static DoorsBehind fullTape() {
        DoorsBehind x = nearlyFullTape();
        x.feed('1');
        return x;
    }

    /** A house with seven acts, both images, a ledger, a trace, rows of all lanes, a tape, a fault. */
    static DoorsBehind lived() {
        DoorsBehind x = livedWithoutTape();
        Due.tell(x, PENDING);
        return x;
    }

    static DoorsBehind livedWithoutTape() {
        DoorsBehind x = new DoorsBehind();
        Due.read(x, OTHER);
        x.image(1);
        x.house();
        Due.read(x, STAR);
        Due.fill(x, 0, 0, 0, 1, 2, 3, 4);
        Due.fill(x, 1, 1, 3, 9);
        x.row(2, 2, 0);
        Due.fill(x, 3, 2, -7);
        x.row(7, 0, 40);
        x.errand(0, 0, 1);
        x.errand(0, 2, 1);
        x.oil(0);
        x.image(0);
        x.bring(1, 4);
        x.rule(0, 36);
        x.rule(2, 30);
        x.errand(1, 0, 2);
        x.ask(1, 0);
        x.set(0, 5, 0);
        return x;
    }

    static DoorsBehind withoutActs() {
        DoorsBehind x = lived();
        x.restore(0);
        return x;
    }

    // ---- all that can be asked, some 320 calls

    private static String all(DoorsBehind x) {
        StringBuilder s = new StringBuilder(Due.seen(x));
        s.append(" fault ").append(x.fault());
        s.append(" trace");
        for (int k = 0; k < 7; k++) add(s, x.trace(k));
        s.append(" rules");
        rules(s, x);
        for (int k = 0; k < 3; k++) add(s, x.undo());
        s.append(" acts");
        acts(s, x);
        for (int k = 0; k < 2; k++) {
            s.append(" image ").append(k).append(x.restore(k));
            house(s, x);
            rules(s, x);
        }
        s.append(" tape");
        add(s, x.house());
        house(s, x);
        s.append(" rows");
        rows(s, x);
        return s.toString();
    }

    private static void add(StringBuilder s, long answer) {
        s.append(' ').append(answer);
    }

    private static void rules(StringBuilder s, DoorsBehind x) {
        for (int k = 0; k < 3; k++) add(s, x.rule(k, 1));
    }

    private static void acts(StringBuilder s, DoorsBehind x) {
        for (int k = 0; k < 8; k++) {
            add(s, x.undo());
            for (int c = 3; c < 6; c++) add(s, x.count(c));
        }
    }

    private static void house(StringBuilder s, DoorsBehind x) {
        for (int c = 1; c < 6; c++) add(s, x.count(c));
        add(s, x.kind(0));
    }

    /** Which items are doors is seen in a star; the lane by what is left of a number; how many by dropping it. */
    private static void rows(StringBuilder s, DoorsBehind x) {
        Due.read(x, STAR);
        int[] places = {0, 1, 2, 4, 39};
        for (int row = 0; row < 8; row++) {
            for (int i : places) add(s, x.would(row, i, 1, 0));
            add(s, x.set(row, 0, 40000));
            add(s, x.drop(row));
        }
    }
}
