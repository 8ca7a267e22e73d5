/** What the tests of the project share: answers that are due, houses that are read, rows that are filled. */
final class Due {
    static final int NONE = -1000000, BAD = -1000001, STATE = -1000002, FULL = -1000003;
    static final int NULL = -1000011, PLACE = -1000012, KIND = -1000013, SIZE = -1000014, STORE = -1000015;
    static final int ASTRAY = -1000016, LOCKED = -1000017, BROKEN = -1000018, WOKEN = -1000019, DARK = -1000020;
    static final int EMPTY = -1000021;

    /** Light 5, sleep 30, keys 0 and 2; a latch, a bolt, a creaker, a lock and a seal (both with key 2). */
    static final String HOUSE = "h5,30,5;r0;r7;r12;r3;r20;l0,1,3;b1,2,7;c2,3,4;k3,4,8;s0,4,2;";

    private final String name;
    private int wrong, seen;

    Due(String name) {
        this.name = name;
    }

    void is(String call, long got, long want) {
        seen++;
        if (got != want) {
            wrong++;
            System.out.println(name + ": " + call + " answered " + got + ", due is " + want);
        }
    }

    void text(String what, String got, String want) {
        seen++;
        if (!got.equals(want)) {
            wrong++;
            System.out.println(name + ": " + what + " is " + got + ", due is " + want);
        }
    }

    void ledger(String when, DoorsBehind x, int... want) {
        is(when + ": count(6)", x.count(6), want.length);
        for (int k = 0; k < want.length; k++) is(when + ": ledger(" + k + ")", x.ledger(k), want[k]);
        is(when + ": ledger(-1)", x.ledger(-1), NONE);
        is(when + ": ledger behind the last", x.ledger(want.length), NONE);
    }

    void trace(String when, DoorsBehind x, int... want) {
        for (int k = 0; k < want.length; k++) is(when + ": trace(" + k + ")", x.trace(k), want[k]);
        is(when + ": trace(-1)", x.trace(-1), NONE);
        is(when + ": trace behind the last", x.trace(want.length), NONE);
    }

    /** All that can be seen of the object without changing it, but the status and the trace. */
    static String seen(DoorsBehind x) {
        StringBuilder all = new StringBuilder();
        for (int k = 0; k <= 8; k++) all.append(x.count(k)).append(' ');
        for (int k = 0; k < 8; k++) {
            for (int w = 0; w < 6; w++) all.append(x.door(k, w)).append(' ');
            all.append(x.kind(k)).append(' ');
            for (int w = 0; w < 2; w++) all.append(x.room(k, w)).append(' ');
        }
        for (int k = 0; k < 18; k++) all.append(x.ledger(k)).append(' ');
        return all.toString();
    }

    void same(String when, String was, DoorsBehind x) {
        seen++;
        String is = seen(x);
        if (!is.equals(was)) {
            wrong++;
            System.out.println(name + ": " + when + " changed " + was + " to " + is);
        }
    }

    static void tell(DoorsBehind x, String text) {
        for (int k = 0; k < text.length(); k++) x.feed(text.charAt(k));
    }

    static int read(DoorsBehind x, String text) {
        tell(x, text);
        return x.house();
    }

    static DoorsBehind in(String text) {
        DoorsBehind x = new DoorsBehind();
        if (read(x, text) < 1) throw new IllegalArgumentException(text);
        return x;
    }

    static void fill(DoorsBehind x, int row, int lane, int... items) {
        x.row(row, lane, items.length);
        for (int k = 0; k < items.length; k++) x.set(row, k, items[k]);
    }

    void end() {
        System.out.println(name + ": " + seen + " answers, " + wrong + " of them wrong");
        if (wrong != 0) System.exit(1);
    }
}
