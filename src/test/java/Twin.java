import java.util.LinkedHashMap;
import java.util.List;
import java.util.Map;
import java.util.TreeSet;
import java.util.function.IntUnaryOperator;

/**
 * Two objects made alike, one of which takes one call more: what that call changed is seen by asking both for all
 * that there is, part by part. Asking changes both, but both alike.
 */
final class Twin {
    /** What makes an object, the same one each time; the latest call with a row must have found PLACE. */
    interface Maker {
        DoorsBehind make();
    }

    interface Call {
        long on(DoorsBehind x);
    }

    /** The status that the makers here leave. */
    static final int PLACE = 2;

    /** Six rooms round the first one, with weights by which they are told apart; keys 0, 2 and 5. */
    static final String STAR = "h9,40,37;r6;r7;r12;r3;r20;r9;l0,1,3;b0,2,7;c0,3,4;k0,4,8;s5,0,5;";
    private static final String OTHER = "h2,3,4;r1;r2;s0,1,4;";
    private static final String PENDING = "h3,4,5;r8;r9;c1,0,6;";

    private final Due due;

    Twin(Due due) {
        this.due = due;
    }

    /** The call answers so, and then all is as if it had not been made, but the status. */
    void leaves(String call, Maker maker, Call more, long want, int status) {
        DoorsBehind x = maker.make(), y = maker.make();
        due.is(call, more.on(x), want);
        due.is("status() behind " + call, x.status(), status);
        due.is("status() without " + call, y.status(), PLACE);
        Map<String, String> with = parts(x), without = parts(y);
        with.remove("status");
        without.remove("status");
        due.text("all behind " + call, with.toString(), without.toString());
    }

    /** The call answers so, and of all parts these and no others are not as if it had not been made. */
    void changes(String call, Maker maker, Call more, long want, String... changed) {
        DoorsBehind x = maker.make(), y = maker.make();
        due.is(call, more.on(x), want);
        Map<String, String> with = parts(x), without = parts(y);
        TreeSet<String> differ = new TreeSet<>();
        for (String part : with.keySet()) {
            if (!with.get(part).equals(without.get(part))) differ.add(part);
        }
        due.text("what " + call + " changes", differ.toString(), new TreeSet<>(List.of(changed)).toString());
    }

    // ---- makers, each of some 130 calls at most

    /** No house; two rows; some bytes on the tape; a fault. */
    static DoorsBehind bare() {
        DoorsBehind x = new DoorsBehind();
        x.house();
        Due.fill(x, 0, 0, 1, 0);
        x.row(7, 2, 40);
        Due.tell(x, "h1,2,");
        x.set(0, 2, 0);
        return x;
    }

    /** No house, and a tape on which 109 bytes are. */
    static DoorsBehind nearlyFullTape() {
        DoorsBehind x = new DoorsBehind();
        Due.tell(x, "h9,60,63;" + "r20;".repeat(8) + "l00,1,9;".repeat(6) + "l0,01,09;" + "l0,1,09;" + "l0,");
        x.row(0, 0, 0);
        x.set(0, 0, 0);
        return x;
    }

    static DoorsBehind fullTape() {
        DoorsBehind x = nearlyFullTape();
        x.feed('1');
        return x;
    }

    /** A house with seven acts, both images, a ledger, a trace, rows of all lanes, a tape, a fault. */
    static DoorsBehind lived() {
        DoorsBehind x = livedWithoutTape();
        Due.tell(x, PENDING);
        return x;
    }

    static DoorsBehind livedWithoutTape() {
        DoorsBehind x = new DoorsBehind();
        Due.read(x, OTHER);
        x.image(1);
        x.house();
        Due.read(x, STAR);
        Due.fill(x, 0, 0, 0, 1, 2, 3, 4);
        Due.fill(x, 1, 1, 3, 9);
        x.row(2, 2, 0);
        Due.fill(x, 3, 2, -7);
        x.row(7, 0, 40);
        x.errand(0, 0, 1);
        x.errand(0, 2, 1);
        x.oil(0);
        x.image(0);
        x.bring(1, 4);
        x.rule(0, 36);
        x.rule(2, 30);
        x.errand(1, 0, 2);
        x.ask(1, 0);
        x.set(0, 5, 0);
        return x;
    }

    static DoorsBehind withoutActs() {
        DoorsBehind x = lived();
        x.restore(0);
        return x;
    }

    // ---- all that can be asked, by parts, some 290 calls: first what changes nothing, then the rest

    private static Map<String, String> parts(DoorsBehind x) {
        Map<String, String> all = new LinkedHashMap<>();
        all.put("status", "" + x.status());
        all.put("fault", "" + x.fault());
        all.put("ledger", numbers(19, k -> k == 18 ? x.count(6) : x.ledger(k)));
        all.put("trace", numbers(7, x::trace));
        all.put("doors", doors(x));
        all.put("weight", numbers(9, k -> k == 8 ? x.count(3) : x.room(k, 0)));
        all.put("wear", numbers(17, k -> k == 16 ? x.count(5) : x.door(k / 2, 3 + k % 2)));
        all.put("taken", "" + x.count(4));
        int rows = x.count(0), acts = x.count(7), tape = x.count(8);
        all.put("rules", rules(x));
        for (int k = 0; k < 3; k++) x.undo();
        all.put("acts", acts + numbers(32, k -> k % 4 == 0 ? x.undo() : x.count(2 + k % 4)));
        for (int k = 0; k < 2; k++) {
            all.put("image" + k, x.restore(k) + house(x) + rules(x));
        }
        all.put("tape", tape + " " + x.house() + house(x));
        all.put("rows", rows + rows(x));
        return all;
    }

    private static String numbers(int many, IntUnaryOperator number) {
        StringBuilder s = new StringBuilder();
        for (int k = 0; k < many; k++) s.append(' ').append(number.applyAsInt(k));
        return s.toString();
    }

    private static String doors(DoorsBehind x) {
        int[] fixed = {0, 1, 2, 5};
        return numbers(2, k -> x.count(1 + k)) + numbers(8, x::kind) + numbers(8, k -> x.room(k, 1))
            + numbers(32, k -> x.door(k / 4, fixed[k % 4]));
    }

    private static String rules(DoorsBehind x) {
        return numbers(3, k -> x.rule(k, 1));
    }

    private static String house(DoorsBehind x) {
        return numbers(5, k -> x.count(1 + k)) + numbers(1, x::kind);
    }

    /** Which items are doors is seen in a star; the lane by what is left of a number; how many by dropping it. */
    private static String rows(DoorsBehind x) {
        Due.read(x, STAR);
        StringBuilder s = new StringBuilder();
        int[] places = {0, 1, 2, 4, 39};
        for (int row = 0; row < 8; row++) {
            for (int i : places) s.append(' ').append(x.would(row, i, 1, 0));
            s.append(' ').append(x.set(row, 0, 40000)).append(' ').append(x.drop(row));
        }
        return s.toString();
    }
}
