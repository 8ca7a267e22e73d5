import java.lang.reflect.InvocationTargetException;
import java.lang.reflect.Method;
import java.util.ArrayList;
import java.util.Arrays;
import java.util.Comparator;
import java.util.List;
import java.util.Random;

/** All promises: runs of drawn calls (the same ones each time), each answer held against the model's. */
public final class ModelTest {
    private static final int RUNS = 4000, CALLS = 512;
    private static int wrong, seen;
    private static final int[] answered = new int[64];

    private final Random random;
    private final DoorsBehind x = new DoorsBehind();
    private final Model model = new Model();
    private final Method[] calls, due;
    private final StringBuilder told = new StringBuilder();
    private int left = CALLS;
    private int run;

    private ModelTest(int run, Method[] calls, Method[] due) {
        this.run = run;
        this.random = new Random(run);
        this.calls = calls;
        this.due = due;
    }

    public static void main(String[] args) throws Exception {
        Method[] calls = faceOf();
        Method[] due = new Method[calls.length];
        for (int k = 0; k < calls.length; k++) {
            due[k] = Model.class.getDeclaredMethod(calls[k].getName(), calls[k].getParameterTypes());
        }
        for (int run = 1; run <= RUNS && wrong < 20; run++) new ModelTest(run, calls, due).go();
        System.out.println("ModelTest: " + seen + " answers, " + wrong + " of them wrong");
        for (int k = 0; k < calls.length; k++) {
            if (answered[k] < 1000) {
                wrong++;
                System.out.println("ModelTest: " + calls[k].getName() + " was called well only " + answered[k] + " times");
            }
        }
        if (wrong != 0) System.exit(1);
    }

    private static Method[] faceOf() {
        List<Method> all = new ArrayList<>();
        for (Method m : DoorsBehind.class.getDeclaredMethods()) {
            if (java.lang.reflect.Modifier.isPublic(m.getModifiers())) all.add(m);
        }
        all.sort(Comparator.comparing(Method::getName));
        return all.toArray(new Method[0]);
    }

    private void go() throws Exception {
        if (random.nextInt(10) > 0) tell(text());
        while (left > 0 && wrong < 20) {
            int pick = random.nextInt(100);
            if (pick < 2) tell(random.nextInt(3) == 0 ? spoilt(text()) : text());
            else if (pick < 6) fillRow();
            else if (pick < 12) errandAndLedger();
            else if (pick < 15) askAndTrace();
            else any();
        }
    }

    // ---- drawn texts

    private String text() {
        int rooms = 2 + random.nextInt(random.nextInt(3) == 0 ? 7 : 4);
        int doors = 1 + random.nextInt(8);
        StringBuilder s = new StringBuilder();
        s.append('h').append(1 + random.nextInt(9)).append(',').append(1 + random.nextInt(60)).append(',');
        s.append(random.nextInt(3) == 0 ? 63 : random.nextInt(64)).append(';');
        for (int k = 0; k < rooms; k++) s.append('r').append(random.nextInt(4) == 0 ? 0 : random.nextInt(21)).append(';');
        for (int k = 0; k < doors; k++) {
            int from = random.nextInt(3) == 0 ? 0 : random.nextInt(rooms), to = (from + 1 + random.nextInt(rooms - 1)) % rooms;
            s.append("lbcks".charAt(random.nextInt(5))).append(from).append(',').append(to).append(',');
            s.append(random.nextInt(10)).append(';');
        }
        return s.toString();
    }

    private String spoilt(String text) {
        StringBuilder s = new StringBuilder(text);
        String signs = "hrlbcks,;0123456789ax ,;0123";
        for (int k = 1 + random.nextInt(2); k > 0; k--) {
            int at = random.nextInt(s.length());
            char sign = signs.charAt(random.nextInt(signs.length()));
            switch (random.nextInt(5)) {
                case 0: s.deleteCharAt(at); break;
                case 1: s.insert(at, sign); break;
                case 2: s.setLength(Math.max(1, at)); break;
                case 3: s.append(random.nextBoolean() ? "l0,1,0;l1,0,5;s0,1,1;" : "r5;"); break;
                default: s.setCharAt(at, sign); break;
            }
        }
        return s.toString();
    }

    private void tell(String text) throws Exception {
        for (int k = 0; k < text.length(); k++) call("feed", text.charAt(k));
        call("house");
        call("fault");
    }

    // ---- drawn calls

    private void fillRow() throws Exception {
        int row = random.nextInt(3), n = 1 + random.nextInt(8);
        call("row", row, random.nextInt(3), n);
        for (int k = 0; k < n; k++) call("set", row, k, random.nextInt(12) == 0 ? near(8) : random.nextInt(Math.max(1, model.count(1))));
    }

    /** Leads on from room to room, so that errands by many doors come well now and then. */
    private void errandAndLedger() throws Exception {
        int row = random.nextInt(3), n = random.nextInt(9), room = 0;
        call("row", row, random.nextInt(3), n);
        for (int k = 0; k < n; k++) {
            int doors = model.room(room, 1), d = random.nextInt(8);
            for (int tries = 0; tries < 8 && doors > 0 && (doors >> d & 1) == 0; tries++) d = (d + 1) % 8;
            if (random.nextInt(20) == 0) d = near(8);
            call("set", row, k, d);
            if (model.door(d, 0) >= 0) room = model.door(d, 0) == room ? model.door(d, 1) : model.door(d, 0);
        }
        for (int what = 0; what < 5; what++) call("would", row, 0, n, what);
        call("needs", row, 0, n, random.nextInt(3));
        call("sticks", row, 0, n, random.nextInt(11), random.nextInt(2));
        int v = random.nextBoolean() ? model.would(row, 0, n, 0) : 1006 + random.nextInt(6);
        call("status");
        call("who", random.nextInt(8), random.nextInt(4), row, 0, n, v);
        if (random.nextInt(3) > 0) call("errand", row, 0, n);
        call("status");
        for (int k = 0; k <= model.count(6); k++) call("ledger", k);
    }

    private void askAndTrace() throws Exception {
        call("ask", random.nextInt(8), random.nextInt(2));
        for (int k = 0; k < 7; k++) call("trace", k);
    }

    private void any() throws Exception {
        int k = random.nextInt(calls.length);
        String name = calls[k].getName();
        if (name.equals("feed") || name.equals("house") && random.nextInt(4) > 0) return;
        if (name.equals("restore") && random.nextInt(3) > 0) return;
        call(k, argumentsOf(name, calls[k].getParameterCount()));
        if (random.nextInt(6) == 0) call("status");
    }

    private int[] argumentsOf(String name, int many) {
        int row = random.nextInt(10) == 0 ? near(8) : random.nextInt(3);
        int i = random.nextInt(10) == 0 ? near(9) : random.nextInt(3), n = random.nextInt(10) == 0 ? near(9) : random.nextInt(5);
        int small = random.nextInt(10) == 0 ? near(8) : random.nextInt(6);
        int v = random.nextInt(3) == 0 ? near(1011) : random.nextBoolean() ? 1006 + random.nextInt(6) : random.nextInt(21);
        switch (name) {
            case "row": return new int[] {row, random.nextInt(12) == 0 ? near(2) : random.nextInt(3), near(40)};
            case "set": return new int[] {row, i, random.nextInt(5) == 0 ? random.nextInt() : random.nextInt(8)};
            case "copy": return new int[] {row, i, random.nextInt(8) == 0 ? near(8) : random.nextInt(3), near(6), n};
            case "errand": return new int[] {row, i, n};
            case "would": return new int[] {row, i, n, near(4)};
            case "needs": return new int[] {row, i, n, near(2)};
            case "who": return new int[] {small, near(3), row, i, n, v};
            case "sticks": return new int[] {row, i, n, near(10), near(1)};
            case "drawn": return new int[] {near(60), random.nextInt(8) == 0 ? near(1000000) : 1 + random.nextInt(999999), near(1)};
            case "sets": return new int[] {random.nextBoolean() ? near(160) : random.nextInt(50), near(2)};
            case "share": return new int[] {small, near(999)};
            case "bring": return new int[] {small, near(20)};
            case "rule": return new int[] {near(2), random.nextBoolean() ? near(9) : near(63)};
            case "way": return new int[] {small, random.nextInt(5) - 1};
            case "drop": return new int[] {random.nextInt(4) == 0 ? row : near(8)};
            case "byTurns": return new int[] {near(3)};
            case "image": case "restore": return new int[] {near(1)};
            case "count": return new int[] {near(8)};
            default:
                int[] some = new int[many];
                for (int k = 0; k < many; k++) some[k] = near(6);
                return some;
        }
    }

    /** 0 to most as a rule; now and then what lies beyond it, or far off. */
    private int near(int most) {
        switch (random.nextInt(24)) {
            case 0: return -1;
            case 1: return most + 1;
            case 2: return most;
            case 3:
                int[] far = {Integer.MIN_VALUE, Integer.MAX_VALUE, -1000, 1000000, Integer.MAX_VALUE - 1};
                return far[random.nextInt(far.length)];
            default: return random.nextInt(most + 1);
        }
    }

    private void call(String name, int... arguments) throws Exception {
        for (int k = 0; k < calls.length; k++) if (calls[k].getName().equals(name)) call(k, arguments);
    }

    private void call(int k, int[] arguments) throws Exception {
        if (left <= 0) return;
        left--;
        Object[] boxed = new Object[arguments.length];
        for (int j = 0; j < boxed.length; j++) boxed[j] = arguments[j];
        String call = calls[k].getName() + Arrays.toString(arguments);
        long got;
        try {
            got = ((Number) calls[k].invoke(x, boxed)).longValue();
        } catch (InvocationTargetException e) {
            wrong++;
            System.out.println("ModelTest run " + run + ": " + call + " threw " + e.getCause() + " behind" + told);
            return;
        }
        long want = ((Number) due[k].invoke(model, boxed)).longValue();
        seen++;
        if (want > Model.NONE || want < -1000003) answered[k]++;
        if (calls[k].getName().equals("house") || told.length() < 4000) told.append(' ').append(call);
        if (got != want) {
            wrong++;
            System.out.println("ModelTest run " + run + ": " + call + " answered " + got + ", due is " + want + " behind" + told);
            left = 0;
        }
    }
}
