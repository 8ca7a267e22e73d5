import java.math.BigInteger;
import java.util.ArrayDeque;
import java.util.ArrayList;
import java.util.Arrays;
import java.util.List;

/**
 * A second writing of the document, plain and slow, that shares nothing with the class: all is tried out,
 * houses are copied whole, and what the class works out at once is searched here.
 */
final class Model {
    static final int NONE = -1000000, BAD = -1000001, STATE = -1000002, FULL = -1000003;

    static final class Hall {
        int light, sleep, keys, taken;
        int[] weight = {};
        char[] sort = {};
        int[] from = {}, to = {}, n = {}, wear = {};

        Hall copy() {
            Hall h = new Hall();
            h.light = light;
            h.sleep = sleep;
            h.keys = keys;
            h.taken = taken;
            h.weight = weight.clone();
            h.sort = sort.clone();
            h.from = from.clone();
            h.to = to.clone();
            h.n = n.clone();
            h.wear = wear.clone();
            return h;
        }

        int loud(int d) {
            switch (sort[d]) {
                case 'l': return n[d];
                case 'b': return n[d] / 2;
                case 'c': return n[d] + 2 * wear[d];
                default: return 1;
            }
        }

        int gap(int d) {
            return sort[d] == 'b' ? 2 : sort[d] == 's' ? 0 : 1;
        }
    }

    static final class Tale {
        int finding, weight, noise, draught, opened, room;
        List<Integer> ledger = new ArrayList<>();

        int what() {
            return finding == 0 ? weight : 1000 + finding;
        }
    }

    static final class Line {
        int lane;
        long[] items;
    }

    private final Line[] lines = new Line[8];
    private final StringBuilder tape = new StringBuilder();
    private Hall hall;
    private final Hall[] images = new Hall[2];
    private final ArrayDeque<Hall> acts = new ArrayDeque<>();
    private List<Integer> ledger = new ArrayList<>();
    private List<Integer> trace = new ArrayList<>();
    private int fault, status;

    // ---- an errand, told straight

    static Tale go(Hall h, int[] doors) {
        Tale t = new Tale();
        ArrayDeque<Integer> open = new ArrayDeque<>();
        for (int d : doors) {
            t.finding = step(h, t, open, d);
            if (t.finding != 0) break;
        }
        if (t.finding == 0) {
            if (h.weight[t.room] == 0) {
                t.finding = 11;
            } else {
                t.weight = h.weight[t.room];
                h.weight[t.room] = 0;
                h.taken += t.weight;
                t.ledger.add(300 + t.room);
            }
        }
        if (t.finding != 0) t.ledger.add(400 + t.finding);
        while (!open.isEmpty()) t.ledger.add(200 + open.removeLast());
        return t;
    }

    private static int step(Hall h, Tale t, ArrayDeque<Integer> open, int d) {
        if (d < 0 || d >= h.sort.length) return 6;
        if (h.from[d] != t.room && h.to[d] != t.room) return 6;
        if (!open.contains(d)) {
            if ((h.sort[d] == 'k' || h.sort[d] == 's') && (h.keys & 1 << h.n[d] % 6) == 0) return 7;
            if (h.sort[d] == 's' && h.wear[d] != 0) return 8;
            open.addLast(d);
            t.opened++;
            t.ledger.add(100 + d);
            t.noise += h.loud(d);
            h.wear[d]++;
            int draught = 0;
            for (int o : open) draught += h.gap(o);
            t.draught = Math.max(t.draught, draught);
            if (t.noise > h.sleep) return 9;
            if (draught > h.light) return 10;
        }
        t.room = h.from[d] == t.room ? h.to[d] : h.from[d];
        return 0;
    }

    // ---- rows

    int row(int row, int lane, int n) {
        if (row < 0 || row > 7 || lane < 0 || lane > 2 || n > 40) return BAD;
        if (n < 0) return found(4);
        lines[row] = new Line();
        lines[row].lane = lane;
        lines[row].items = new long[n];
        return well(n);
    }

    int set(int row, int i, int v) {
        if (row < 0 || row > 7) return BAD;
        if (lines[row] == null) return found(1);
        if (i < 0 || i >= lines[row].items.length) return found(2);
        long half = lines[row].lane == 0 ? 128 : lines[row].lane == 1 ? 32768 : 2147483648L;
        lines[row].items[i] = Math.floorMod(v + half, 2 * half) - half;
        return well((int) lines[row].items[i]);
    }

    int copy(int a, int i, int b, int j, int n) {
        if (a < 0 || a > 7 || b < 0 || b > 7) return BAD;
        if (lines[a] == null || lines[b] == null) return found(1);
        if (lines[a].lane != lines[b].lane) return found(5);
        if (i < 0 || j < 0 || n < 0) return found(2);
        if ((long) i + n > lines[a].items.length || (long) j + n > lines[b].items.length) return found(2);
        long[] held = lines[a].items.clone();
        for (int k = 0; k < n; k++) lines[b].items[j + k] = held[i + k];
        return well(n);
    }

    int drop(int row) {
        if (row < 0 || row > 7) return BAD;
        if (lines[row] == null) return found(1);
        int n = lines[row].items.length;
        lines[row] = null;
        return well(n);
    }

    private int found(int finding) {
        status = finding;
        return -1000010 - finding;
    }

    private int well(int answer) {
        status = 0;
        return answer;
    }

    // ---- what is told

    int feed(int letter) {
        if (letter < 0 || letter > 255) return BAD;
        if (tape.length() == 110) return FULL;
        tape.append((char) letter);
        return tape.length();
    }

    /** Tokens first, with their places; then what may stand is asked token by token. */
    int house() {
        String text = tape.toString();
        tape.setLength(0);
        List<String> tokens = new ArrayList<>();
        List<Integer> places = new ArrayList<>();
        for (int k = 0; k < text.length();) {
            int e = k;
            while (e < text.length() && text.charAt(e) >= '0' && text.charAt(e) <= '9') e++;
            if (e == k) e++;
            tokens.add(text.substring(k, e));
            places.add(k);
            k = e;
        }
        tokens.add("");
        places.add(text.length());
        Hall h = new Hall();
        List<Integer> numbers = new ArrayList<>();
        String state = "h";
        int part = 0, rooms = 0, doors = 0;
        char thing = 'h';
        for (int k = 0; k < tokens.size(); k++) {
            String t = tokens.get(k);
            boolean isNumber = t.matches("[0-9]{1,2}");
            boolean ends = part == 0 && doors > 0 && t.isEmpty();
            if (ends) break;
            if (part == 0) {
                boolean fits = thing == 'h' ? t.equals("h")
                    : t.equals("r") && doors == 0 || t.matches("[lbcks]") && rooms >= 2;
                if (!fits) return faulty(1, places.get(k));
                if (t.equals("r") && rooms == 8) return faulty(3, places.get(k));
                if (t.matches("[lbcks]") && doors == 8) return faulty(3, places.get(k));
                state = t;
                numbers.clear();
                part = 1;
            } else if (part % 2 == 1) {
                if (!isNumber) return faulty(1, places.get(k));
                int v = Integer.parseInt(t);
                if (!asTold(state, numbers, v, rooms)) return faulty(2, places.get(k));
                numbers.add(v);
                part++;
            } else {
                boolean last = numbers.size() == (state.equals("r") ? 1 : 3);
                if (!t.equals(last ? ";" : ",")) return faulty(1, places.get(k));
                part++;
                if (last) {
                    part = 0;
                    thing = 'r';
                    if (state.equals("r")) rooms++;
                    else if (!state.equals("h")) doors++;
                    lay(h, state, numbers);
                }
            }
        }
        hall = h;
        acts.clear();
        ledger = new ArrayList<>();
        return h.sort.length;
    }

    private int faulty(int number, int place) {
        fault = number;
        return -1000100 - place;
    }

    private static boolean asTold(String state, List<Integer> before, int v, int rooms) {
        int k = before.size();
        if (state.equals("h")) return k == 0 ? v >= 1 && v <= 9 : k == 1 ? v >= 1 && v <= 60 : v <= 63;
        if (state.equals("r")) return v <= 20;
        return k == 0 ? v < rooms : k == 1 ? v < rooms && v != before.get(0) : v <= 9;
    }

    private static void lay(Hall h, String state, List<Integer> v) {
        if (state.equals("h")) {
            h.light = v.get(0);
            h.sleep = v.get(1);
            h.keys = v.get(2);
        } else if (state.equals("r")) {
            h.weight = longer(h.weight, v.get(0));
        } else {
            h.sort = (new String(h.sort) + state).toCharArray();
            h.from = longer(h.from, v.get(0));
            h.to = longer(h.to, v.get(1));
            h.n = longer(h.n, v.get(2));
            h.wear = longer(h.wear, 0);
        }
    }

    private static int[] longer(int[] row, int v) {
        int[] more = Arrays.copyOf(row, row.length + 1);
        more[row.length] = v;
        return more;
    }

    int fault() {
        return fault;
    }

    int undo() {
        if (acts.isEmpty()) return STATE;
        hall = acts.removeLast();
        return acts.size();
    }

    private void act() {
        acts.addLast(hall.copy());
        if (acts.size() > 24) acts.removeFirst();
    }

    // ---- what is done

    private int lack(int row, int i, int n) {
        if (lines[row] == null) return 1;
        return i < 0 || (long) i + n > lines[row].items.length ? 2 : 0;
    }

    private int[] doors(int row, int i, int n) {
        int[] doors = new int[n];
        for (int k = 0; k < n; k++) doors[k] = (int) lines[row].items[i + k];
        return doors;
    }

    private static boolean badRoute(int row, int n) {
        return row < 0 || row > 7 || n < 0 || n > 8;
    }

    private boolean noDoor(int d) {
        return hall == null || d < 0 || d >= hall.sort.length;
    }

    private boolean noRoom(int r) {
        return hall == null || r < 0 || r >= hall.weight.length;
    }

    int errand(int row, int i, int n) {
        if (hall == null) return STATE;
        if (badRoute(row, n)) return BAD;
        if (lack(row, i, n) != 0) return found(lack(row, i, n));
        act();
        Tale t = go(hall, doors(row, i, n));
        ledger = t.ledger;
        return t.finding != 0 ? found(t.finding) : well(t.weight);
    }

    int ledger(int i) {
        return i >= 0 && i < ledger.size() ? ledger.get(i) : NONE;
    }

    int oil(int d) {
        if (noDoor(d)) return BAD;
        if (hall.wear[d] == 0) return STATE;
        act();
        int was = hall.wear[d];
        hall.wear[d] = 0;
        return was;
    }

    int bring(int r, int v) {
        if (noRoom(r) || v < 1 || v > 20) return BAD;
        if (hall.weight[r] > 0) return STATE;
        act();
        hall.weight[r] = v;
        return Arrays.stream(hall.weight).sum();
    }

    int rule(int which, int v) {
        if (hall == null) return STATE;
        int[] least = {0, 1, 1}, most = {63, 9, 60};
        if (which < 0 || which > 2 || v < least[which] || v > most[which]) return BAD;
        act();
        int[] was = {hall.keys, hall.light, hall.sleep};
        int[] now = was.clone();
        now[which] = v;
        hall.keys = now[0];
        hall.light = now[1];
        hall.sleep = now[2];
        return was[which];
    }

    int door(int d, int what) {
        if (noDoor(d) || what < 0 || what > 5) return BAD;
        return new int[] {hall.from[d], hall.to[d], hall.n[d], hall.wear[d], hall.loud(d), hall.gap(d)}[what];
    }

    int room(int r, int what) {
        if (noRoom(r) || what < 0 || what > 1) return BAD;
        int bits = 0;
        for (int d = 0; d < hall.sort.length; d++) if (hall.from[d] == r || hall.to[d] == r) bits += 1 << d;
        return what == 0 ? hall.weight[r] : bits;
    }

    // ---- foretold

    int would(int row, int i, int n, int what) {
        if (hall == null) return STATE;
        if (badRoute(row, n) || what < 0 || what > 4) return BAD;
        if (lack(row, i, n) != 0) return found(lack(row, i, n));
        Tale t = go(hall.copy(), doors(row, i, n));
        return well(new int[] {t.what(), t.noise, t.draught, t.opened, t.room}[what]);
    }

    int way(int r, int k) {
        if (noRoom(r) || k < -1) return BAD;
        int d = hall.sort.length;
        for (int length = 0, all = 1; length <= 3; length++, all *= d) {
            for (int code = 0; code < all; code++) {
                int[] doors = new int[length];
                for (int j = length - 1, rest = code; j >= 0; j--, rest /= d) doors[j] = rest % d;
                Tale t = go(hall.copy(), doors);
                if (t.finding == 0 && t.room == r) return k == -1 ? length : k < length ? doors[k] : NONE;
            }
        }
        return NONE;
    }

    int needs(int row, int i, int n, int what) {
        if (hall == null) return STATE;
        if (badRoute(row, n) || what < 0 || what > 2) return BAD;
        if (lack(row, i, n) != 0) return found(lack(row, i, n));
        int best = NONE;
        for (int v = 0; v < 64; v++) {
            if (what == 2 && (v < 1 || v > 60)) continue;
            Hall h = hall.copy();
            if (what == 2) h.sleep = v;
            else h.keys = v;
            if (go(h, doors(row, i, n)).finding != 0) continue;
            if (best == NONE || what < 2 && Integer.bitCount(v) < Integer.bitCount(best)) best = v;
        }
        return well(best == NONE || what > 0 ? best : Integer.bitCount(best));
    }

    int sets(int v, int what) {
        if (hall == null) return STATE;
        if (v < 0 || v > 160 || what < 0 || what > 2) return BAD;
        int many = 0, all = 0, any = 0;
        for (int s = 0; s < 1 << hall.weight.length; s++) {
            int sum = 0;
            boolean full = true;
            for (int r = 0; r < hall.weight.length; r++) {
                if ((s >> r) % 2 == 1) {
                    sum += hall.weight[r];
                    full &= hall.weight[r] > 0;
                }
            }
            if (!full || sum != v) continue;
            all = many == 0 ? s : all & s;
            any |= s;
            many++;
        }
        return what == 0 ? many : what == 1 ? all : any;
    }

    int share(int r, int n) {
        if (noRoom(r) || n < 0 || n > 999) return BAD;
        int all = Arrays.stream(hall.weight).sum();
        if (all == 0) return 0;
        int[] got = new int[hall.weight.length];
        int left = n;
        for (int k = 0; k < got.length; k++) left -= got[k] = n * hall.weight[k] / all;
        for (int k = 0; k < got.length && left > 0; k++) {
            if (hall.weight[k] > 0) {
                got[k]++;
                left--;
            }
        }
        return got[r];
    }

    int byTurns(int n) {
        if (hall == null) return STATE;
        if (n < 0 || n > 3) return BAD;
        return best(hall.copy(), n, 1);
    }

    private static int best(Hall h, int left, int sign) {
        if (left == 0) return 0;
        int best = best(h.copy(), left - 1, -sign);
        for (int d = 0; d < h.sort.length; d++) {
            Hall next = h.copy();
            Tale t = go(next, new int[] {d});
            int v = sign * t.weight + best(next, left - 1, -sign);
            if (sign * v > sign * best) best = v;
        }
        return best;
    }

    int who(int d, int which, int row, int i, int n, int v) {
        if (noDoor(d) || which < 0 || which > 3 || badRoute(row, n)) return BAD;
        if (v < 0 || v > 160 && v < 1006 || v > 1011) return BAD;
        if (lack(row, i, n) != 0) return found(lack(row, i, n));
        int bits = 0, many = 0, least = NONE;
        for (int k = 0; k < 64; k++) {
            Hall h = hall.copy();
            if (which == 0) {
                if (k < 1 || k > 5) continue;
                h.sort[d] = "?lbcks".charAt(k);
            } else if (which == 1) {
                if (k > 9) continue;
                h.n[d] = k;
            } else {
                h.keys = k;
            }
            if (go(h, doors(row, i, n)).what() != v) continue;
            if (which < 2) bits |= 1 << k;
            if (many == 0) least = k;
            many++;
        }
        return well(which < 2 ? bits : which == 2 ? many : least);
    }

    /** All the cases in which doors stick are gone through, each with its share of 10 to the 8th. */
    long sticks(int row, int i, int n, int p, int what) {
        if (hall == null) return STATE;
        if (badRoute(row, n) || p < 0 || p > 10 || what < 0 || what > 1) return BAD;
        if (lack(row, i, n) != 0) return found(lack(row, i, n));
        Tale t = go(hall.copy(), doors(row, i, n));
        BigInteger above = BigInteger.ZERO, below = BigInteger.TEN.pow(8);
        for (int stuck = 0; stuck < 256 && t.finding == 0; stuck++) {
            boolean well = true;
            for (int k = 0; k < 8; k++) if ((stuck >> k) % 2 == 1 && t.ledger.contains(100 + k)) well = false;
            int many = Integer.bitCount(stuck);
            BigInteger share = BigInteger.valueOf(p).pow(many).multiply(BigInteger.valueOf(10 - p).pow(8 - many));
            if (well) above = above.add(share);
        }
        BigInteger common = above.gcd(below);
        status = 0;
        return (what == 0 ? above : below).divide(common).longValueExact();
    }

    int drawn(int n, int seed, int what) {
        if (hall == null) return STATE;
        if (n < 0 || n > 60 || seed < 1 || seed > 999999 || what < 0 || what > 1) return BAD;
        Hall h = hall.copy();
        BigInteger x = BigInteger.valueOf(seed);
        int taken = 0, well = 0;
        for (int k = 0; k < n; k++) {
            x = x.multiply(BigInteger.valueOf(16807)).mod(BigInteger.valueOf(2147483647));
            int v = x.intValueExact();
            int r = v % h.weight.length;
            if (h.weight[r] == 0 && v % 3 == 0) h.weight[r] = 5;
            Tale t = go(h, new int[] {v / 8 % h.sort.length, v / 64 % h.sort.length});
            taken += t.weight;
            well += t.finding == 0 ? 1 : 0;
        }
        return what == 0 ? taken : well;
    }

    int image(int k) {
        if (k < 0 || k > 1) return BAD;
        if (hall == null) return STATE;
        images[k] = hall.copy();
        return 1;
    }

    int restore(int k) {
        if (k < 0 || k > 1) return BAD;
        if (images[k] == null) return STATE;
        hall = images[k].copy();
        acts.clear();
        return 1;
    }

    // ---- asked

    int kind(int d) {
        return noDoor(d) ? BAD : "?lbcks".indexOf(hall.sort[d]);
    }

    int as(int d, int kind) {
        if (noDoor(d) || kind < 0 || kind > 5) return BAD;
        int[] above = {-1, 0, 1, 1, 0, 4};
        for (int k = kind(d); k >= 0; k = above[k]) if (k == kind) return well(d);
        return found(3);
    }

    int ask(int d, int what) {
        if (noDoor(d) || what < 0 || what > 1) return BAD;
        trace = new ArrayList<>();
        return what == 0 ? size(d) : mark(d);
    }

    private int size(int d) {
        return body(new int[] {10, 11, 12, 11, 13, 14}[kind(d)], d);
    }

    private int mark(int d) {
        return body(new int[] {20, 21, 24, 22, 23, 23}[kind(d)], d);
    }

    private int body(int number, int d) {
        if (trace.size() < 16) trace.add(number);
        switch (number) {
            case 10: return hall.n[d];
            case 11: return body(10, d) + mark(d);
            case 12: return 0 - body(11, d);
            case 13: return body(10, d) - 100;
            case 14: return body(13, d) * 2;
            case 20: return d;
            case 21: return body(20, d) + hall.wear[d];
            case 22: return body(21, d) - 1000;
            case 23: return body(20, d) - size(d);
            default: return body(21, d) * 2;
        }
    }

    int trace(int i) {
        return i >= 0 && i < trace.size() ? trace.get(i) : NONE;
    }

    int count(int what) {
        int there = 0;
        for (Line l : lines) if (l != null) there++;
        switch (what) {
            case 0: return there;
            case 1: return hall == null ? 0 : hall.sort.length;
            case 2: return hall == null ? 0 : hall.weight.length;
            case 3: return hall == null ? 0 : Arrays.stream(hall.weight).sum();
            case 4: return hall == null ? 0 : hall.taken;
            case 5: return hall == null ? 0 : Arrays.stream(hall.wear).sum();
            case 6: return ledger.size();
            case 7: return acts.size();
            case 8: return tape.length();
            default: return BAD;
        }
    }

    int status() {
        return status;
    }
}
