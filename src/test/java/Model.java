import java.util.ArrayList;
import java.util.BitSet;
import java.util.List;

/**
 * The document once more, in other ways than the program's: texts are split at their loosest sign, a FAULT is found
 * by trying how a beginning could go on, VOICES are Java's own inheritance, BUYS tries every set of DOORS, towns are
 * made anew for every look AHEAD, an ERROR is thrown. It may be slow and make as many objects as it likes.
 */
final class Model {
    static final int LOW = -1000000;

    static final class Told extends RuntimeException {
        private static final long serialVersionUID = 1L;
        final int k;

        Told(int k) {
            super(null, null, false, false);
            this.k = k;
        }
    }

    static final class MBasin {
        int water;
        int area;
        int high = 20;
        int moves = 2;
        int over = 100;
        int stuck;
        int bridge = 50;

        int level() {
            return water / area;
        }

        MBasin copy() {
            MBasin c = new MBasin();
            c.water = water;
            c.area = area;
            c.high = high;
            c.moves = moves;
            c.over = over;
            c.stuck = stuck;
            c.bridge = bridge;
            return c;
        }
    }

    static final class MDoor {
        int kind;
        int m;
        int basin;
        int sill;
        int bought = 2;
        int away;
        int flooded;
        int dry;

        MDoor copy() {
            MDoor c = new MDoor();
            c.kind = kind;
            c.m = m;
            c.basin = basin;
            c.sill = sill;
            c.bought = bought;
            c.away = away;
            c.flooded = flooded;
            c.dry = dry;
            return c;
        }
    }

    static final class State {
        List<MBasin> basins = new ArrayList<>();
        List<MDoor> doors = new ArrayList<>();
        String voteText;
        String painText;
        String tape = "";
        List<Integer> waiting = new ArrayList<>();
        int rain;
        int hours;
        int lost;
        int z = 1;

        State copy() {
            State c = new State();
            for (MBasin b : basins) {
                c.basins.add(b.copy());
            }
            for (MDoor d : doors) {
                c.doors.add(d.copy());
            }
            c.voteText = voteText;
            c.painText = painText;
            c.tape = tape;
            c.waiting.addAll(waiting);
            c.rain = rain;
            c.hours = hours;
            c.lost = lost;
            c.z = z;
            return c;
        }

        int vote(MDoor d) {
            if (d.away == 1) {
                return 0;
            }
            return d.bought != 2 ? d.bought : wish(d);
        }

        private int wish(MDoor d) {
            MBasin b = basins.get(d.basin);
            int level = b.level();
            if (d.kind == 1) {
                return fear(d, level);
            }
            if (d.kind == 2) {
                return thirst(d, level);
            }
            if (d.kind == 3) {
                return level > d.sill ? -1 : thirst(d, level);
            }
            if (d.kind == 4) {
                if (level - 1 < d.sill - 10 - d.m) {
                    return 1;
                }
                return level > b.bridge - d.m ? -1 : 0;
            }
            if (d.kind == 5) {
                return fear(d, level + rain * 2);
            }
            if (d.kind == 6) {
                long wish = voteText == null ? d.sill - level
                    : work(voteText, "lsrhw", level, d.sill, rain, hours, b.high);
                return Long.signum(wish);
            }
            return 0;
        }

        private static int fear(MDoor d, int level) {
            return level > d.sill - d.m ? -1 : 0;
        }

        private static int thirst(MDoor d, int level) {
            return level < d.sill - d.m ? 1 : 0;
        }

        int sum(int basin) {
            int sum = 0;
            for (MDoor d : doors) {
                if (d.basin == basin) {
                    sum += vote(d);
                }
            }
            return sum;
        }

        int pain(MDoor d) {
            int pain = painText == null ? d.flooded * 3 + d.dry : work(painText, "fdm", d.flooded, d.dry, d.m);
            return pain < 0 ? 0 : pain > 99999 ? 99999 : pain;
        }

        int pains() {
            int all = 0;
            for (MDoor d : doors) {
                all += pain(d);
            }
            return all;
        }

        /** movedBasin's WEIR goes by way (-1, 0, 1); none, if movedBasin is -1. */
        void hour(int movedBasin, int way) {
            int[] ways = new int[basins.size()];
            for (int b = 0; b < ways.length; b++) {
                ways[b] = b == movedBasin ? way : Integer.signum(sum(b));
            }
            for (int b = 0; b < ways.length; b++) {
                MBasin basin = basins.get(b);
                if (basin.stuck == 0) {
                    basin.high += ways[b] * basin.moves;
                    basin.high = basin.high < 0 ? 0 : basin.high > 99 ? 99 : basin.high;
                }
            }
            for (int b = 0; b < ways.length; b++) {
                MBasin basin = basins.get(b);
                basin.water += rain * basin.area;
                basin.water = basin.water > 99999 ? 99999 : basin.water;
                int above = basin.water - basin.high * basin.area;
                if (above > 0) {
                    int goes = above > basin.over ? basin.over : above;
                    basin.water -= goes;
                    if (b == ways.length - 1) {
                        lost = lost + goes > 999999 ? 999999 : lost + goes;
                    } else {
                        MBasin next = basins.get(b + 1);
                        next.water = next.water + goes > 99999 ? 99999 : next.water + goes;
                    }
                }
            }
            for (MDoor d : doors) {
                int level = basins.get(d.basin).level();
                d.flooded += level > d.sill && d.flooded < 99999 ? 1 : 0;
                d.dry += level < d.sill - 10 - d.m && d.dry < 99999 ? 1 : 0;
            }
            hours++;
        }

        State after(int n) {
            State c = copy();
            for (int i = 0; i < n; i++) {
                c.hour(-1, 0);
            }
            return c;
        }

        State afterRow(int basin, String row) {
            State c = copy();
            for (char digit : row.toCharArray()) {
                c.hour(basin, digit - '2');
            }
            return c;
        }
    }

    // ---- VOICES by Java's own inheritance

    static final class Parted extends RuntimeException {
        private static final long serialVersionUID = 1L;
    }

    static class VDoor {
        int k;
        int m;
        final List<Integer> trace = new ArrayList<>();

        int votes(int x) {
            trace.add(10);
            return x + k;
        }

        int fears(int x) {
            trace.add(11);
            return votes(x) * 2;
        }

        int floods(int x) {
            trace.add(12);
            return fears(x) - m;
        }

        int pays(int x) {
            trace.add(13);
            if (m == k) {
                throw new Parted();
            }
            return x / (m - k);
        }
    }

    static class VCellar extends VDoor {
        @Override int votes(int x) {
            trace.add(20);
            return super.votes(x) - 7;
        }

        @Override int pays(int x) {
            trace.add(21);
            return super.pays(x) + fears(1);
        }
    }

    static class VMill extends VDoor {
        @Override int fears(int x) {
            trace.add(30);
            return 0 - super.fears(x);
        }
    }

    static final class VSwan extends VMill {
        @Override int votes(int x) {
            trace.add(40);
            return super.votes(x) * 3;
        }

        @Override int floods(int x) {
            trace.add(41);
            return super.floods(x) ^ k;
        }
    }

    static final class VBoat extends VDoor {
        @Override int floods(int x) {
            trace.add(50);
            return super.floods(x / 2);
        }
    }

    static final class VFeared extends VCellar {
        @Override int fears(int x) {
            trace.add(60);
            return super.fears(x + 1);
        }
    }

    static final class VTold extends VDoor {
        @Override int votes(int x) {
            trace.add(70);
            return 4;
        }

        @Override int fears(int x) {
            trace.add(71);
            return super.fears(x) + m;
        }
    }

    private static VDoor voiced(int kind) {
        switch (kind) {
            case 1: return new VCellar();
            case 2: return new VMill();
            case 3: return new VSwan();
            case 4: return new VBoat();
            case 5: return new VFeared();
            case 6: return new VTold();
            default: return new VDoor();
        }
    }

    // ---- TEXTS

    /** Whether the whole is a TEXT with those NAMES. */
    static boolean isText(String s, String names) {
        return ends(s, names, 0, 0, 0).get(s.length());
    }

    /** The places at which a T (level 0), A, B, S, P (4) or Q (5) that begins at i may end. */
    private static BitSet ends(String s, String names, int level, int i, int open) {
        if (level == 5) {
            return endsOfQ(s, names, i, open);
        }
        String signs = new String[] {"|", "&", "<=>", "+-", "*/%"}[level];
        BitSet found = new BitSet();
        BitSet fresh = ends(s, names, level + 1, i, open);
        for (int more = 0; !fresh.isEmpty(); more++) {
            found.or(fresh);
            BitSet next = new BitSet();
            for (int e = 0; e < s.length() && (level != 2 || more == 0); e++) {
                if (fresh.get(e) && signs.indexOf(s.charAt(e)) >= 0) {
                    next.or(ends(s, names, level + 1, e + 1, open));
                }
            }
            next.andNot(found);
            fresh = next;
        }
        return found;
    }

    private static BitSet endsOfQ(String s, String names, int i, int open) {
        BitSet found = new BitSet();
        for (int n = 1; n <= 4 && i + n <= s.length() && "0123456789".indexOf(s.charAt(i + n - 1)) >= 0; n++) {
            found.set(i + n);
        }
        if (i >= s.length()) {
            return found;
        }
        char c = s.charAt(i);
        if (names.indexOf(c) >= 0) {
            found.set(i + 1);
        }
        if (c == '!' && open < 5) {
            found.or(endsOfQ(s, names, i + 1, open + 1));
        }
        if (c == '(' && open < 5) {
            BitSet inner = ends(s, names, 0, i + 1, open + 1);
            for (int e = i + 1; e < s.length(); e++) {
                if (inner.get(e) && s.charAt(e) == ')') {
                    found.set(e + 1);
                }
            }
        }
        return found;
    }

    /** -1: none. */
    static int fault(String s, String names) {
        if (isText(s, names)) {
            return -1;
        }
        for (int p = 0; p < s.length(); p++) {
            if (!goesOn(s.substring(0, p + 1), names)) {
                return p;
            }
        }
        return s.length();
    }

    private static boolean goesOn(String beginning, String names) {
        String closing = "";
        for (int k = 0; k <= 5; k++) {
            if (isText(beginning + closing, names) || isText(beginning + "1" + closing, names)) {
                return true;
            }
            closing = closing + ")";
        }
        return false;
    }

    /** What a TEXT gives: it is split at the last of its loosest signs that stand in no bracket. */
    static int work(String s, String names, int... values) {
        for (String signs : new String[] {"|", "&", "<=>", "+-", "*/%"}) {
            int depth = 0;
            for (int i = s.length() - 1; i >= 0; i--) {
                char c = s.charAt(i);
                depth += c == ')' ? 1 : c == '(' ? -1 : 0;
                if (depth == 0 && signs.indexOf(c) >= 0) {
                    int a = work(s.substring(0, i), names, values);
                    int b = work(s.substring(i + 1), names, values);
                    return join(a, c, b);
                }
            }
        }
        if (s.charAt(0) == '!') {
            return work(s.substring(1), names, values) == 0 ? 1 : 0;
        }
        if (s.charAt(0) == '(') {
            return work(s.substring(1, s.length() - 1), names, values);
        }
        int name = names.indexOf(s.charAt(0));
        return name >= 0 ? values[name] : Integer.parseInt(s);
    }

    private static int join(int a, char sign, int b) {
        switch (sign) {
            case '|': return (a != 0 | b != 0) ? 1 : 0;
            case '&': return (a != 0 & b != 0) ? 1 : 0;
            case '<': return a < b ? 1 : 0;
            case '=': return a == b ? 1 : 0;
            case '>': return a > b ? 1 : 0;
            case '+': return (int) ((long) a + b);
            case '-': return (int) ((long) a - b);
            case '*': return (int) ((long) a * b);
            case '/': return b == 0 ? 0 : (int) ((long) a / b);
            default: return b == 0 ? 0 : (int) ((long) a % b);
        }
    }

    // ---- the face

    private State now = new State();
    private State image;
    private int images;
    private final int[] told = new int[7];
    private final int[] bits = new int[4];
    private final int[][] sheets = new int[4][];
    private List<Integer> trace = new ArrayList<>();

    /** A call by the name that it has in the document's face. */
    int call(String name, long... a) {
        try {
            return answer(name, a);
        } catch (Told t) {
            told[t.k]++;
            return LOW - t.k;
        }
    }

    private static void need(boolean holds, int k) {
        if (!holds) {
            throw new Told(k);
        }
    }

    private MBasin basinAt(int b) {
        need(b >= 0 && b < now.basins.size(), 1);
        return now.basins.get(b);
    }

    private MDoor doorAt(int d) {
        need(d >= 0 && d < now.doors.size(), 1);
        return now.doors.get(d);
    }

    private static void range(int v, int least, int most) {
        need(least <= v && v <= most, 1);
    }

    private int answer(String name, long[] args) {
        int[] a = new int[6];
        for (int i = 0; i < args.length; i++) {
            a[i] = (int) args[i];
        }
        switch (name) {
            case "basin": return addBasin(a[0]);
            case "basinIs": basinAt(a[0]); range(a[1], 0, 8); return ofBasin(now, a[0], a[1]);
            case "setBasin": return setBasin(a[0], a[1], a[2]);
            case "door": return addDoor(a[0], a[1], a[2]);
            case "doorIs": doorAt(a[0]); range(a[1], 0, 9); return ofDoor(now, a[0], a[1]);
            case "as": return as(a[0], a[1]);
            case "setDoor": return setDoor(a[0], a[1], a[2]);
            case "rain": { range(a[0], 0, 9); int was = now.rain; now.rain = a[0]; return was; }
            case "feed": return feed(args[0], a[1]);
            case "text": return text(a[0]);
            case "untell": return untell(a[0]);
            case "hours": return hours(a[0], false);
            case "wet": return hours(a[0], true);
            case "seed": { int was = now.z; now.z = a[0]; return was; }
            case "then": return then(a[0], a[1], a[2]);
            case "thenDoor": return thenDoor(a[0], a[1], a[2]);
            case "moves": basinAt(a[0]); return now.afterRow(a[0], row(a[1])).pains();
            case "best": return best(a[0], a[1], a[2]);
            case "storm": return storm(a[0], a[1], a[2]);
            case "changes": return changes(a[0]);
            case "buys": return buys(a[0], a[1]);
            case "comes": return comes(a[0], a[1], a[2]);
            case "voice": return voice(a[0], a[1], a[2]);
            case "body": need(a[0] >= 0 && a[0] < trace.size(), 2); return trace.get(a[0]);
            case "sheet": return sheet(a[0], a[1], a[2]);
            case "put": return put(a[0], a[1], a[2]);
            case "move": return move(a[0], a[1], a[2], a[3], a[4]);
            case "votes": return votes(a[0]);
            case "off": basinAt(a[0]); sheetThere(a[1]); return off(a[0], sheets[a[1]], now.rain);
            case "rained": return rained(a[0], a[1]);
            case "image": image = now.copy(); return ++images;
            case "restore": need(image != null, 2); now = image.copy(); return now.hours;
            case "tell": need(now.waiting.size() < 24, 4); now.waiting.add(a[0]); return now.waiting.size();
            case "check": return check();
            case "count": return count(a[0]);
            case "told": range(a[0], 1, 6); return told[a[0]];
            default: throw new IllegalStateException(name);
        }
    }

    private int addBasin(int area) {
        range(area, 1, 20);
        need(now.basins.size() < 6, 4);
        MBasin b = new MBasin();
        b.area = area;
        b.water = 10 * area;
        now.basins.add(b);
        return now.basins.size() - 1;
    }

    private static int ofBasin(State s, int basin, int what) {
        MBasin b = s.basins.get(basin);
        return new int[] {b.level(), b.water, b.area, b.high, b.moves, b.over, b.stuck, b.bridge, s.sum(basin)}[what];
    }

    private int setBasin(int basin, int what, int v) {
        MBasin b = basinAt(basin);
        int[] most = {-1, 99999, -1, 99, 9, 999, 1, 99};
        range(what, 1, 7);
        range(v, 0, most[what]);
        int was = ofBasin(now, basin, what);
        b.water = what == 1 ? v : b.water;
        b.high = what == 3 ? v : b.high;
        b.moves = what == 4 ? v : b.moves;
        b.over = what == 5 ? v : b.over;
        b.stuck = what == 6 ? v : b.stuck;
        b.bridge = what == 7 ? v : b.bridge;
        return was;
    }

    private int addDoor(int km, int basin, int sill) {
        range(km, 0, 69);
        basinAt(basin);
        range(sill, 0, 99);
        need(now.doors.size() < 12, 4);
        MDoor d = new MDoor();
        d.kind = km / 10;
        d.m = km % 10;
        d.basin = basin;
        d.sill = sill;
        now.doors.add(d);
        return now.doors.size() - 1;
    }

    private static int ofDoor(State s, int door, int what) {
        MDoor d = s.doors.get(door);
        return new int[] {d.kind, d.m, d.basin, d.sill, d.bought, d.away, d.flooded, d.dry, s.vote(d), s.pain(d)}[what];
    }

    private int as(int door, int kind) {
        MDoor d = doorAt(door);
        range(kind, 0, 6);
        need(voiced(kind).getClass().isInstance(voiced(d.kind)), 5);
        return d.sill;
    }

    private int setDoor(int door, int what, int v) {
        MDoor d = doorAt(door);
        int[] least = {0, 0, 0, 0, -1, 0};
        int[] most = {6, 9, -1, 99, 2, 1};
        range(what, 0, 5);
        range(v, least[what], most[what]);
        int was = ofDoor(now, door, what);
        d.kind = what == 0 ? v : d.kind;
        d.m = what == 1 ? v : d.m;
        d.sill = what == 3 ? v : d.sill;
        d.bought = what == 4 ? v : d.bought;
        d.away = what == 5 ? v : d.away;
        return was;
    }

    private int feed(long word, int n) {
        range(n, 1, 8);
        need(now.tape.length() + n <= 60, 4);
        long rest = word;
        for (int i = 0; i < n; i++) {
            now.tape += (char) (rest & 255);
            rest >>= 8;
        }
        return now.tape.length();
    }

    private int text(int use) {
        range(use, 0, 1);
        String text = now.tape;
        now.tape = "";
        int fault = fault(text, use == 0 ? "lsrhw" : "fdm");
        if (fault >= 0) {
            return -10 - fault;
        }
        if (use == 0) {
            now.voteText = text;
        } else {
            now.painText = text;
        }
        return 1;
    }

    private int untell(int use) {
        range(use, 0, 1);
        String was = use == 0 ? now.voteText : now.painText;
        if (use == 0) {
            now.voteText = null;
        } else {
            now.painText = null;
        }
        return was == null ? 0 : 1;
    }

    private int hours(int n, boolean wet) {
        range(n, 1, 48);
        need(now.hours + n <= 9999, 3);
        for (int i = 0; i < n; i++) {
            if (wet) {
                now.z = now.z * 1103515245 + 12345;
                now.rain = (now.z >>> 8) % 10;
            }
            now.hour(-1, 0);
        }
        return now.pains();
    }

    private int then(int n, int basin, int what) {
        range(n, 0, 48);
        basinAt(basin);
        range(what, 0, 8);
        return ofBasin(now.after(n), basin, what);
    }

    private int thenDoor(int n, int door, int what) {
        range(n, 0, 48);
        doorAt(door);
        range(what, 0, 9);
        return ofDoor(now.after(n), door, what);
    }

    private static String row(int row) {
        need(row == 0 || Integer.toString(row).matches("[123]{1,6}"), 1);
        return row == 0 ? "" : Integer.toString(row);
    }

    private int best(int basin, int n, int what) {
        basinAt(basin);
        range(n, 1, 5);
        range(what, 0, 1);
        int least = Integer.MAX_VALUE;
        int found = 0;
        for (int row = 1; row <= 33333; row++) {
            String digits = Integer.toString(row);
            if (digits.length() == n && digits.matches("[123]*")) {
                int pains = now.afterRow(basin, digits).pains();
                if (pains < least) {
                    least = pains;
                    found = row;
                }
            }
        }
        return what == 0 ? found : least;
    }

    private int storm(int basin, int n, int what) {
        basinAt(basin);
        range(n, 1, 12);
        range(what, 0, 1);
        int[] worst = new int[4];
        int found = 1;
        for (int move = 1; move <= 3; move++) {
            for (int rain = 0; rain <= 9; rain++) {
                State s = now.copy();
                s.rain = rain;
                int pains = s.afterRow(basin, "" + move).after(n - 1).pains();
                worst[move] = Math.max(worst[move], pains);
            }
            found = worst[move] < worst[found] ? move : found;
        }
        return what == 0 ? found : worst[found];
    }

    private int changes(int n) {
        range(n, 1, 12);
        int bits = 0;
        State plain = now.after(n);
        for (int d = 0; d < now.doors.size(); d++) {
            for (int bought = -1; bought <= 1; bought++) {
                State s = now.copy();
                s.doors.get(d).bought = bought;
                State first = s.after(1);
                first.doors.get(d).bought = now.doors.get(d).bought;
                State last = first.after(n - 1);
                if (last.pain(last.doors.get(d)) < plain.pain(plain.doors.get(d))) {
                    bits |= 1 << d;
                }
            }
        }
        return bits;
    }

    private int buys(int basin, int way) {
        basinAt(basin);
        need(way == 1 || way == -1, 1);
        int fewest = 99;
        for (int set = 0; set < 1 << now.doors.size(); set++) {
            int sum = 0;
            boolean may = true;
            for (int d = 0; d < now.doors.size(); d++) {
                MDoor door = now.doors.get(d);
                boolean inSet = (set >> d & 1) == 1;
                may &= !inSet || door.basin == basin && door.away == 0;
                sum += door.basin != basin ? 0 : inSet ? way : now.vote(door);
            }
            if (may && Integer.signum(sum) == way) {
                fewest = Math.min(fewest, Integer.bitCount(set));
            }
        }
        need(fewest < 99, 2);
        return fewest;
    }

    private int comes(int from, int to, int n) {
        basinAt(from);
        basinAt(to);
        range(n, 0, 48);
        boolean[] at = new boolean[now.basins.size()];
        at[from] = true;
        State s = now.copy();
        for (int hour = 0; !at[to]; hour++) {
            need(hour < n, 2);
            s.hour(-1, 0);
            boolean[] then = at.clone();
            for (int b = 0; b < at.length; b++) {
                for (int c = b - 1; c <= b + 1; c += 2) {
                    if (at[b] && c >= 0 && c < at.length && passes(s, Math.min(b, c))) {
                        then[c] = true;
                    }
                }
            }
            at = then;
            if (at[to]) {
                return hour + 1;
            }
        }
        return 0;
    }

    private static boolean passes(State s, int upper) {
        int a = s.basins.get(upper).level();
        int b = s.basins.get(upper + 1).level();
        int bridge = s.basins.get(upper).bridge;
        return a - b <= 3 && b - a <= 3 && bridge - a >= 2 && bridge - b >= 2;
    }

    private int voice(int door, int voice, int x) {
        MDoor d = doorAt(door);
        range(voice, 0, 3);
        VDoor v = voiced(d.kind);
        v.k = door;
        v.m = d.m;
        trace = v.trace;
        try {
            return voice == 0 ? v.votes(x) : voice == 1 ? v.fears(x) : voice == 2 ? v.floods(x) : v.pays(x);
        } catch (Parted p) {
            throw new Told(6);
        }
    }

    private int sheet(int sheet, int newBits, int n) {
        range(sheet, 0, 3);
        need(newBits == 0 || newBits == 8 || newBits == 16 || newBits == 32, 1);
        if (newBits == 0) {
            sheets[sheet] = null;
            return 1;
        }
        need(n >= 0, 3);
        need(n <= 24, 1);
        sheets[sheet] = new int[n];
        bits[sheet] = newBits;
        return 1;
    }

    private void sheetThere(int sheet) {
        range(sheet, 0, 3);
        need(sheets[sheet] != null, 2);
    }

    private int put(int sheet, int i, int v) {
        sheetThere(sheet);
        range(i, 0, sheets[sheet].length - 1);
        int unused = 32 - bits[sheet];
        sheets[sheet][i] = v << unused >> unused;
        return 1;
    }

    private int move(int sheet, int i, int other, int j, int n) {
        range(sheet, 0, 3);
        range(other, 0, 3);
        sheetThere(sheet);
        sheetThere(other);
        need(bits[sheet] == bits[other], 5);
        need(n >= 0 && i >= 0 && j >= 0, 1);
        need((long) i + n <= sheets[sheet].length && (long) j + n <= sheets[other].length, 1);
        int[] source = sheets[sheet].clone();
        for (int k = 0; k < n; k++) {
            sheets[other][j + k] = source[i + k];
        }
        return n;
    }

    private int votes(int sheet) {
        sheetThere(sheet);
        int came = 0;
        for (int v : sheets[sheet]) {
            if (v < -1 || v > 2 || came == now.doors.size()) {
                break;
            }
            now.doors.get(came).bought = v;
            came++;
        }
        return came;
    }

    private int off(int basin, int[] levels, int rain) {
        State s = now.copy();
        s.rain = rain;
        long off = 0;
        for (int i = 0; i < levels.length; i++) {
            off += Math.min(1000L, Math.abs((long) levels[i] - s.after(i + 1).basins.get(basin).level()));
        }
        return (int) off;
    }

    private int rained(int basin, int sheet) {
        basinAt(basin);
        sheetThere(sheet);
        int found = 9;
        for (int rain = 8; rain >= 0; rain--) {
            if (off(basin, sheets[sheet], rain) <= off(basin, sheets[sheet], found)) {
                found = rain;
            }
        }
        return found;
    }

    private int check() {
        List<Integer> votes = new ArrayList<>();
        for (MDoor d : now.doors) {
            votes.add(now.vote(d));
        }
        List<Integer> said = now.waiting;
        now.waiting = new ArrayList<>();
        if (said.equals(votes)) {
            return 0;
        }
        int i = 0;
        while (i < said.size() && i < votes.size() && said.get(i).equals(votes.get(i))) {
            i++;
        }
        return 1 + i;
    }

    private int count(int what) {
        range(what, 0, 9);
        int water = 0;
        for (MBasin b : now.basins) {
            water += b.water;
        }
        return new int[] {now.basins.size(), now.doors.size(), now.hours, now.rain, water, now.lost, now.tape.length(),
            now.waiting.size(), trace.size(), now.z}[what];
    }
}
