import java.util.Arrays;
import java.util.Random;

/** Made-up runs of calls: the program answers what the Model answers, and nothing is thrown. */
public final class ModelTest {
    private static final int RUNS = Integer.getInteger("runs", 900);
    private static final int[] ODD = {
        Integer.MIN_VALUE, Integer.MIN_VALUE + 1, -1000001, -1000, -2, -1, 0, 1, 2, 3, 4, 5, 6, 7, 8, 9, 10, 11, 12, 13,
        20, 21, 23, 24, 25, 48, 49, 59, 60, 69, 70, 99, 100, 999, 1000, 99999, 100000, Integer.MAX_VALUE - 1,
        Integer.MAX_VALUE,
    };

    private static final String SIGNS = "lsrhwfdm0123456789|&<=>+-*/%!()x \u0000\u00ff";

    private final Random random;
    private final VotedWater program = new VotedWater();
    private final Model model = new Model();
    private final StringBuilder told = new StringBuilder();
    private final int wildness;
    private int calls;

    private ModelTest(long seed) {
        random = new Random(seed);
        wildness = new int[] {0, 3, 10, 60}[(int) (seed % 4)];
    }

    public static void main(String[] args) {
        int failed = 0;
        for (int seed = 1; seed <= RUNS && failed < 3; seed++) {
            ModelTest run = new ModelTest(seed);
            String wrong = run.go(seed % 50 == 0);
            if (wrong != null) {
                failed++;
                System.out.println("run " + seed + ", call " + run.calls + ": " + wrong);
                System.out.println(run.told);
            }
        }
        System.out.println(RUNS + " runs against the model, " + failed + " of them unlike it");
        if (failed > 0) {
            System.exit(1);
        }
    }

    private String go(boolean old) {
        String wrong = begin();
        // Some towns grow old, so that HOURS come to their end.
        for (int i = 0; old && wrong == null && i < 206; i++) {
            wrong = call("hours", 48);
        }
        while (wrong == null && calls < 512) {
            wrong = random.nextInt(20) == 0 ? tellText() : callSome();
        }
        return wrong;
    }

    private String call(String name, long... args) {
        calls++;
        if (calls > 512) {
            return null;
        }
        String said = name + Arrays.toString(args).replace('[', '(').replace(']', ')');
        int due = model.call(name, args);
        int got;
        try {
            got = Face.call(program, name, args);
        } catch (RuntimeException | StackOverflowError thrown) {
            return said + " threw " + thrown;
        }
        told.append(said).append(" = ").append(due).append('\n');
        return got == due ? null : said + " answered " + got + ", due is " + due;
    }

    private String begin() {
        String wrong = null;
        int basins = random.nextInt(7);
        for (int i = 0; i < basins && wrong == null; i++) {
            wrong = call("basin", 1 + random.nextInt(random.nextBoolean() ? 20 : 3));
        }
        int doors = basins == 0 ? 0 : random.nextInt(13);
        for (int i = 0; i < doors && wrong == null; i++) {
            wrong = call("door", random.nextInt(70), random.nextInt(basins), sill());
        }
        return wrong;
    }

    private int sill() {
        return random.nextInt(3) == 0 ? random.nextInt(100) : 5 + random.nextInt(30);
    }

    private String tellText() {
        int use = random.nextInt(2);
        String text = made(use == 0 ? "lsrhw" : "fdm", 3);
        if (random.nextInt(3) == 0 && !text.isEmpty()) {
            int at = random.nextInt(text.length());
            char other = SIGNS.charAt(random.nextInt(SIGNS.length()));
            text = text.substring(0, at) + other + text.substring(random.nextBoolean() ? at : at + 1);
        }
        text = text.substring(0, Math.min(60, text.length()));
        String wrong = null;
        for (int i = 0; i < text.length() && wrong == null; i += 8) {
            int n = Math.min(8, text.length() - i);
            long word = random.nextLong();
            for (int j = n - 1; j >= 0; j--) {
                word = word << 8 | text.charAt(i + j);
            }
            wrong = call("feed", word, n);
        }
        return wrong != null ? wrong : call("text", use);
    }

    private String made(String names, int deep) {
        int kind = random.nextInt(deep <= 0 ? 2 : 6);
        switch (kind) {
            case 0: return String.valueOf(random.nextInt(random.nextBoolean() ? 100 : 10000));
            case 1: return String.valueOf(names.charAt(random.nextInt(names.length())));
            case 2: return "(" + made(names, deep - 1) + ")";
            case 3: return "!" + made(names, 0);
            default:
                char sign = "|&<=>+-*/%".charAt(random.nextInt(10));
                return made(names, deep - 1) + sign + made(names, deep - 1);
        }
    }

    private String callSome() {
        int which = random.nextInt(Face.CALLS.length);
        String name = Face.CALLS[which];
        if (random.nextInt(100) < wildness) {
            long[] args = new long[Face.ARGUMENTS[which]];
            for (int i = 0; i < args.length; i++) {
                args[i] = random.nextInt(8) == 0 ? random.nextInt() : ODD[random.nextInt(ODD.length)];
            }
            return call(name, args);
        }
        return call(name, arguments(name));
    }

    private long[] arguments(String name) {
        int b = random.nextInt(random.nextInt(10) == 0 ? 7 : Math.max(1, model.call("count", 0)));
        int d = random.nextInt(random.nextInt(10) == 0 ? 13 : Math.max(1, model.call("count", 1)));
        int s = random.nextInt(random.nextInt(20) == 0 ? 5 : 4);
        switch (name) {
            case "basin": return longs(random.nextInt(22));
            case "basinIs": return longs(b, random.nextInt(10));
            case "setBasin": return setBasin(b);
            case "door": return longs(random.nextInt(71), b, sill());
            case "doorIs": return longs(d, random.nextInt(11));
            case "as": return longs(d, random.nextInt(8));
            case "setDoor": return setDoor(d);
            case "rain": return longs(random.nextInt(11));
            case "feed": return longs(random.nextLong(), random.nextInt(10));
            case "text": case "untell": return longs(random.nextInt(3));
            case "hours": case "wet": return longs(random.nextInt(8) == 0 ? random.nextInt(50) : random.nextInt(6));
            case "then": return longs(random.nextInt(50), b, random.nextInt(10));
            case "thenDoor": return longs(random.nextInt(50), d, random.nextInt(11));
            case "moves": return longs(b, row());
            case "best": return longs(b, random.nextInt(7), random.nextInt(3));
            case "storm": return longs(b, random.nextInt(14), random.nextInt(3));
            case "changes": return longs(random.nextInt(14));
            case "buys": return longs(b, random.nextInt(8) == 0 ? 0 : random.nextBoolean() ? 1 : -1);
            case "comes": return longs(b, random.nextInt(Math.max(1, model.call("count", 0))), random.nextInt(50));
            case "voice": return longs(d, random.nextInt(5), random.nextInt(random.nextBoolean() ? 100 : 1 << 30) * 3);
            case "body": return longs(random.nextInt(8));
            case "sheet": return longs(s, new int[] {8, 16, 32, 32, 0, 7}[random.nextInt(6)], random.nextInt(27) - 1);
            case "put": return put(s);
            case "move": return move(s, random.nextBoolean() ? s : random.nextInt(4));
            case "votes": return longs(s);
            case "off": case "rained": return longs(b, s);
            case "tell": return longs(random.nextInt(4) == 0 ? random.nextInt() : random.nextInt(3) - 1);
            case "count": case "told": return longs(random.nextInt(10));
            case "seed": return longs(random.nextInt());
            default: return longs();
        }
    }

    private static long[] longs(long... args) {
        return args;
    }

    private long[] setBasin(int b) {
        int what = new int[] {1, 3, 4, 5, 6, 7, 1, 7, 2}[random.nextInt(9)];
        switch (what) {
            case 1: return longs(b, what, random.nextInt(random.nextInt(8) == 0 ? 100002 : 1000));
            case 3: case 7: return longs(b, what, random.nextInt(random.nextInt(8) == 0 ? 101 : 40));
            case 5: return longs(b, what, random.nextInt(random.nextInt(3) == 0 ? 1001 : 60));
            case 6: return longs(b, what, random.nextInt(3));
            default: return longs(b, what, random.nextInt(11));
        }
    }

    private long[] setDoor(int d) {
        int what = random.nextInt(6);
        switch (what) {
            case 0: return longs(d, what, random.nextInt(8));
            case 1: return longs(d, what, random.nextInt(11));
            case 3: return longs(d, what, sill());
            case 4: return longs(d, what, random.nextInt(2) == 0 ? 2 : random.nextInt(6) - 2);
            default: return longs(d, what, random.nextInt(3) == 0 ? 1 : 0);
        }
    }

    private int row() {
        int row = 0;
        int length = random.nextInt(8);
        for (int i = 0; i < length; i++) {
            row = row * 10 + 1 + random.nextInt(random.nextInt(20) == 0 ? 4 : 3);
        }
        return row;
    }

    private long[] put(int s) {
        int i = random.nextInt(random.nextInt(4) == 0 ? 25 : 6);
        int[] any = {random.nextInt(), random.nextInt(50), random.nextInt(5) - 2};
        return longs(s, i, any[random.nextInt(3)]);
    }

    private long[] move(int s, int other) {
        return longs(s, random.nextInt(8), other, random.nextInt(8), random.nextInt(10) - 1);
    }
}
