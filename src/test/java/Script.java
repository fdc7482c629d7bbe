import java.util.Arrays;

/**
 * Runs of calls on one new object, each written as a line "name argument .. = what is due". An ERROR is due by its
 * name. "type TEXT" feeds a TEXT, byte by byte; "12 times call .. = due" wants the same answer each time.
 */
final class Script {
    private static final String[] ERRORS = {"BEYOND", "NONE", "STATE", "FULL", "KIND", "PARTED"};

    private static int right;
    private static int wrong;

    private Script() {
    }

    static void run(String what, String... lines) {
        VotedWater x = new VotedWater();
        for (String line : lines) {
            try {
                callLine(x, what, line);
            } catch (RuntimeException | StackOverflowError thrown) {
                wrong++;
                System.out.println(what + ": " + line + " threw " + thrown);
            }
        }
    }

    private static void callLine(VotedWater x, String what, String line) {
        String[] words = line.trim().split(" +");
        int times = 1;
        if (words.length > 2 && words[1].equals("times")) {
            times = Integer.parseInt(words[0]);
            words = Arrays.copyOfRange(words, 2, words.length);
        }
        if (words[0].equals("type")) {
            type(x, words[1]);
            return;
        }
        int sign = Arrays.asList(words).indexOf("=");
        long[] args = new long[sign - 1];
        for (int i = 0; i < args.length; i++) {
            args[i] = Long.decode(words[1 + i]);
        }
        int due = due(words[sign + 1]);
        for (int i = 0; i < times; i++) {
            expect(what + ": " + line, Face.call(x, words[0], args), due);
        }
    }

    private static int due(String word) {
        int k = Arrays.asList(ERRORS).indexOf(word);
        return k < 0 ? Integer.parseInt(word) : -1000001 - k;
    }

    static void type(VotedWater x, String text) {
        for (char c : text.toCharArray()) {
            x.feed(c, 1);
        }
    }

    static void expect(String what, long got, long due) {
        if (got == due) {
            right++;
        } else {
            wrong++;
            System.out.println(what + " answered " + got + ", due is " + due);
        }
    }

    static void end() {
        System.out.println(right + " answers are as due, " + wrong + " are not");
        if (wrong > 0) {
            System.exit(1);
        }
    }
}
