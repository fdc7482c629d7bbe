import java.util.Arrays;

/**
 * Runs of calls on one new object, each written as a line "name argument .. = what is due". An ERROR is due by its
 * name. "type TEXT" feeds a TEXT, byte by byte; "12 times call .. = due" wants the same answer each time, "= 3.."
 * one that is 1 more each time, "= ANY" any that is no ERROR. Of DOOR 0: "vote TEXT = v" and "pain TEXT = v" want its
 * VOTE, its PAIN by that TEXT; "fault USE TEXT = p" wants a FAULT there.
 */
final class Script {
    private static final String[] ERRORS = {"BEYOND", "NONE", "STATE", "FULL", "KIND", "PARTED"};

    private static int right;
    private static int wrong;

    private Script() {
    }

    static void run(String what, String... lines) {
        VotedWater x = new VotedWater();
        for (String line : lines) {
            try {
                callLine(x, what, line);
            } catch (RuntimeException | StackOverflowError thrown) {
                wrong++;
                System.out.println(what + ": " + line + " threw " + thrown);
            }
        }
    }

    private static void callLine(VotedWater x, String what, String line) {
        String[] words = line.trim().split(" +");
        int times = 1;
        if (words.length > 2 && words[1].equals("times")) {
            times = Integer.parseInt(words[0]);
            words = Arrays.copyOfRange(words, 2, words.length);
        }
        switch (words[0]) {
            case "type": type(x, words[1]); return;
            case "vote": tellText(x, what, line, 0); return;
            case "pain": tellText(x, what, line, 1); return;
            case "fault": refuseText(x, what, line); return;
            default: callOften(x, what, line, times, words);
        }
    }

    /** A TEXT may have any sign but a blank, also " = "'s. */
    private static void tellText(VotedWater x, String what, String line, int use) {
        String[] words = line.split(" ");
        type(x, words[1]);
        expect(what + ": " + line + ", text(" + use + ")", x.text(use), 1);
        expect(what + ": " + line, x.doorIs(0, use == 0 ? 8 : 9), Integer.parseInt(words[3]));
    }

    private static void refuseText(VotedWater x, String what, String line) {
        String[] words = line.split(" ");
        type(x, words[2]);
        expect(what + ": " + line, x.text(Integer.parseInt(words[1])), -10 - Integer.parseInt(words[4]));
    }

    private static void callOften(VotedWater x, String what, String line, int times, String[] words) {
        int sign = Arrays.asList(words).indexOf("=");
        long[] args = new long[sign - 1];
        for (int i = 0; i < args.length; i++) {
            args[i] = Long.decode(words[1 + i]);
        }
        String due = words[sign + 1];
        for (int i = 0; i < times; i++) {
            int got = Face.call(x, words[0], args);
            int wrongAhead = wrong;
            expect(what + ": " + line, got, due(due, i, got));
            if (wrong > wrongAhead) {
                return;
            }
        }
    }

    private static int due(String word, int time, int got) {
        if (word.equals("ANY")) {
            return Math.max(got, -1000000);
        }
        if (word.endsWith("..")) {
            return Integer.parseInt(word.substring(0, word.length() - 2)) + time;
        }
        int k = Arrays.asList(ERRORS).indexOf(word);
        return k < 0 ? Integer.parseInt(word) : -1000001 - k;
    }

    static void type(VotedWater x, String text) {
        for (char c : text.toCharArray()) {
            x.feed(c, 1);
        }
    }

    static void expect(String what, long got, long due) {
        if (got == due) {
            right++;
        } else {
            wrong++;
            System.out.println(what + " answered " + got + ", due is " + due);
        }
    }

    static int wrongSoFar() {
        return wrong;
    }

    static void end() {
        System.out.println(right + " answers are as due, " + wrong + " are not");
        if (wrong > 0) {
            System.exit(1);
        }
    }
}
