/** Each boundary that Promise 1 to Promise 37 name, by a test of its own; what is due was worked out by hand. */
public final class PromisesBoundsTest {
    private static final String LEAST = "-2147483648";
    private static final String MOST = "2147483647";

    private PromisesBoundsTest() {
    }

    public static void main(String[] args) {
        tests();
        Bound.end("Promise");
    }

    static void tests() {
        newObject();
        basins();
        doors();
        rain();
        texts();
        hours();
        ahead();
        rows();
        plans();
        buysAndComes();
        voices();
        sheets();
        moves();
        votesAndRecords();
        images();
        waiting();
        counts();
    }

    private static void newObject() {
        Bound.test("Promise 1", "All as at first; no BASINS, DOORS.",
            "count 0 = 0", "count 1 = 0", "count 2 = 0", "count 3 = 0", "count 4 = 0", "count 5 = 0", "count 6 = 0",
            "count 7 = 0", "count 8 = 0", "count 9 = 1", "told 1 = 0", "told 2 = 0", "told 3 = 0", "told 4 = 0",
            "told 5 = 0", "told 6 = 0", "check = 0", "untell 0 = 0", "untell 1 = 0", "restore = NONE", "body 0 = NONE");
        // No act falls over a town without BASINS.
        Bound.test("Promise 1", "All as at first; no BASINS, DOORS.",
            "basinIs 0 0 = BEYOND", "setBasin 0 1 0 = BEYOND", "door 0 0 0 = BEYOND", "doorIs 0 0 = BEYOND",
            "as 0 0 = BEYOND", "setDoor 0 0 0 = BEYOND", "then 0 0 0 = BEYOND", "thenDoor 0 0 0 = BEYOND",
            "moves 0 0 = BEYOND", "best 0 1 0 = BEYOND", "storm 0 1 0 = BEYOND", "changes 1 = 0", "changes 12 = 0",
            "buys 0 1 = BEYOND", "comes 0 0 0 = BEYOND", "voice 0 0 0 = BEYOND", "off 0 0 = BEYOND",
            "rained 0 0 = BEYOND", "votes 0 = NONE", "put 0 0 0 = NONE", "move 0 0 0 0 0 = NONE", "sheet 0 8 1 = 1",
            "votes 0 = 0", "off 0 0 = BEYOND", "hours 48 = 0", "wet 48 = 0", "count 2 = 96", "count 4 = 0", "image = 1",
            "restore = 96", "told 1 = 17", "told 2 = 3");
    }

    private static void basins() {
        Bound.test("Promise 2", "BEYOND.",
            "basin 0 = BEYOND", "basin 1 = 0", "basin 20 = 1", "basin 21 = BEYOND", "basin -1 = BEYOND",
            "basin " + LEAST + " = BEYOND", "basin " + MOST + " = BEYOND", "count 0 = 2", "told 1 = 5");
        Bound.test("Promise 2", "FULL.",
            "5 times basin 3 = 0..", "basin 3 = 5", "basin 3 = FULL", "basin 0 = BEYOND", "count 0 = 6",
            "count 4 = 180", "told 4 = 1", "told 1 = 1");
        Bound.test("Promise 3", "BEYOND.",
            "basinIs 0 0 = BEYOND", "basin 4 = 0", "basinIs 0 0 = 10", "basinIs 0 8 = 0", "basinIs 0 9 = BEYOND",
            "basinIs 0 -1 = BEYOND", "basinIs 1 0 = BEYOND", "basinIs -1 0 = BEYOND", "5 times basin 2 = 1..",
            "basinIs 5 2 = 2", "basinIs 6 2 = BEYOND", "basinIs " + MOST + " 0 = BEYOND",
            "basinIs " + LEAST + " 0 = BEYOND", "basinIs 0 " + MOST + " = BEYOND", "basinIs 0 " + LEAST + " = BEYOND",
            "told 1 = 10");
        Bound.test("Promise 4", "BEYOND.",
            "setBasin 0 1 0 = BEYOND", "basin 1 = 0", "setBasin 1 1 0 = BEYOND", "setBasin -1 1 0 = BEYOND",
            "setBasin 0 0 0 = BEYOND", "setBasin 0 2 1 = BEYOND", "setBasin 0 8 0 = BEYOND", "setBasin 0 -1 0 = BEYOND",
            "setBasin 0 1 0 = 10", "setBasin 0 1 99999 = 0", "setBasin 0 1 100000 = BEYOND", "setBasin 0 1 -1 = BEYOND",
            "setBasin 0 3 0 = 20", "setBasin 0 3 99 = 0", "setBasin 0 3 100 = BEYOND", "setBasin 0 3 -1 = BEYOND",
            "setBasin 0 4 0 = 2", "setBasin 0 4 9 = 0", "setBasin 0 4 10 = BEYOND", "setBasin 0 4 -1 = BEYOND",
            "setBasin 0 5 0 = 100", "setBasin 0 5 999 = 0", "setBasin 0 5 1000 = BEYOND", "setBasin 0 5 -1 = BEYOND",
            "setBasin 0 6 1 = 0", "setBasin 0 6 0 = 1", "setBasin 0 6 2 = BEYOND", "setBasin 0 6 -1 = BEYOND",
            "setBasin 0 7 0 = 50", "setBasin 0 7 99 = 0", "setBasin 0 7 100 = BEYOND", "setBasin 0 7 -1 = BEYOND",
            "setBasin 0 1 " + LEAST + " = BEYOND", "setBasin 0 1 " + MOST + " = BEYOND",
            "setBasin 0 " + MOST + " 0 = BEYOND", "told 1 = 22");
    }

    private static void doors() {
        Bound.test("Promise 5", "BEYOND.",
            "door 0 0 0 = BEYOND", "basin 1 = 0", "door 0 0 0 = 0", "door 69 0 99 = 1", "door 70 0 0 = BEYOND",
            "door -1 0 0 = BEYOND", "door 0 1 0 = BEYOND", "door 0 -1 0 = BEYOND", "door 0 0 -1 = BEYOND",
            "door 0 0 100 = BEYOND", "door " + MOST + " 0 0 = BEYOND", "door " + LEAST + " 0 0 = BEYOND",
            "door 0 0 " + MOST + " = BEYOND", "count 1 = 2", "told 1 = 10");
        Bound.test("Promise 5", "FULL.",
            "basin 1 = 0", "11 times door 0 0 5 = 0..", "door 39 0 5 = 11", "door 0 0 5 = FULL", "door 70 0 5 = BEYOND",
            "door 0 1 5 = BEYOND", "count 1 = 12", "doorIs 11 0 = 3", "told 4 = 1", "told 1 = 2");
        Bound.test("Promise 6", "BEYOND.",
            "doorIs 0 0 = BEYOND", "basin 1 = 0", "doorIs 0 0 = BEYOND", "door 25 0 7 = 0", "doorIs 0 0 = 2",
            "doorIs 0 9 = 0", "doorIs 0 10 = BEYOND", "doorIs 0 -1 = BEYOND", "doorIs 1 0 = BEYOND",
            "doorIs -1 0 = BEYOND", "11 times door 0 0 5 = 1..", "doorIs 11 3 = 5", "doorIs 12 3 = BEYOND",
            "doorIs " + MOST + " 0 = BEYOND", "doorIs 0 " + LEAST + " = BEYOND", "told 1 = 9");
        Bound.test("Promise 7", "BEYOND.",
            "as 0 0 = BEYOND", "basin 1 = 0", "door 60 0 7 = 0", "as 0 0 = 7", "as 0 6 = 7", "as 0 7 = BEYOND",
            "as 0 -1 = BEYOND", "as 1 0 = BEYOND", "as -1 0 = BEYOND", "as 0 " + MOST + " = BEYOND", "told 1 = 6");
        Bound.test("Promise 7", "KIND: it is not of that KIND, nor of one under it.",
            "basin 1 = 0", "door 0 0 40 = 0", "door 10 0 41 = 1", "door 20 0 42 = 2", "door 30 0 43 = 3",
            "door 50 0 45 = 4", "as 0 0 = 40", "as 0 1 = KIND", "as 0 2 = KIND", "as 0 3 = KIND", "as 0 4 = KIND",
            "as 0 5 = KIND", "as 0 6 = KIND", "as 1 1 = 41", "as 1 5 = KIND", "as 2 2 = 42", "as 2 3 = KIND",
            "as 3 3 = 43", "as 3 2 = 43", "as 3 0 = 43", "as 3 1 = KIND", "as 4 5 = 45", "as 4 1 = 45", "as 4 0 = 45",
            "as 4 2 = KIND", "as 4 6 = KIND", "told 5 = 11");
        Bound.test("Promise 8", "BEYOND.",
            "setDoor 0 0 0 = BEYOND", "basin 1 = 0", "door 0 0 5 = 0", "setDoor 1 0 0 = BEYOND",
            "setDoor -1 0 0 = BEYOND", "setDoor 0 0 6 = 0", "setDoor 0 0 7 = BEYOND", "setDoor 0 0 -1 = BEYOND",
            "setDoor 0 1 9 = 0", "setDoor 0 1 10 = BEYOND", "setDoor 0 1 -1 = BEYOND", "setDoor 0 2 0 = BEYOND",
            "setDoor 0 3 99 = 5", "setDoor 0 3 100 = BEYOND", "setDoor 0 3 0 = 99", "setDoor 0 3 -1 = BEYOND",
            "setDoor 0 4 -1 = 2", "setDoor 0 4 -2 = BEYOND", "setDoor 0 4 2 = -1", "setDoor 0 4 3 = BEYOND",
            "setDoor 0 5 1 = 0", "setDoor 0 5 2 = BEYOND", "setDoor 0 5 -1 = BEYOND", "setDoor 0 6 0 = BEYOND",
            "setDoor 0 7 0 = BEYOND", "setDoor 0 8 0 = BEYOND", "setDoor 0 9 0 = BEYOND", "setDoor 0 -1 0 = BEYOND",
            "setDoor 0 1 " + LEAST + " = BEYOND", "setDoor 0 1 " + MOST + " = BEYOND", "told 1 = 21");
    }

    private static void rain() {
        Bound.test("Promise 9", "BEYOND.",
            "rain 9 = 0", "rain 10 = BEYOND", "rain 0 = 9", "rain -1 = BEYOND", "rain " + MOST + " = BEYOND",
            "rain " + LEAST + " = BEYOND", "count 3 = 0", "told 1 = 4");
    }

    private static void texts() {
        Bound.test("Promise 10", "The n lowest bytes (1 .. 8) of a word, the lowest first, come to THE TAPE",
            "feed 0x7878787878787831 1 = 1", "text 0 = 1", "feed 0x7878783333332b31 5 = 5", "text 0 = 1",
            "feed 0x2b31000000000000 8 = 8", "text 0 = -10", "feed 0x312b312b312b312b 7 = 7", "text 0 = -10",
            "feed 0x312b312b312b3131 8 = 8", "text 0 = 1", "feed 0x2b312b312b312b31 8 = 8", "text 0 = -18",
            "feed -5678710164959450319 8 = 8", "text 0 = -17", "feed -5678710164959450319 7 = 7", "text 0 = 1");
        Bound.test("Promise 10", "how many there are. BEYOND.",
            "feed 1 0 = BEYOND", "feed 1 9 = BEYOND", "feed 1 -1 = BEYOND", "feed 1 " + MOST + " = BEYOND",
            "feed 1 " + LEAST + " = BEYOND", "count 6 = 0", "feed 1 1 = 1", "feed 1 8 = 9", "told 1 = 5");
        // 60 is how many may be there: 53 and 8 are too many, and none of the 8 comes.
        Bound.test("Promise 10", "FULL.",
            "6 times feed 0 8 = ANY", "feed 0 5 = 53", "feed 0 8 = FULL", "count 6 = 53", "feed 0 7 = 60",
            "feed 0 1 = FULL", "feed 0 9 = BEYOND", "count 6 = 60", "told 4 = 2", "told 1 = 1");
        Bound.test("Promise 11", "THE TAPE, which is empty then, is the TEXT of a USE (0, 1), in place of one ahead: "
            + "1.",
            "basin 1 = 0", "door 60 0 5 = 0", "type 7 = 0", "count 6 = 1", "text 1 = 1", "count 6 = 0",
            "doorIs 0 9 = 7", "type 8 = 0", "text 1 = 1", "doorIs 0 9 = 8", "type 1 = 0", "text 0 = 1",
            "doorIs 0 8 = 1", "doorIs 0 9 = 8", "text 0 = -10", "doorIs 0 8 = 1");
        Bound.test("Promise 11", "BEYOND (THE TAPE stays).",
            "type 7 = 0", "text 2 = BEYOND", "text -1 = BEYOND", "text " + MOST + " = BEYOND",
            "text " + LEAST + " = BEYOND", "count 6 = 1", "told 1 = 4", "basin 1 = 0", "door 0 0 5 = 0", "text 1 = 1",
            "doorIs 0 9 = 7");
        Bound.test("Promise 11", "-10 less the FAULT (no ERROR; the one ahead stays; THE TAPE is empty, too).",
            "basin 1 = 0", "door 60 0 5 = 0", "pain 7 = 7", "vote 1 = 1", "type +1 = 0", "text 1 = -10", "count 6 = 0",
            "type 8+ = 0", "text 1 = -12", "count 6 = 0", "doorIs 0 9 = 7", "type 0*(l-1 = 0", "text 0 = -16",
            "doorIs 0 8 = 1", "type " + "1+".repeat(30) + " = 0", "text 0 = -70", "count 6 = 0", "untell 0 = 1",
            "told 1 = 0", "told 2 = 0", "told 3 = 0", "told 4 = 0");
        Bound.test("Promise 12", "There is no TEXT of a USE any more: 1 if there was, else 0. BEYOND.",
            "untell 0 = 0", "type 1 = 0", "text 0 = 1", "untell 1 = 0", "untell 0 = 1", "untell 0 = 0", "type 1 = 0",
            "text 1 = 1", "untell 0 = 0", "untell 2 = BEYOND", "untell -1 = BEYOND", "untell " + MOST + " = BEYOND",
            "untell 1 = 1", "untell 1 = 0", "told 1 = 3");
    }

    private static void hours() {
        Bound.test("Promise 13", "n (1 .. 48) HOURS go by: PAINS. BEYOND.",
            "basin 1 = 0", "door 0 0 9 = 0", "hours 0 = BEYOND", "hours -1 = BEYOND", "hours 49 = BEYOND",
            "hours " + MOST + " = BEYOND", "hours " + LEAST + " = BEYOND", "count 2 = 0", "hours 1 = 3", "count 2 = 1",
            "hours 48 = 147", "count 2 = 49", "told 1 = 5");
        Bound.test("Promise 13", "STATE: HOURS would be above 9999.",
            "208 times hours 48 = 0", "hours 16 = STATE", "hours 48 = STATE", "hours 49 = BEYOND", "count 2 = 9984",
            "hours 15 = 0", "count 2 = 9999", "hours 1 = STATE", "hours 0 = BEYOND", "count 2 = 9999", "told 3 = 3",
            "told 1 = 2");
        Bound.test("Promise 14", "n (1 .. 48) WET HOURS: PAINS. BEYOND.",
            "basin 1 = 0", "door 0 0 9 = 0", "wet 0 = BEYOND", "wet -1 = BEYOND", "wet 49 = BEYOND",
            "wet " + MOST + " = BEYOND", "wet " + LEAST + " = BEYOND", "count 2 = 0", "count 9 = 1", "wet 1 = 3",
            "count 2 = 1", "count 9 = 1103527590", "wet 48 = 147", "count 2 = 49", "told 1 = 5");
        Bound.test("Promise 14", "STATE: likewise.",
            "208 times hours 48 = 0", "wet 16 = STATE", "wet 48 = STATE", "count 2 = 9984", "count 9 = 1",
            "wet 49 = BEYOND", "wet 15 = 0", "count 2 = 9999", "wet 1 = STATE", "wet 0 = BEYOND", "count 2 = 9999",
            "told 3 = 3", "told 1 = 2");
        Bound.test("Promise 15", "z becomes v: what it was (any number).",
            "seed -2147483648 = 1", "seed 2147483647 = -2147483648", "seed -1000001 = 2147483647", "seed 0 = -1000001",
            "seed 0 = 0", "seed -1000006 = 0", "count 9 = -1000006", "told 1 = 0", "told 6 = 0");
    }

    private static void ahead() {
        Bound.test("Promise 16", "AHEAD by n: of a BASIN what (0 .. 8) as in basinIs(). BEYOND.",
            "then 0 0 0 = BEYOND", "basin 1 = 0", "then 0 0 0 = 10", "then 0 0 8 = 0", "then 0 0 9 = BEYOND",
            "then 0 0 -1 = BEYOND", "then 48 0 0 = 10", "then 49 0 0 = BEYOND", "then -1 0 0 = BEYOND",
            "then 0 1 0 = BEYOND", "then 0 -1 0 = BEYOND", "then " + MOST + " 0 0 = BEYOND",
            "then " + LEAST + " 0 0 = BEYOND", "count 2 = 0", "told 1 = 9");
        Bound.test("Promise 17", "AHEAD by n: of a DOOR what (0 .. 9) as in doorIs(). BEYOND.",
            "thenDoor 0 0 0 = BEYOND", "basin 1 = 0", "thenDoor 0 0 0 = BEYOND", "door 25 0 5 = 0",
            "thenDoor 0 0 0 = 2", "thenDoor 0 0 9 = 0", "thenDoor 0 0 10 = BEYOND", "thenDoor 0 0 -1 = BEYOND",
            "thenDoor 48 0 6 = 48", "thenDoor 49 0 6 = BEYOND", "thenDoor -1 0 6 = BEYOND", "thenDoor 0 1 0 = BEYOND",
            "thenDoor 0 -1 0 = BEYOND", "thenDoor " + MOST + " 0 0 = BEYOND", "doorIs 0 6 = 0", "told 1 = 9");
    }

    private static void rows() {
        Bound.test("Promise 18", "BEYOND: also a ROW (0: none; else digits 1 .. 3, at most 6).",
            "moves 0 0 = BEYOND", "basin 1 = 0", "door 0 0 9 = 0", "moves 0 0 = 0", "moves 0 1 = 3", "moves 0 3 = 3",
            "moves 0 4 = BEYOND", "moves 0 9 = BEYOND", "moves 0 10 = BEYOND", "moves 0 20 = BEYOND",
            "moves 0 102 = BEYOND", "moves 0 42 = BEYOND", "moves 0 24 = BEYOND", "moves 0 111111 = 15",
            "moves 0 333333 = 18", "moves 0 333334 = BEYOND", "moves 0 1111111 = BEYOND", "moves 0 2222222 = BEYOND",
            "moves 0 1000000 = BEYOND", "moves 0 -1 = BEYOND", "moves 0 -111 = BEYOND", "moves 0 " + MOST + " = BEYOND",
            "moves 0 " + LEAST + " = BEYOND", "moves 1 1 = BEYOND", "moves -1 1 = BEYOND", "moves 1 0 = BEYOND",
            "doorIs 0 6 = 0", "count 2 = 0", "told 1 = 19");
    }

    private static void plans() {
        Bound.test("Promise 19", "BEYOND.",
            "best 0 1 0 = BEYOND", "basin 1 = 0", "best 0 0 0 = BEYOND", "best 0 1 0 = 1", "best 0 5 1 = 0",
            "best 0 6 1 = BEYOND", "best 0 -1 0 = BEYOND", "best 0 1 2 = BEYOND", "best 0 1 -1 = BEYOND",
            "best 1 1 0 = BEYOND", "best -1 1 0 = BEYOND", "best 0 " + MOST + " 0 = BEYOND", "count 2 = 0",
            "told 1 = 9");
        Bound.test("Promise 20", "BEYOND.",
            "storm 0 1 0 = BEYOND", "basin 1 = 0", "storm 0 0 0 = BEYOND", "storm 0 1 0 = 1", "storm 0 12 1 = 0",
            "storm 0 13 1 = BEYOND", "storm 0 -1 0 = BEYOND", "storm 0 1 2 = BEYOND", "storm 0 1 -1 = BEYOND",
            "storm 1 1 0 = BEYOND", "storm -1 1 0 = BEYOND", "storm 0 " + MOST + " 0 = BEYOND", "count 2 = 0",
            "count 3 = 0", "told 1 = 9");
        Bound.test("Promise 21", "BEYOND.",
            "changes 0 = BEYOND", "changes 1 = 0", "changes 12 = 0", "changes 13 = BEYOND", "changes -1 = BEYOND",
            "changes " + MOST + " = BEYOND", "changes " + LEAST + " = BEYOND", "count 2 = 0", "told 1 = 5");
    }

    private static void buysAndComes() {
        Bound.test("Promise 22", "BEYOND: way -1, 1.",
            "buys 0 1 = BEYOND", "basin 1 = 0", "door 0 0 5 = 0", "buys 0 1 = 1", "buys 0 -1 = 1", "buys 0 0 = BEYOND",
            "buys 0 2 = BEYOND", "buys 0 -2 = BEYOND", "buys 1 1 = BEYOND", "buys -1 1 = BEYOND",
            "buys 0 " + MOST + " = BEYOND", "buys 0 " + LEAST + " = BEYOND", "doorIs 0 4 = 2", "told 1 = 8");
        Bound.test("Promise 22", "NONE: all of them don't do.",
            "basin 1 = 0", "buys 0 1 = NONE", "buys 0 -1 = NONE", "basin 1 = 1", "door 0 1 5 = 0", "buys 0 1 = NONE",
            "buys 1 1 = 1", "door 20 0 50 = 1", "buys 0 1 = 0", "buys 0 -1 = 1", "setDoor 1 5 1 = 0", "buys 0 1 = NONE",
            "buys 0 -1 = NONE", "setDoor 1 4 1 = 2", "buys 0 1 = NONE", "setDoor 1 5 0 = 1", "buys 0 1 = 0",
            "told 2 = 6");
        Bound.test("Promise 23", "BEYOND.",
            "comes 0 0 0 = BEYOND", "basin 1 = 0", "comes 0 0 0 = 0", "comes 0 0 48 = 0", "comes 0 0 49 = BEYOND",
            "comes 0 0 -1 = BEYOND", "comes 0 1 1 = BEYOND", "comes 1 0 1 = BEYOND", "comes 0 -1 1 = BEYOND",
            "comes -1 0 1 = BEYOND", "comes 0 0 " + MOST + " = BEYOND", "comes " + MOST + " " + MOST + " 1 = BEYOND",
            "count 2 = 0", "told 1 = 9");
        Bound.test("Promise 23", "NONE.",
            "basin 1 = 0", "basin 1 = 1", "basin 1 = 2", "comes 0 1 0 = NONE", "comes 0 1 1 = 1", "comes 0 2 1 = NONE",
            "comes 0 2 2 = 2", "setBasin 0 7 0 = 50", "comes 0 1 48 = NONE", "comes 1 0 48 = NONE", "comes 1 2 48 = 1",
            "told 2 = 4");
    }

    private static void voices() {
        Bound.test("Promise 24", "BEYOND.",
            "voice 0 0 7 = BEYOND", "basin 1 = 0", "door 0 0 5 = 0", "door 0 0 5 = 1", "voice 1 0 7 = 8",
            "voice 1 3 7 = -7", "voice 1 4 7 = BEYOND", "voice 1 -1 7 = BEYOND", "voice 2 0 7 = BEYOND",
            "voice -1 0 7 = BEYOND", "voice " + MOST + " 0 7 = BEYOND", "voice 0 " + LEAST + " 7 = BEYOND",
            "voice 0 4 7 = BEYOND", "count 8 = 1", "body 0 = 13", "told 1 = 8", "told 6 = 0");
        Bound.test("Promise 24", "PARTED.",
            "basin 1 = 0", "door 0 0 5 = 0", "door 11 0 5 = 1", "door 22 0 5 = 2", "door 33 0 5 = 3", "door 44 0 5 = 4",
            "door 55 0 5 = 5", "door 66 0 5 = 6", "voice 0 3 7 = PARTED", "voice 1 3 7 = PARTED",
            "voice 2 3 7 = PARTED", "voice 3 3 7 = PARTED", "voice 4 3 7 = PARTED", "voice 5 3 7 = PARTED",
            "voice 6 3 7 = PARTED", "setDoor 3 1 4 = 3", "voice 3 3 7 = 7", "setDoor 3 1 2 = 4", "voice 3 3 7 = -7",
            "voice 0 0 7 = 7", "voice 0 2 7 = 14", "told 6 = 7", "told 1 = 0");
        // -1000006 may be what a VOICE answers; it is no ERROR then.
        Bound.test("Promise 24", "PARTED.",
            "basin 1 = 0", "door 0 0 5 = 0", "voice 0 0 -1000006 = -1000006", "told 6 = 0", "count 8 = 1");
        Bound.test("Promise 25", "NONE: there is none such.",
            "body 0 = NONE", "body -1 = NONE", "basin 1 = 0", "door 0 0 5 = 0", "voice 0 2 7 = 14", "body 0 = 12",
            "body 1 = 11", "body 2 = 10", "body 3 = NONE", "body -1 = NONE", "body " + MOST + " = NONE",
            "body " + LEAST + " = NONE", "voice 0 0 7 = 7", "body 0 = 10", "body 1 = NONE", "body 2 = NONE",
            "told 2 = 8");
    }

    private static void sheets() {
        Bound.test("Promise 26", "(8, 16, 32; 0: it is missing, n doesn't matter)",
            "sheet 0 0 1 = 1", "put 0 0 1 = NONE", "sheet 0 8 1 = 1", "put 0 0 1 = 1", "sheet 0 0 -1 = 1",
            "put 0 0 1 = NONE", "sheet 0 16 1 = 1", "put 0 0 1 = 1", "sheet 0 0 25 = 1", "put 0 0 1 = NONE",
            "sheet 0 32 1 = 1", "put 0 0 1 = 1", "sheet 0 0 " + LEAST + " = 1", "put 0 0 1 = NONE",
            "sheet 0 0 " + MOST + " = 1", "votes 0 = NONE", "told 1 = 0", "told 3 = 0", "told 2 = 5");
        Bound.test("Promise 26", "A SHEET has n numbers, all 0",
            "basin 1 = 0", "door 0 0 5 = 0", "door 0 0 5 = 1", "sheet 0 8 0 = 1", "put 0 0 1 = BEYOND", "votes 0 = 0",
            "sheet 0 8 1 = 1", "put 0 0 7 = 1", "put 0 1 7 = BEYOND", "votes 0 = 0", "sheet 0 8 2 = 1", "votes 0 = 2",
            "doorIs 0 4 = 0", "sheet 0 8 24 = 1", "put 0 23 7 = 1", "put 0 24 7 = BEYOND");
        Bound.test("Promise 26", "BEYOND.",
            "sheet 4 8 1 = BEYOND", "sheet -1 8 1 = BEYOND", "sheet 0 7 1 = BEYOND", "sheet 0 1 1 = BEYOND",
            "sheet 0 -8 1 = BEYOND", "sheet 0 64 1 = BEYOND", "sheet 0 24 1 = BEYOND", "sheet 0 8 25 = BEYOND",
            "sheet 0 32 " + MOST + " = BEYOND", "sheet 4 0 1 = BEYOND", "put 0 0 0 = NONE", "sheet 3 32 24 = 1",
            "told 1 = 10", "told 3 = 0");
        Bound.test("Promise 26", "STATE: n is below 0 (ahead of BEYOND of n).",
            "sheet 0 8 -1 = STATE", "sheet 0 8 " + LEAST + " = STATE", "sheet 0 16 -1 = STATE", "sheet 0 32 -1 = STATE",
            "sheet 0 8 0 = 1", "sheet 4 8 -1 = BEYOND", "sheet 0 9 -1 = BEYOND", "sheet 0 0 -1 = 1", "told 3 = 4",
            "told 1 = 2");
        // LEVEL stays 10: OFF tells what the number is.
        Bound.test("Promise 27", "becomes v (its lowest bits): 1.",
            "basin 1 = 0", "sheet 0 8 1 = 1", "put 0 0 127 = 1", "off 0 0 = 117", "put 0 0 128 = 1", "off 0 0 = 138",
            "put 0 0 255 = 1", "off 0 0 = 11", "put 0 0 256 = 1", "off 0 0 = 10", "put 0 0 266 = 1", "off 0 0 = 0",
            "put 0 0 -128 = 1", "off 0 0 = 138", "put 0 0 -129 = 1", "off 0 0 = 117", "put 0 0 " + LEAST + " = 1",
            "off 0 0 = 10", "put 0 0 " + MOST + " = 1", "off 0 0 = 11");
        Bound.test("Promise 27", "becomes v (its lowest bits): 1.",
            "basin 1 = 0", "setBasin 0 1 32766 = 10", "setBasin 0 5 0 = 100", "sheet 0 16 1 = 1", "put 0 0 32767 = 1",
            "off 0 0 = 1", "put 0 0 98303 = 1", "off 0 0 = 1", "put 0 0 -32769 = 1", "off 0 0 = 1", "put 0 0 32768 = 1",
            "off 0 0 = 1000", "setBasin 0 1 0 = 32766", "put 0 0 65535 = 1", "off 0 0 = 1", "put 0 0 65536 = 1",
            "off 0 0 = 0", "sheet 1 32 1 = 1", "put 1 0 65536 = 1", "off 0 1 = 1000", "put 1 0 -1 = 1", "off 0 1 = 1",
            "setBasin 0 1 65535 = 0", "put 1 0 65536 = 1", "off 0 1 = 1", "put 1 0 " + LEAST + " = 1",
            "off 0 1 = 1000");
        Bound.test("Promise 27", "BEYOND: no such SHEET.",
            "put 4 0 0 = BEYOND", "put -1 0 0 = BEYOND", "put " + MOST + " 0 0 = BEYOND",
            "put " + LEAST + " 0 0 = BEYOND", "put 3 0 0 = NONE", "told 1 = 4", "told 2 = 1");
        Bound.test("Promise 27", "NONE: it is missing.",
            "put 0 0 0 = NONE", "put 0 24 0 = NONE", "put 0 -1 0 = NONE", "sheet 0 8 0 = 1", "put 0 0 0 = BEYOND",
            "sheet 0 0 0 = 1", "put 0 0 0 = NONE", "told 2 = 4", "told 1 = 1");
        Bound.test("Promise 27", "BEYOND: no such number.",
            "sheet 0 8 3 = 1", "put 0 2 0 = 1", "put 0 3 0 = BEYOND", "put 0 -1 0 = BEYOND", "put 0 23 0 = BEYOND",
            "put 0 " + MOST + " 0 = BEYOND", "put 0 " + LEAST + " 0 = BEYOND", "sheet 0 8 2 = 1", "put 0 2 0 = BEYOND",
            "put 0 1 0 = 1", "told 1 = 6", "told 2 = 0");
    }

    private static void moves() {
        Bound.test("Promise 28", "BEYOND: no such SHEET.",
            "sheet 0 8 1 = 1", "move 4 0 0 0 1 = BEYOND", "move 0 0 4 0 1 = BEYOND", "move -1 0 0 0 1 = BEYOND",
            "move 0 0 -1 0 1 = BEYOND", "move 1 0 4 0 1 = BEYOND", "move 4 0 1 0 1 = BEYOND",
            "move " + MOST + " 0 0 0 0 = BEYOND", "move 0 0 0 0 1 = 1", "told 1 = 7", "told 2 = 0");
        Bound.test("Promise 28", "NONE: one is missing.",
            "move 0 0 0 0 0 = NONE", "sheet 0 8 1 = 1", "move 0 0 1 0 1 = NONE", "move 1 0 0 0 1 = NONE",
            "move 0 0 0 0 1 = 1", "move 1 -1 0 -1 -1 = NONE", "sheet 1 16 1 = 1", "sheet 0 0 0 = 1",
            "move 0 0 1 0 1 = NONE", "told 2 = 5", "told 1 = 0", "told 5 = 0");
        Bound.test("Promise 28", "KIND: they are of unlike bits.",
            "sheet 0 8 1 = 1", "sheet 1 16 1 = 1", "sheet 2 32 1 = 1", "sheet 3 8 1 = 1", "move 0 0 1 0 1 = KIND",
            "move 1 0 2 0 1 = KIND", "move 2 0 0 0 1 = KIND", "move 0 0 1 0 0 = KIND", "move 0 -1 1 9 -1 = KIND",
            "move 0 0 3 0 1 = 1", "move 2 0 2 0 1 = 1", "told 5 = 5", "told 1 = 0");
        Bound.test("Promise 28", "BEYOND: n, i, or j is below 0, or they don't stand there.",
            "sheet 0 8 4 = 1", "sheet 1 8 2 = 1", "move 0 0 1 0 2 = 2", "move 0 2 1 0 2 = 2", "move 0 3 1 0 2 = BEYOND",
            "move 0 0 1 1 1 = 1", "move 0 0 1 1 2 = BEYOND", "move 0 0 1 0 3 = BEYOND", "move 1 0 0 0 3 = BEYOND",
            "move 0 0 1 0 -1 = BEYOND", "move 0 -1 1 0 1 = BEYOND", "move 0 0 1 -1 1 = BEYOND", "move 0 4 1 2 0 = 0",
            "move 0 5 1 2 0 = BEYOND", "move 0 4 1 3 0 = BEYOND", "move 0 -1 1 0 0 = BEYOND",
            "move 0 0 1 -1 0 = BEYOND", "move 0 1 1 0 " + MOST + " = BEYOND", "move 0 " + MOST + " 1 0 1 = BEYOND",
            "move 0 0 1 " + MOST + " 1 = BEYOND", "move 0 " + MOST + " 1 " + MOST + " " + MOST + " = BEYOND",
            "move 0 0 1 0 " + LEAST + " = BEYOND", "move 0 " + LEAST + " 1 0 1 = BEYOND", "told 1 = 17");
        // 1, 2, 0, 2 as VOTES tell what stands where, also when rows overlap.
        Bound.test("Promise 28", "as they all were: n.",
            "basin 1 = 0", "4 times door 0 0 5 = 0..", "sheet 0 8 4 = 1", "put 0 0 1 = 1", "put 0 1 2 = 1",
            "put 0 2 -1 = 1", "put 0 3 0 = 1", "move 0 0 0 1 3 = 3", "votes 0 = 4", "doorIs 0 4 = 1", "doorIs 1 4 = 1",
            "doorIs 2 4 = 2", "doorIs 3 4 = -1", "move 0 1 0 0 3 = 3", "votes 0 = 4", "doorIs 0 4 = 1",
            "doorIs 1 4 = 2", "doorIs 2 4 = -1", "doorIs 3 4 = -1", "move 0 0 0 0 4 = 4", "move 0 3 0 0 0 = 0",
            "votes 0 = 4", "doorIs 0 4 = 1", "doorIs 3 4 = -1");
    }

    private static void votesAndRecords() {
        Bound.test("Promise 29", "are BOUGHT VOTES of DOORS 0, 1, .. (-1 .. 2): how many came, up to the first that "
            + "is none, or till DOORS end.",
            "sheet 0 8 24 = 1", "votes 0 = 0", "basin 1 = 0", "votes 0 = 0", "door 0 0 5 = 0", "door 0 0 5 = 1",
            "put 0 0 -1 = 1", "put 0 1 2 = 1", "votes 0 = 2", "doorIs 0 4 = -1", "doorIs 1 4 = 2", "put 0 0 2 = 1",
            "put 0 1 3 = 1", "votes 0 = 1", "doorIs 0 4 = 2", "doorIs 1 4 = 2", "put 0 1 -2 = 1", "put 0 0 1 = 1",
            "votes 0 = 1", "doorIs 0 4 = 1", "doorIs 1 4 = 2", "put 0 0 3 = 1", "put 0 1 0 = 1", "votes 0 = 0",
            "doorIs 0 4 = 1", "doorIs 1 4 = 2", "sheet 1 8 1 = 1", "votes 1 = 1", "doorIs 0 4 = 0", "doorIs 1 4 = 2",
            "sheet 1 8 0 = 1", "votes 1 = 0", "sheet 0 32 24 = 1", "10 times door 0 0 5 = 2..", "votes 0 = 12",
            "doorIs 11 4 = 0");
        Bound.test("Promise 29", "BEYOND. NONE.",
            "votes 4 = BEYOND", "votes -1 = BEYOND", "votes " + MOST + " = BEYOND", "votes 0 = NONE", "votes 3 = NONE",
            "sheet 3 8 1 = 1", "votes 3 = 0", "sheet 3 0 1 = 1", "votes 3 = NONE", "told 1 = 3", "told 2 = 3");
        Bound.test("Promise 30", "BEYOND: BASIN, SHEET.",
            "sheet 0 8 1 = 1", "off 0 0 = BEYOND", "basin 1 = 0", "off 0 0 = 10", "off 1 0 = BEYOND",
            "off -1 0 = BEYOND", "off 0 4 = BEYOND", "off 0 -1 = BEYOND", "off 1 1 = BEYOND",
            "off " + MOST + " 0 = BEYOND", "off 0 " + LEAST + " = BEYOND", "count 2 = 0", "told 1 = 8", "told 2 = 0");
        Bound.test("Promise 30", "NONE.",
            "basin 1 = 0", "off 0 0 = NONE", "off 0 3 = NONE", "sheet 3 8 0 = 1", "off 0 3 = 0", "sheet 3 0 0 = 1",
            "off 0 3 = NONE", "told 2 = 3", "told 1 = 0");
        Bound.test("Promise 31", "BEYOND: likewise.",
            "sheet 0 8 1 = 1", "rained 0 0 = BEYOND", "basin 1 = 0", "rained 0 0 = 0", "rained 1 0 = BEYOND",
            "rained -1 0 = BEYOND", "rained 0 4 = BEYOND", "rained 0 -1 = BEYOND", "rained 1 1 = BEYOND",
            "rained " + MOST + " 0 = BEYOND", "rained 0 " + LEAST + " = BEYOND", "count 2 = 0", "count 3 = 0",
            "told 1 = 8", "told 2 = 0");
        Bound.test("Promise 31", "NONE.",
            "basin 1 = 0", "rained 0 0 = NONE", "rained 0 3 = NONE", "sheet 3 8 0 = 1", "rained 0 3 = 0",
            "sheet 3 0 0 = 1", "rained 0 3 = NONE", "told 2 = 3", "told 1 = 0");
    }

    private static void images() {
        Bound.test("Promise 32", "is kept as an IMAGE, in place of one ahead: how often that was done.",
            "image = 1", "basin 1 = 0", "image = 2", "hours 5 = 0", "restore = 0", "count 0 = 1", "hours 7 = 0",
            "image = 3", "restore = 7", "restore = 7", "image = 4", "200 times image = 5..", "image = 205");
        Bound.test("Promise 32", "All (but SHEETS, THE TRACE, what told() tells, and how often this was done)",
            "basin 1 = 0", "door 0 0 5 = 0", "image = 1", "sheet 0 8 1 = 1", "voice 0 1 7 = 14", "rain 10 = BEYOND",
            "image = 2", "basin 1 = 1", "sheet 0 0 0 = 1", "sheet 1 8 1 = 1", "voice 0 0 7 = 7", "told 9 = BEYOND",
            "restore = 0", "count 0 = 1", "put 0 0 0 = NONE", "put 1 0 0 = 1", "count 8 = 1", "body 0 = 10",
            "told 1 = 2", "image = 3");
        // All that there is, at its most.
        Bound.test("Promise 32", "All (but SHEETS, THE TRACE, what told() tells, and how often this was done)",
            "6 times basin 20 = 0..", "12 times door 69 5 99 = 0..", "7 times feed 0x3131313131313131 8 = ANY",
            "feed 0x31313131 4 = 60", "24 times tell 1 = 1..", "rain 9 = 0", "seed -5 = 1", "image = 1", "text 0 = -14",
            "check = 13", "rain 0 = 9", "seed 6 = -5", "hours 9 = ANY", "restore = 0", "count 0 = 6", "count 1 = 12",
            "count 2 = 0", "count 3 = 9", "count 4 = 1200", "count 5 = 0", "count 6 = 60", "count 7 = 24",
            "count 9 = -5", "basin 1 = FULL", "door 0 0 0 = FULL", "feed 0 1 = FULL", "tell 0 = FULL",
            "doorIs 11 7 = 0");
        Bound.test("Promise 33", "All is as the IMAGE has it, which stays: HOURS so far.",
            "208 times hours 48 = 0", "hours 15 = 0", "image = 1", "hours 1 = STATE", "restore = 9999",
            "hours 1 = STATE", "restore = 9999", "count 2 = 9999");
        Bound.test("Promise 33", "All is as the IMAGE has it, which stays: HOURS so far.",
            "image = 1", "basin 20 = 0", "door 0 0 5 = 0", "hours 3 = 9", "type 1 = 0", "text 0 = 1", "tell 4 = 1",
            "feed 1 1 = 1", "seed 3 = 1", "restore = 0", "count 0 = 0", "count 1 = 0", "count 2 = 0", "count 4 = 0",
            "count 6 = 0", "count 7 = 0", "count 9 = 1", "untell 0 = 0", "basinIs 0 0 = BEYOND", "doorIs 0 0 = BEYOND",
            "basin 2 = 0", "basinIs 0 1 = 20", "restore = 0", "count 0 = 0");
        Bound.test("Promise 33", "NONE: there is none.",
            "restore = NONE", "basin 1 = 0", "restore = NONE", "count 0 = 1", "image = 1", "restore = 0", "restore = 0",
            "told 2 = 2");
    }

    private static void waiting() {
        Bound.test("Promise 34", "One more number waits: how many.",
            "count 7 = 0", "tell " + LEAST + " = 1", "tell " + MOST + " = 2", "tell 0 = 3", "count 7 = 3", "check = 1",
            "count 7 = 0", "tell 5 = 1");
        Bound.test("Promise 34", "FULL: 24 wait.",
            "23 times tell 0 = 1..", "tell 0 = 24", "tell 0 = FULL", "tell 0 = FULL", "count 7 = 24", "check = 1",
            "count 7 = 0", "tell 0 = 1", "told 4 = 2");
        Bound.test("Promise 35", "The numbers that wait (none do then) are VOTES of DOORS 0, 1, .. as they are: 0;",
            "check = 0", "tell 0 = 1", "check = 1", "check = 0", "basin 1 = 0", "door 10 0 5 = 0", "tell -1 = 1",
            "check = 0", "count 7 = 0", "check = 1", "11 times door 20 0 50 = 1..", "tell -1 = 1",
            "11 times tell 1 = 2..", "check = 0", "tell -1 = 1", "setDoor 0 4 1 = 2", "11 times tell 1 = 2..",
            "check = 1", "12 times tell 1 = 1..", "check = 0");
        Bound.test("Promise 35", "else 1 and the place of the first that isn't so (one that lacks, or is too many, "
            + "too).",
            "basin 1 = 0", "door 10 0 5 = 0", "door 0 0 5 = 1", "check = 1", "tell 0 = 1", "tell 0 = 2", "check = 1",
            "tell -1 = 1", "check = 2", "tell -1 = 1", "tell 1 = 2", "check = 2", "tell -1 = 1", "tell 0 = 2",
            "tell 0 = 3", "check = 3", "tell -1 = 1", "tell 0 = 2", "22 times tell 9 = 3..", "check = 3", "tell -1 = 1",
            "tell " + LEAST + " = 2", "check = 2", "tell 2 = 1", "tell 0 = 2", "check = 1", "10 times door 0 0 5 = 2..",
            "tell -1 = 1", "10 times tell 0 = 2..", "check = 12", "tell -1 = 1", "12 times tell 0 = 2..", "check = 13",
            "told 1 = 0");
    }

    private static void counts() {
        Bound.test("Promise 36", "9 z (any number). BEYOND.",
            "count 9 = 1", "seed " + LEAST + " = 1", "count 9 = " + LEAST, "seed -1000001 = " + LEAST,
            "count 9 = -1000001", "told 1 = 0", "count 10 = BEYOND", "count -1 = BEYOND", "count " + MOST + " = BEYOND",
            "count " + LEAST + " = BEYOND", "told 1 = 4");
        Bound.test("Promise 37", "BEYOND: another k (counted, too).",
            "told 0 = BEYOND", "told 1 = 1", "told 7 = BEYOND", "told 1 = 2", "told -1 = BEYOND",
            "told " + MOST + " = BEYOND", "told " + LEAST + " = BEYOND", "told 1 = 5", "told 6 = 0", "told 1 = 5");
        Bound.test("Promise 37", "How many acts have answered an ERROR LOW - k (k 1 .. 6);",
            "restore = NONE", "told 1 = 0", "told 2 = 1", "told 3 = 0", "told 4 = 0", "told 5 = 0", "told 6 = 0",
            "sheet 0 8 -1 = STATE", "told 3 = 1", "told 4 = 0", "6 times basin 1 = 0..", "basin 1 = FULL", "told 4 = 1",
            "told 5 = 0", "door 0 0 5 = 0", "as 0 1 = KIND", "told 5 = 1", "told 6 = 0", "voice 0 3 1 = PARTED",
            "told 6 = 1", "told 1 = 0", "told 2 = 1", "300 times body 0 = 13", "99 times body 1 = NONE",
            "told 2 = 100");
    }
}
