/** Each boundary that "What it is" and the Terms name, by a test of its own; what is due was worked out by hand. */
public final class TermsBoundsTest {
    private TermsBoundsTest() {
    }

    public static void main(String[] args) {
        tests();
        Bound.end("Use", "ERRORS", "Term");
    }

    static void tests() {
        use();
        errors();
        refused();
        basins();
        doors();
        floodedAndDry();
        votes();
        tape();
        grammar();
        arithmetic();
        uses();
        weirs();
        water();
        hoursAndLost();
        draws();
        ahead();
        rows();
        bestAndStorm();
        changesAndBuys();
        engine();
        records();
        voices();
        sheets();
    }

    // ---- What it is, ERRORS

    private static void use() {
        Bound.test("Use", "An object is used for at most 512 calls after it has been made",
            "basin 1 = 0", "door 0 0 9 = 0", "509 times told 1 = 0", "hours 2 = 6");
        Bound.test("Use", "An object is used for at most 512 calls after it has been made",
            "24 times tell 5 = 1..", "484 times tell 5 = FULL", "told 4 = 484", "count 7 = 24", "check = 1",
            "check = 0");
    }

    private static void errors() {
        Bound.test("ERRORS", "ERRORS are answers below -1000000: LOW is -1000000; LOW - 1 BEYOND, LOW - 2 NONE, LOW - "
            + "3 STATE, LOW - 4 FULL, LOW - 5 KIND, LOW - 6 PARTED.",
            "basin 0 = -1000001", "restore = -1000002", "sheet 0 8 -1 = -1000003", "6 times basin 1 = 0..",
            "basin 1 = -1000004", "door 0 0 0 = 0", "as 0 1 = -1000005", "voice 0 3 7 = -1000006", "told 1 = 1",
            "told 2 = 1", "told 3 = 1", "told 4 = 1", "told 5 = 1", "told 6 = 1");
        // Each of these calls has two ERRORS to tell.
        Bound.test("ERRORS", "Each act tells its ERRORS in the order in which they are asked;",
            "6 times basin 1 = 0..", "basin 21 = BEYOND", "12 times door 0 0 0 = 0..", "door 70 0 0 = BEYOND",
            "as 12 1 = BEYOND", "as 0 7 = BEYOND", "7 times feed 0 8 = ANY", "feed 0 4 = 60", "feed 0 9 = BEYOND",
            "buys 1 0 = BEYOND", "comes 0 6 0 = BEYOND", "comes 0 1 -1 = BEYOND", "voice 0 4 0 = BEYOND",
            "voice 12 3 0 = BEYOND", "sheet 4 8 -1 = BEYOND", "sheet 0 9 -1 = BEYOND", "put 4 0 0 = BEYOND",
            "put 0 0 0 = NONE", "move 0 0 4 0 0 = BEYOND", "move 4 0 0 0 0 = BEYOND", "move 0 -1 1 0 0 = NONE",
            "sheet 0 8 1 = 1", "sheet 1 16 1 = 1", "move 0 -1 1 0 0 = KIND", "move 0 -1 2 0 0 = NONE",
            "off 6 2 = BEYOND", "rained 6 2 = BEYOND", "off 0 4 = BEYOND", "208 times hours 48 = ANY",
            "hours 49 = BEYOND", "wet 49 = BEYOND", "told 1 = 20", "told 2 = 3", "told 3 = 0", "told 4 = 0",
            "told 5 = 1", "told 6 = 0");
    }

    private static void refused() {
        String sentence = "one that answers an ERROR changes nothing but what told() tells, or where told.";
        Bound.test("ERRORS", sentence,
            "basin 2 = 0", "door 12 0 5 = 0", "basin 0 = BEYOND", "door 70 0 5 = BEYOND", "door 0 1 5 = BEYOND",
            "door 0 0 100 = BEYOND", "count 0 = 1", "count 1 = 1", "count 4 = 20", "setBasin 0 1 100000 = BEYOND",
            "basinIs 0 1 = 20", "setBasin 0 3 100 = BEYOND", "basinIs 0 3 = 20", "setBasin 0 4 10 = BEYOND",
            "basinIs 0 4 = 2", "setBasin 0 5 1000 = BEYOND", "basinIs 0 5 = 100", "setBasin 0 6 2 = BEYOND",
            "basinIs 0 6 = 0", "setBasin 0 7 100 = BEYOND", "basinIs 0 7 = 50", "setBasin 0 2 3 = BEYOND",
            "basinIs 0 2 = 2", "setBasin 0 0 3 = BEYOND", "basinIs 0 0 = 10", "setDoor 0 0 7 = BEYOND",
            "doorIs 0 0 = 1", "setDoor 0 1 10 = BEYOND", "doorIs 0 1 = 2", "setDoor 0 2 1 = BEYOND", "doorIs 0 2 = 0",
            "setDoor 0 3 100 = BEYOND", "doorIs 0 3 = 5", "setDoor 0 4 3 = BEYOND", "doorIs 0 4 = 2",
            "setDoor 0 5 2 = BEYOND", "doorIs 0 5 = 0", "as 0 2 = KIND", "doorIs 0 0 = 1", "rain 10 = BEYOND",
            "count 3 = 0", "told 1 = 19", "told 5 = 1");
        Bound.test("ERRORS", sentence,
            "basin 2 = 0", "hours 49 = BEYOND", "wet 49 = BEYOND", "hours 0 = BEYOND", "wet 0 = BEYOND", "count 2 = 0",
            "count 9 = 1", "count 3 = 0", "basinIs 0 0 = 10", "208 times hours 48 = 0", "hours 16 = STATE",
            "wet 16 = STATE", "count 2 = 9984", "count 9 = 1", "count 3 = 0", "rain 5 = 0", "wet 16 = STATE",
            "count 3 = 5", "basinIs 0 0 = 10", "told 3 = 3");
        Bound.test("ERRORS", sentence,
            "basin 1 = 0", "door 60 0 20 = 0", "type h = 0", "text 2 = BEYOND", "feed 0 9 = BEYOND", "count 6 = 1",
            "text 0 = 1", "type l = 0", "text -1 = BEYOND", "untell 2 = BEYOND", "doorIs 0 8 = 0", "hours 1 = 0",
            "doorIs 0 8 = 1", "type m = 0", "text 1 = -10", "untell 1 = 0", "untell 0 = 1");
        Bound.test("ERRORS", sentence,
            "7 times feed 0x3131313131313131 8 = ANY", "feed 0x2b2b2b2b2b 5 = FULL", "count 6 = 56", "untell 1 = 0",
            "24 times tell 0 = 1..", "tell 7 = FULL", "count 7 = 24", "told 4 = 2");
        Bound.test("ERRORS", sentence,
            "basin 1 = 0", "basin 1 = 1", "door 20 0 90 = 0", "rain 3 = 0", "then 49 0 0 = BEYOND",
            "thenDoor 49 0 0 = BEYOND", "moves 0 4 = BEYOND", "best 0 6 0 = BEYOND", "storm 0 13 0 = BEYOND",
            "changes 13 = BEYOND", "buys 1 1 = NONE", "comes 0 1 0 = NONE", "comes 0 1 49 = BEYOND", "count 2 = 0",
            "count 3 = 3", "count 4 = 20", "basinIs 0 3 = 20", "doorIs 0 7 = 0", "doorIs 0 4 = 2", "told 1 = 7",
            "told 2 = 2");
        Bound.test("ERRORS", sentence,
            "basin 1 = 0", "door 0 0 5 = 0", "sheet 0 8 2 = 1", "put 0 0 1 = 1", "put 0 1 7 = 1",
            "sheet 0 8 25 = BEYOND", "sheet 0 8 -1 = STATE", "sheet 0 24 2 = BEYOND", "put 0 2 0 = BEYOND",
            "put 4 0 0 = BEYOND", "sheet 1 16 2 = 1", "move 1 0 0 0 2 = KIND", "move 2 0 0 0 2 = NONE",
            "move 0 1 0 0 2 = BEYOND", "votes 4 = BEYOND", "votes 2 = NONE", "off 0 2 = NONE", "rained 0 2 = NONE",
            "off 1 0 = BEYOND", "doorIs 0 4 = 2", "off 0 0 = 12", "votes 0 = 1", "doorIs 0 4 = 1");
        Bound.test("ERRORS", sentence,
            "basin 1 = 0", "door 0 0 5 = 0", "restore = NONE", "count 0 = 1", "image = 1", "voice 0 1 7 = 14",
            "voice 1 1 7 = BEYOND", "voice 0 4 7 = BEYOND", "body 2 = NONE", "count 8 = 2", "body 0 = 11",
            "body 1 = 10", "count 10 = BEYOND", "told 7 = BEYOND", "told 1 = 4", "told 2 = 2", "image = 2");
        Bound.test("ERRORS", "Quotients are cut toward 0.",
            "basin 20 = 0", "setBasin 0 1 19 = 200", "basinIs 0 0 = 0", "setBasin 0 1 39 = 19", "basinIs 0 0 = 1",
            "setBasin 0 1 40 = 39", "basinIs 0 0 = 2", "door 0 0 5 = 0", "door 0 0 5 = 1", "door 1 0 5 = 2",
            "door 40 0 5 = 3", "door 1 0 5 = 4", "voice 4 3 8 = -2", "voice 4 3 -8 = 2", "voice 3 2 -7 = 0",
            "pain (0-7)/2+10 = 7", "pain 7/(0-2)+10 = 7");
    }

    // ---- Term 1

    private static void basins() {
        Bound.test("Term 1", "BASINS 0, 1, .. (at most 6), one below the other",
            "basin 1 = 0", "basin 1 = 1", "basin 1 = 2", "basin 1 = 3", "basin 1 = 4", "basin 1 = 5", "basin 1 = FULL",
            "count 0 = 6", "basinIs 5 0 = 10", "basinIs 6 0 = BEYOND");
        Bound.test("Term 1", "WATER (0 .. 99999)",
            "basin 1 = 0", "setBasin 0 1 0 = 10", "setBasin 0 1 -1 = BEYOND", "basinIs 0 1 = 0", "basinIs 0 0 = 0",
            "setBasin 0 1 99999 = 0", "setBasin 0 1 100000 = BEYOND", "basinIs 0 0 = 99999");
        Bound.test("Term 1", "an AREA (1 .. 20)",
            "basin 0 = BEYOND", "basin -1 = BEYOND", "basin 1 = 0", "basin 20 = 1", "basin 21 = BEYOND",
            "basinIs 0 2 = 1", "basinIs 1 2 = 20", "count 0 = 2");
        Bound.test("Term 1", "a WEIR as HIGH as 0 .. 99 (20 at first)",
            "basin 1 = 0", "basinIs 0 3 = 20", "setBasin 0 3 99 = 20", "setBasin 0 3 100 = BEYOND", "basinIs 0 3 = 99",
            "setBasin 0 3 0 = 99", "setBasin 0 3 -1 = BEYOND", "basinIs 0 3 = 0", "hours 1 = 0", "basinIs 0 1 = 0");
        Bound.test("Term 1", "MOVES 0 .. 9 marks an hour (2 at first)",
            "basin 1 = 0", "door 20 0 99 = 0", "basinIs 0 4 = 2", "then 1 0 3 = 22", "setBasin 0 4 9 = 2",
            "setBasin 0 4 10 = BEYOND", "then 1 0 3 = 29", "setBasin 0 4 0 = 9", "setBasin 0 4 -1 = BEYOND",
            "then 1 0 3 = 20");
        Bound.test("Term 1", "lets OVER at most 0 .. 999 of WATER an hour (100 at first)",
            "basin 1 = 0", "basinIs 0 5 = 100", "setBasin 0 1 9999 = 10", "then 1 0 1 = 9899", "setBasin 0 5 999 = 100",
            "setBasin 0 5 1000 = BEYOND", "then 1 0 1 = 9000", "setBasin 0 5 0 = 999", "setBasin 0 5 -1 = BEYOND",
            "then 1 0 1 = 9999");
        Bound.test("Term 1", "may be STUCK (1; else 0, at first)",
            "basin 1 = 0", "door 20 0 99 = 0", "basinIs 0 6 = 0", "setBasin 0 6 2 = BEYOND", "setBasin 0 6 -1 = BEYOND",
            "then 1 0 3 = 22", "setBasin 0 6 1 = 0", "setBasin 0 6 2 = BEYOND", "then 1 0 3 = 20",
            "setBasin 0 6 0 = 1");
        Bound.test("Term 1", "and a BRIDGE (0 .. 99; 50 at first) towards the next one",
            "basin 1 = 0", "basinIs 0 7 = 50", "setBasin 0 7 99 = 50", "setBasin 0 7 100 = BEYOND", "basinIs 0 7 = 99",
            "setBasin 0 7 0 = 99", "setBasin 0 7 -1 = BEYOND", "basinIs 0 7 = 0");
        Bound.test("Term 1", "LEVEL: WATER by AREA.",
            "basin 7 = 0", "setBasin 0 1 6 = 70", "basinIs 0 0 = 0", "setBasin 0 1 7 = 6", "basinIs 0 0 = 1",
            "setBasin 0 1 13 = 7", "basinIs 0 0 = 1", "setBasin 0 1 0 = 13", "basinIs 0 0 = 0",
            "setBasin 0 1 99999 = 0", "basinIs 0 0 = 14285", "basin 1 = 1", "setBasin 1 1 99999 = 10",
            "basinIs 1 0 = 99999");
        Bound.test("Term 1", "(WATER is LEVEL 10 times AREA at first.)",
            "basin 1 = 0", "basin 20 = 1", "basinIs 0 1 = 10", "basinIs 1 1 = 200", "basinIs 1 0 = 10",
            "count 4 = 210");
        Bound.test("Term 1", "The WEIR of a BASIN leads to the next one, that of the last one out.",
            "basin 1 = 0", "setBasin 0 1 25 = 10", "hours 1 = 0", "basinIs 0 1 = 20", "count 5 = 5", "basin 1 = 1",
            "setBasin 0 1 23 = 20", "hours 1 = 0", "basinIs 0 1 = 20", "basinIs 1 1 = 13", "count 5 = 5", "basin 1 = 2",
            "basin 1 = 3", "basin 1 = 4", "basin 1 = 5", "setBasin 5 1 27 = 10", "hours 1 = 0", "basinIs 5 1 = 20",
            "count 5 = 12", "setBasin 4 1 21 = 10", "setBasin 5 1 15 = 20", "hours 1 = 0", "count 5 = 12",
            "basinIs 4 1 = 20", "basinIs 5 1 = 16");
    }

    private static void doors() {
        Bound.test("Term 1", "DOORS 0, 1, .. (at most 12) are on a BASIN",
            "door 0 0 5 = BEYOND", "basin 1 = 0", "12 times door 0 0 5 = 0..", "door 0 0 5 = FULL", "count 1 = 12",
            "doorIs 11 3 = 5", "doorIs 12 3 = BEYOND");
        Bound.test("Term 1", "with a SILL (0 .. 99)",
            "basin 1 = 0", "door 0 0 0 = 0", "door 0 0 99 = 1", "door 0 0 100 = BEYOND", "door 0 0 -1 = BEYOND",
            "doorIs 0 3 = 0", "doorIs 1 3 = 99", "setDoor 0 3 99 = 0", "setDoor 0 3 0 = 99", "setDoor 0 3 100 = BEYOND",
            "setDoor 0 3 -1 = BEYOND", "count 1 = 2");
        Bound.test("Term 1", "of KINDS: 0 DOOR, 1 CELLAR under DOOR, 2 MILL under DOOR, 3 SWAN under MILL, 4 BOAT "
            + "under DOOR, 5 FEARED under CELLAR, 6 TOLD under DOOR;",
            "basin 1 = 0", "door 0 0 5 = 0", "door 60 0 5 = 1", "door 70 0 5 = BEYOND", "door -10 0 5 = BEYOND",
            "setDoor 0 0 6 = 0", "setDoor 0 0 7 = BEYOND", "setDoor 0 0 0 = 6", "setDoor 0 0 -1 = BEYOND", "as 1 6 = 5",
            "as 1 7 = BEYOND", "as 1 0 = 5", "as 1 -1 = BEYOND");
        Bound.test("Term 1", "each with a number m (0 .. 9)",
            "basin 1 = 0", "door 60 0 5 = 0", "door 69 0 5 = 1", "door 9 0 5 = 2", "door -1 0 5 = BEYOND",
            "doorIs 0 1 = 0", "doorIs 1 1 = 9", "doorIs 1 0 = 6", "doorIs 2 1 = 9", "doorIs 2 0 = 0",
            "setDoor 0 1 9 = 0", "setDoor 0 1 10 = BEYOND", "setDoor 0 1 0 = 9", "setDoor 0 1 -1 = BEYOND");
        Bound.test("Term 1", "a VOTE that was BOUGHT (-1 down, 0 still, 1 up; 2: none, at first)",
            "basin 1 = 0", "door 10 0 5 = 0", "doorIs 0 4 = 2", "doorIs 0 8 = -1", "setDoor 0 4 3 = BEYOND",
            "setDoor 0 4 -2 = BEYOND", "setDoor 0 4 1 = 2", "doorIs 0 8 = 1", "setDoor 0 4 0 = 1", "doorIs 0 8 = 0",
            "setDoor 0 0 2 = 1", "setDoor 0 3 50 = 5", "setDoor 0 4 -1 = 0", "doorIs 0 8 = -1", "setDoor 0 4 2 = -1",
            "doorIs 0 8 = 1");
        Bound.test("Term 1", "AWAY (1) or not (0; at first)",
            "basin 1 = 0", "door 20 0 50 = 0", "doorIs 0 5 = 0", "doorIs 0 8 = 1", "setDoor 0 5 2 = BEYOND",
            "setDoor 0 5 -1 = BEYOND", "setDoor 0 5 1 = 0", "doorIs 0 8 = 0", "setDoor 0 4 1 = 2", "doorIs 0 8 = 0",
            "setDoor 0 5 0 = 1", "doorIs 0 8 = 1");
        // HOURS end at 9999: so many is what a DOOR can have been FLOODED and DRY together; 99999 is never reached.
        Bound.test("Term 1", "FLOODED, DRY: hours so far (0 at first; held at 99999)",
            "basin 1 = 0", "door 0 0 9 = 0", "door 0 0 21 = 1", "doorIs 0 6 = 0", "doorIs 0 7 = 0", "doorIs 1 6 = 0",
            "doorIs 1 7 = 0", "208 times hours 48 = ANY", "hours 15 = 39996", "doorIs 0 6 = 9999", "doorIs 0 7 = 0",
            "doorIs 1 6 = 0", "doorIs 1 7 = 9999", "doorIs 0 9 = 29997", "doorIs 1 9 = 9999");
        Bound.test("Term 1", "FLOODED, DRY: hours so far (0 at first; held at 99999)",
            "basin 1 = 0", "hours 3 = 0", "door 0 0 9 = 0", "doorIs 0 6 = 0", "doorIs 0 7 = 0", "hours 1 = 3",
            "doorIs 0 6 = 1");
    }

    private static void floodedAndDry() {
        // LEVEL 10, then 0, 99, 100.
        Bound.test("Term 1", "A DOOR is FLOODED in an hour if LEVEL is above its SILL;",
            "basin 1 = 0", "setBasin 0 5 0 = 100", "door 0 0 10 = 0", "door 0 0 9 = 1", "door 0 0 99 = 2",
            "door 0 0 0 = 3", "hours 1 = 7", "doorIs 0 6 = 0", "doorIs 1 6 = 1", "doorIs 2 6 = 0", "doorIs 3 6 = 1",
            "setBasin 0 1 0 = 10", "hours 1 = 8", "doorIs 3 6 = 1", "setBasin 0 1 99 = 0", "hours 1 = 17",
            "doorIs 0 6 = 1", "doorIs 2 6 = 0", "doorIs 3 6 = 2", "setBasin 0 1 100 = 99", "hours 1 = 29",
            "doorIs 2 6 = 1");
        Bound.test("Term 1", "DRY if LEVEL is below its SILL less 10 less m.",
            "basin 1 = 0", "door 0 0 20 = 0", "door 0 0 21 = 1", "door 3 0 23 = 2", "door 3 0 24 = 3",
            "door 9 0 29 = 4", "door 9 0 30 = 5", "door 9 0 99 = 6", "hours 1 = 4", "doorIs 0 7 = 0", "doorIs 1 7 = 1",
            "doorIs 2 7 = 0", "doorIs 3 7 = 1", "doorIs 4 7 = 0", "doorIs 5 7 = 1", "doorIs 6 7 = 1");
        Bound.test("Term 1", "DRY if LEVEL is below its SILL less 10 less m.",
            "basin 1 = 0", "setBasin 0 1 0 = 10", "door 0 0 0 = 0", "door 9 0 0 = 1", "door 0 0 10 = 2",
            "door 9 0 19 = 3", "door 0 0 11 = 4", "door 9 0 20 = 5", "hours 1 = 2", "doorIs 0 7 = 0", "doorIs 1 7 = 0",
            "doorIs 2 7 = 0", "doorIs 3 7 = 0", "doorIs 4 7 = 1", "doorIs 5 7 = 1");
    }

    private static void votes() {
        Bound.test("Term 1", "CELLAR: -1, if LEVEL is more than its SILL less m, else 0.",
            "basin 1 = 0", "door 10 0 10 = 0", "door 10 0 9 = 1", "door 12 0 12 = 2", "door 12 0 11 = 3",
            "doorIs 0 8 = 0", "doorIs 1 8 = -1", "doorIs 2 8 = 0", "doorIs 3 8 = -1", "setBasin 0 1 0 = 10",
            "door 10 0 0 = 4", "door 19 0 9 = 5", "door 19 0 8 = 6", "door 19 0 0 = 7", "doorIs 4 8 = 0",
            "doorIs 5 8 = 0", "doorIs 6 8 = -1", "doorIs 7 8 = -1");
        Bound.test("Term 1", "MILL: 1, if LEVEL is below its SILL less m, else 0.",
            "basin 1 = 0", "door 20 0 10 = 0", "door 20 0 11 = 1", "door 22 0 12 = 2", "door 22 0 13 = 3",
            "doorIs 0 8 = 0", "doorIs 1 8 = 1", "doorIs 2 8 = 0", "doorIs 3 8 = 1", "setBasin 0 1 0 = 10",
            "door 20 0 0 = 4", "door 20 0 1 = 5", "door 29 0 9 = 6", "door 29 0 0 = 7", "door 29 0 10 = 8",
            "doorIs 4 8 = 0", "doorIs 5 8 = 1", "doorIs 6 8 = 0", "doorIs 7 8 = 0", "doorIs 8 8 = 1");
        Bound.test("Term 1", "SWAN: as MILL, but -1, if LEVEL is above its SILL.",
            "basin 1 = 0", "door 30 0 9 = 0", "door 30 0 10 = 1", "door 30 0 11 = 2", "door 32 0 9 = 3",
            "door 32 0 10 = 4", "door 32 0 12 = 5", "door 32 0 13 = 6", "doorIs 0 8 = -1", "doorIs 1 8 = 0",
            "doorIs 2 8 = 1", "doorIs 3 8 = -1", "doorIs 4 8 = 0", "doorIs 5 8 = 0", "doorIs 6 8 = 1");
        Bound.test("Term 1", "BOAT: 1, if it would be DRY at a LEVEL 1 less,",
            "basin 1 = 0", "door 40 0 19 = 0", "door 40 0 20 = 1", "door 43 0 22 = 2", "door 43 0 23 = 3",
            "doorIs 0 8 = 0", "doorIs 1 8 = 1", "doorIs 2 8 = 0", "doorIs 3 8 = 1", "setBasin 0 1 0 = 10",
            "door 40 0 9 = 4", "door 40 0 10 = 5", "door 49 0 18 = 6", "door 49 0 19 = 7", "doorIs 4 8 = 0",
            "doorIs 5 8 = 1", "doorIs 6 8 = 0", "doorIs 7 8 = 1");
        Bound.test("Term 1", "-1, if LEVEL is above the BRIDGE of its BASIN less m, else 0",
            "basin 1 = 0", "door 40 0 0 = 0", "door 43 0 0 = 1", "setBasin 0 7 10 = 50", "doorIs 0 8 = 0",
            "setBasin 0 7 9 = 10", "doorIs 0 8 = -1", "setBasin 0 7 13 = 9", "doorIs 1 8 = 0", "setBasin 0 7 12 = 13",
            "doorIs 1 8 = -1", "setBasin 0 1 0 = 10", "setBasin 0 7 3 = 12", "doorIs 1 8 = 0", "setBasin 0 7 2 = 3",
            "doorIs 1 8 = -1", "setBasin 0 7 0 = 2", "doorIs 0 8 = 0", "doorIs 1 8 = -1");
        Bound.test("Term 1", "(the first of both)",
            "basin 1 = 0", "setBasin 0 7 0 = 50", "door 40 0 19 = 0", "door 40 0 20 = 1", "doorIs 0 8 = -1",
            "doorIs 1 8 = 1");
        Bound.test("Term 1", "FEARED: as CELLAR, but as if LEVEL were RAIN times 2 more.",
            "basin 1 = 0", "door 50 0 28 = 0", "door 50 0 27 = 1", "door 50 0 10 = 2", "door 50 0 9 = 3",
            "door 59 0 37 = 4", "door 59 0 36 = 5", "doorIs 1 8 = 0", "doorIs 2 8 = 0", "doorIs 3 8 = -1", "rain 9 = 0",
            "doorIs 0 8 = 0", "doorIs 1 8 = -1", "doorIs 4 8 = 0", "doorIs 5 8 = -1", "rain 8 = 9", "doorIs 1 8 = 0");
        Bound.test("Term 1", "TOLD: the sign of what VOTES gives.",
            "basin 1 = 0", "door 60 0 5 = 0", "vote 0 = 0", "vote 1 = 1", "vote 0-1 = -1", "vote 2 = 1",
            "vote 0-2 = -1", "vote 9999 = 1", "vote 8192*8192*32 = -1", "vote 8192*8192*32-1 = 1",
            "vote 8192*8192*64 = 0", "vote 8192*8192*32+1 = -1");
    }

    // ---- Term 2

    private static void tape() {
        String sixty = "10" + "+1".repeat(29);
        Bound.test("Term 2", "TEXTS are read from THE TAPE (bytes, at most 60)",
            "feed 0 4 = 4", "feed 0 8 = 12", "6 times feed -1 8 = ANY", "count 6 = 60", "feed 0 1 = FULL",
            "count 6 = 60", "text 0 = -10", "count 6 = 0", "feed 0 1 = 1");
        Bound.test("Term 2", "TEXTS are read from THE TAPE (bytes, at most 60)",
            "basin 1 = 0", "door 0 0 5 = 0", "pain " + sixty + " = 39", "type " + sixty + " = 0", "feed 0x31 1 = FULL",
            "text 1 = 1");
    }

    private static void grammar() {
        Bound.test("Term 2", "B: S, or S < S, S = S, S > S.",
            "basin 1 = 0", "door 0 0 5 = 0", "pain 5 = 5", "pain 1<2 = 1", "pain 1=2 = 0", "pain 1>2 = 0",
            "fault 1 1<2<3 = 3", "fault 1 1<2=3 = 3", "fault 1 1=1=1 = 3", "fault 1 1>2>3 = 3", "fault 1 1<2> = 3",
            "fault 1 1<=2 = 2", "pain (3>2)>0 = 1", "pain 1<2&3>2 = 1", "pain 1<2|1<2 = 1");
        Bound.test("Term 2", "a NUMBER of 1 to 4 digits",
            "basin 1 = 0", "door 0 0 5 = 0", "pain 7 = 7", "pain 9999 = 9999", "pain 0001 = 1", "pain 0000 = 0",
            "fault 1 10000 = 4", "fault 1 00000 = 4", "fault 1 1+12345 = 6", "fault 1 + = 0", "fault 1 1+ = 2",
            "fault 1 1+- = 2");
        Bound.test("Term 2", "No blanks.",
            "feed 0x3120 2 = 2", "text 0 = -10", "feed 0x2031 2 = 2", "text 0 = -11", "feed 0x312b20312b31 6 = 6",
            "text 0 = -13", "feed 0x0a31 2 = 2", "text 0 = -11", "feed 0x3100 2 = 2", "text 0 = -10",
            "feed 0x0031 2 = 2", "text 0 = -11");
        Bound.test("Term 2", "At most 5 of ! and ( are open at once.",
            "basin 1 = 0", "door 9 0 5 = 0", "pain !!!!!m = 0", "pain (((((m))))) = 9", "pain !(!(!m)) = 0",
            "pain (!(!(m))) = 1", "fault 1 !!!!!!m = 5", "fault 1 ((((((m)))))) = 5", "fault 1 !(!(!(m))) = 5",
            "fault 1 (!(!(!m))) = 5", "fault 1 (((((! = 5", "fault 1 !!!!!( = 5", "fault 1 (((((( = 5");
        Bound.test("Term 2", "At most 5 of ! and ( are open at once.",
            "basin 1 = 0", "door 9 0 5 = 0", "pain (((((m)))))+(((((m))))) = 18", "pain !!!!!m+!!!!!m+!m = 0",
            "pain (((((m))))+((((m))))) = 18", "pain ((((!m+!m+!m)))) = 0", "pain (((((m)))))*!!!!!0 = 9",
            "fault 1 (((((m+!m))))) = 7", "fault 1 (((((m)))))+((((((m = 17", "fault 1 m+!!!!!!m = 7");
        Bound.test("Term 2", "FAULT: the place of the first byte with which no TEXT goes on;",
            "fault 0 ) = 0", "fault 0 *l = 0", "fault 0 l) = 1", "fault 0 () = 1", "fault 0 (l)) = 3",
            "fault 0 (l(s)) = 2", "fault 0 l!s = 1", "fault 0 l|&s = 2", "fault 0 lx+ = 1", "fault 0 x = 0",
            "fault 0 f = 0", "fault 1 l = 0", "fault 0 (l<s<r) = 4", "fault 0 (lr = 2", "fault 0 1l = 1",
            "fault 0 l1 = 1", "fault 0 ll = 1", "fault 0 " + "l+".repeat(29) + "l) = 59", "feed 0xb1 1 = 1",
            "text 0 = -10", "feed 0xff6c 2 = 2", "text 0 = -11");
        Bound.test("Term 2", "how many there are, if it ends too early.",
            "text 0 = -10", "text 1 = -10", "fault 0 l+ = 2", "fault 0 ! = 1", "fault 0 (l = 2", "fault 0 ((((( = 5",
            "fault 0 l<s& = 4", "fault 0 ((l) = 4", "fault 0 " + "l+".repeat(30) + " = 60",
            "fault 0 (" + "l+".repeat(29) + "l = 60", "told 1 = 0");
    }

    private static void arithmetic() {
        Bound.test("Term 2", "Ints that wrap;",
            "basin 1 = 0", "door 0 0 5 = 0", "pain 8192*8192*32<0 = 1", "pain 8192*8192*32-1>0 = 1",
            "pain 8192*8192*64=0 = 1", "pain 0-8192*8192*32<0 = 1", "pain 8192*8192*32-1+1<0 = 1",
            "pain 8192*8192*32/(0-1)<0 = 1", "pain 8192*8192*32%(0-1) = 0", "pain 9999*9999*43/1000 = 4172");
        Bound.test("Term 2", "/ cut, % the rest that it leaves, both by 0 are 0;",
            "basin 1 = 0", "door 0 0 5 = 0", "pain 7/2 = 3", "pain (0-7)/2+10 = 7", "pain 7/(0-2)+10 = 7",
            "pain (0-7)/(0-2) = 3", "pain 7%4 = 3", "pain (0-7)%4+10 = 7", "pain 7%(0-4) = 3",
            "pain (0-7)%(0-4)+10 = 7", "pain 7/0 = 0", "pain 7%0 = 0", "pain 0/0 = 0", "pain 0%0 = 0",
            "pain 5+7/(1-1) = 5", "pain 5+7%f = 5", "pain 3/4 = 0", "pain 6/3 = 2", "pain 6%3 = 0");
        Bound.test("Term 2", "| & < = > ! are 1 or 0, what is not 0 being true; all is worked out.",
            "basin 1 = 0", "door 0 0 5 = 0", "pain 7|0 = 1", "pain 0|7 = 1", "pain 0|0 = 0", "pain (0-7)|0 = 1",
            "pain 7&7 = 1", "pain 7&(0-7) = 1", "pain 7&0 = 0", "pain 0&7 = 0", "pain 2&1 = 1", "pain 3<4 = 1",
            "pain 4<4 = 0", "pain 5<4 = 0", "pain 4=4 = 1", "pain 4=5 = 0", "pain 5>4 = 1", "pain 4>4 = 0",
            "pain 3>4 = 0", "pain (0-1)<0 = 1", "pain 0>(0-1) = 1", "pain !0 = 1", "pain !7 = 0", "pain !2 = 0",
            "pain !(0-7) = 0", "pain 1|7/0 = 1", "pain 0&7%0 = 0");
    }

    private static void uses() {
        Bound.test("Term 2", "without a TEXT s - l.",
            "basin 1 = 0", "door 60 0 10 = 0", "door 60 0 11 = 1", "door 60 0 9 = 2", "door 60 0 0 = 3",
            "doorIs 0 8 = 0", "doorIs 1 8 = 1", "doorIs 2 8 = -1", "vote 5 = 1", "untell 0 = 1", "doorIs 0 8 = 0",
            "doorIs 3 8 = -1", "setBasin 0 1 0 = 10", "doorIs 3 8 = 0", "setBasin 0 1 99999 = 0", "doorIs 1 8 = -1");
        Bound.test("Term 2", "held within 0 .. 99999;",
            "basin 1 = 0", "door 0 0 5 = 0", "pain 0 = 0", "pain 0-1 = 0", "pain 1 = 1", "pain 9999*10+8 = 99998",
            "pain 9999*10+9 = 99999", "pain 9999*10+10 = 99999", "pain 8192*8192*32-1 = 99999", "pain 8192*8192*32 = 0",
            "door 0 0 5 = 1", "pain 9999*11 = 99999", "moves 0 0 = 199998");
        Bound.test("Term 2", "without f * 3 + d.",
            "basin 1 = 0", "door 0 0 9 = 0", "door 0 0 30 = 1", "door 0 0 10 = 2", "doorIs 0 9 = 0", "hours 2 = 8",
            "doorIs 0 9 = 6", "doorIs 1 9 = 2", "doorIs 2 9 = 0", "setBasin 0 1 31 = 10", "setBasin 0 5 0 = 100",
            "hours 1 = 17", "doorIs 1 9 = 5", "pain 1 = 1", "untell 1 = 1", "doorIs 1 9 = 5");
    }

    // ---- Term 3

    private static void weirs() {
        Bound.test("Term 3", "RAIN is 0 .. 9 marks an hour for all BASINS (0 at first).",
            "basin 1 = 0", "basin 3 = 1", "count 3 = 0", "hours 1 = 0", "basinIs 0 1 = 10", "basinIs 1 1 = 30",
            "rain 9 = 0", "rain 10 = BEYOND", "hours 1 = 0", "basinIs 0 1 = 19", "basinIs 1 1 = 57", "rain 0 = 9",
            "rain -1 = BEYOND", "hours 1 = 0", "basinIs 0 1 = 19", "count 3 = 0");
        Bound.test("Term 3", "goes up by MOVES, if the sum of VOTES there is above 0, down, if below",
            "basin 1 = 0", "basin 1 = 1", "door 0 0 5 = 0", "door 0 0 5 = 1", "door 0 1 5 = 2", "setDoor 2 4 1 = 2",
            "then 1 0 3 = 20", "then 1 1 3 = 22", "setDoor 0 4 1 = 2", "then 1 0 3 = 22", "setDoor 1 4 -1 = 2",
            "then 1 0 3 = 20", "setDoor 0 4 0 = 1", "then 1 0 3 = 18", "setDoor 0 4 -1 = 0", "then 1 0 3 = 18",
            "setDoor 0 5 1 = 0", "setDoor 1 5 1 = 0", "then 1 0 3 = 20");
        Bound.test("Term 3", "(0 .. 99)",
            "basin 1 = 0", "door 20 0 99 = 0", "setBasin 0 3 96 = 20", "then 1 0 3 = 98", "setBasin 0 3 97 = 96",
            "then 1 0 3 = 99", "setBasin 0 3 98 = 97", "then 1 0 3 = 99", "setBasin 0 3 99 = 98", "then 1 0 3 = 99",
            "setDoor 0 4 -1 = 2", "setBasin 0 3 3 = 99", "then 1 0 3 = 1", "setBasin 0 3 2 = 3", "then 1 0 3 = 0",
            "setBasin 0 3 1 = 2", "then 1 0 3 = 0", "setBasin 0 3 0 = 1", "then 1 0 3 = 0", "then 48 0 3 = 0");
        // RAIN brings LEVEL 10 to 13, and BASIN 0 lets 5 over: a MILL that wants 11 votes by LEVEL 10 all the same.
        Bound.test("Term 3", "(1) all VOTES by LEVELS as they are; the WEIR of each BASIN (not STUCK) goes up",
            "basin 1 = 0", "basin 1 = 1", "door 20 0 11 = 0", "door 20 1 11 = 1", "setBasin 0 1 25 = 10",
            "setBasin 1 1 11 = 10", "setBasin 0 6 1 = 0", "then 1 0 3 = 20", "setBasin 0 1 10 = 25", "then 1 0 3 = 20",
            "setBasin 0 6 0 = 1", "rain 3 = 0", "then 1 0 3 = 22", "then 1 1 3 = 20", "then 2 0 3 = 22",
            "setBasin 1 1 10 = 11", "then 1 1 3 = 22", "rain 0 = 3", "setBasin 0 1 25 = 10", "then 1 1 3 = 22",
            "then 1 1 0 = 15", "then 2 1 3 = 22");
    }

    private static void water() {
        Bound.test("Term 3", "if WATER is above HIGH times AREA, what is above goes OVER",
            "basin 3 = 0", "setBasin 0 1 60 = 30", "then 1 0 1 = 60", "setBasin 0 1 61 = 60", "then 1 0 1 = 60",
            "setBasin 0 1 59 = 61", "then 1 0 1 = 59", "rain 1 = 0", "then 1 0 1 = 60", "setBasin 0 1 0 = 59",
            "setBasin 0 3 0 = 20", "then 1 0 1 = 0", "hours 1 = 0", "count 5 = 3", "rain 0 = 1", "hours 1 = 0",
            "count 5 = 3");
        Bound.test("Term 3", "(no more than may)",
            "basin 1 = 0", "setBasin 0 1 119 = 10", "then 1 0 1 = 20", "setBasin 0 1 120 = 119", "then 1 0 1 = 20",
            "setBasin 0 1 121 = 120", "then 1 0 1 = 21", "hours 1 = 0", "count 5 = 100", "setBasin 0 5 0 = 100",
            "setBasin 0 1 500 = 21", "hours 1 = 0", "basinIs 0 1 = 500", "count 5 = 100", "setBasin 0 5 999 = 0",
            "setBasin 0 1 1020 = 500", "hours 1 = 0", "basinIs 0 1 = 21", "count 5 = 1099");
        Bound.test("Term 3", "(WATER is held at 99999; what is more is lost.)",
            "basin 1 = 0", "setBasin 0 5 0 = 100", "setBasin 0 1 99998 = 10", "rain 1 = 0", "hours 1 = 0",
            "basinIs 0 1 = 99999", "hours 1 = 0", "basinIs 0 1 = 99999", "rain 9 = 1", "hours 1 = 0",
            "basinIs 0 1 = 99999", "count 4 = 99999", "count 5 = 0", "setBasin 0 5 5 = 0", "hours 1 = 0",
            "basinIs 0 1 = 99994", "count 5 = 5");
        Bound.test("Term 3", "(WATER is held at 99999; what is more is lost.)",
            "basin 1 = 0", "basin 1 = 1", "setBasin 1 5 0 = 100", "setBasin 0 1 30 = 10", "setBasin 1 1 99989 = 10",
            "hours 1 = 0", "basinIs 1 1 = 99999", "setBasin 0 1 21 = 20", "hours 1 = 0", "basinIs 1 1 = 99999",
            "setBasin 0 1 120 = 20", "hours 1 = 0", "basinIs 1 1 = 99999", "basinIs 0 1 = 20", "count 5 = 0",
            "setBasin 0 1 120 = 20", "setBasin 1 5 7 = 0", "hours 1 = 0", "basinIs 1 1 = 99992", "count 5 = 7");
        // What came over from BASIN 0 may go on over in the same HOUR; what comes to BASIN 0 may not.
        Bound.test("Term 3", "(2) BASINS by numbers: WATER is RAIN times AREA more; then,",
            "basin 1 = 0", "basin 1 = 1", "basin 1 = 2", "setBasin 0 1 25 = 10", "setBasin 1 1 20 = 10",
            "setBasin 2 1 20 = 10", "hours 1 = 0", "basinIs 0 1 = 20", "basinIs 1 1 = 20", "basinIs 2 1 = 20",
            "count 5 = 5");
        Bound.test("Term 3", "(3) DOORS that are FLOODED, DRY by LEVELS then: their hours are 1 more.",
            "basin 1 = 0", "rain 1 = 0", "door 0 0 10 = 0", "door 0 0 11 = 1", "door 0 0 21 = 2", "door 0 0 22 = 3",
            "hours 1 = 4", "doorIs 0 6 = 1", "doorIs 1 6 = 0", "doorIs 2 7 = 0", "doorIs 3 7 = 1",
            "setBasin 0 3 10 = 20", "rain 0 = 1", "hours 1 = 6", "doorIs 0 6 = 1", "doorIs 1 6 = 0", "doorIs 2 7 = 1",
            "doorIs 3 7 = 2");
    }

    private static void hoursAndLost() {
        Bound.test("Term 3", "HOURS so far (0 .. 9999) are 1 more.",
            "count 2 = 0", "hours 1 = 0", "count 2 = 1", "208 times hours 48 = 0", "count 2 = 9985", "hours 15 = STATE",
            "hours 13 = 0", "count 2 = 9998", "hours 2 = STATE", "wet 2 = STATE", "hours 1 = 0", "count 2 = 9999",
            "hours 1 = STATE", "wet 1 = STATE", "count 2 = 9999");
        Bound.test("Term 3", "LOST: WATER that went out (held at 999999).",
            "basin 20 = 0", "basin 20 = 1", "basin 20 = 2", "basin 20 = 3", "basin 20 = 4", "basin 20 = 5",
            "setBasin 0 5 999 = 100", "setBasin 1 5 999 = 100", "setBasin 2 5 999 = 100", "setBasin 3 5 999 = 100",
            "setBasin 4 5 999 = 100", "setBasin 5 5 999 = 100", "rain 9 = 0", "setBasin 0 1 99999 = 200",
            "setBasin 1 1 99999 = 200", "setBasin 2 1 99999 = 200", "setBasin 3 1 99999 = 200",
            "setBasin 4 1 99999 = 200", "setBasin 5 1 99999 = 200", "20 times hours 48 = 0", "hours 40 = 0",
            "count 5 = 999000", "setBasin 5 5 998 = 999", "hours 1 = 0", "count 5 = 999998", "setBasin 5 5 999 = 998",
            "hours 1 = 0", "count 5 = 999999", "setBasin 5 5 1 = 999", "hours 1 = 0", "count 5 = 999999", "hours 9 = 0",
            "count 5 = 999999");
    }

    private static void draws() {
        String sentence = "z is told (1 at first); each makes it z * 1103515245 + 12345 (an int), and gives z >>> 8.";
        Bound.test("Term 3", sentence, "count 9 = 1", "wet 1 = 0", "count 9 = 1103527590", "count 3 = 4");
        // 2 * 1103515245 + 12345 is 2207042835, above what an int holds; by 256: 8621261.
        Bound.test("Term 3", sentence, "seed 2 = 1", "wet 1 = 0", "count 9 = -2087924461", "count 3 = 1");
        // The least int stays so when multiplied by an odd number; z is 2147495993 without its sign, by 256: 8388656.
        Bound.test("Term 3", sentence, "seed -2147483648 = 1", "wet 1 = 0", "count 9 = -2147471303", "count 3 = 6");
        // -1103515245 + 12345 is -1103502900, 3191464396 without its sign, by 256: 12466657.
        Bound.test("Term 3", sentence, "seed -1 = 1", "wet 1 = 0", "count 9 = -1103502900", "count 3 = 7");
        Bound.test("Term 3", sentence, "seed 0 = 1", "wet 1 = 0", "count 9 = 12345", "count 3 = 8");
        // 2147483647 is the least int less 1: z is 2147483648 - 1103515245 + 12345, by 256: 4078049.
        Bound.test("Term 3", sentence, "seed 2147483647 = 1", "wet 1 = 0", "count 9 = 1043980748", "count 3 = 9");
    }

    // ---- Term 4

    private static void ahead() {
        Bound.test("Term 4", "AHEAD by n (0 .. 48) HOURS: as they would go by.",
            "basin 1 = 0", "door 0 0 9 = 0", "rain 1 = 0", "setBasin 0 3 99 = 20", "then 0 0 0 = 10", "then 1 0 0 = 11",
            "then 47 0 0 = 57", "then 48 0 0 = 58", "then 49 0 0 = BEYOND", "then -1 0 0 = BEYOND",
            "thenDoor 0 0 6 = 0", "thenDoor 48 0 6 = 48", "thenDoor 49 0 6 = BEYOND", "thenDoor -1 0 6 = BEYOND",
            "count 2 = 0", "basinIs 0 0 = 10", "doorIs 0 6 = 0");
        // At the end of all HOURS one may still look AHEAD.
        Bound.test("Term 4", "AHEAD by n (0 .. 48) HOURS: as they would go by.",
            "208 times hours 48 = 0", "hours 15 = 0", "basin 1 = 0", "rain 1 = 0", "then 0 0 0 = 10", "then 5 0 0 = 15",
            "moves 0 333 = 0", "hours 1 = STATE", "count 2 = 9999");
    }

    private static void rows() {
        // RAIN 9, LEVEL 10, HIGH 20: FLOODED above 18.
        Bound.test("Term 4", "(digits 1 down, 2 still, 3 up, at most 6; the first the highest)",
            "basin 1 = 0", "door 0 0 18 = 0", "rain 9 = 0", "moves 0 0 = 0", "moves 0 1 = 0", "moves 0 2 = 3",
            "moves 0 3 = 3", "moves 0 4 = BEYOND", "moves 0 -1 = BEYOND", "moves 0 111111 = 0", "moves 0 333333 = 18",
            "moves 0 1111111 = BEYOND", "moves 0 3333333 = BEYOND", "moves 0 10 = BEYOND", "moves 0 101 = BEYOND",
            "moves 0 11111 = 0", "moves 0 13 = 3", "moves 0 31 = 6", "moves 0 113 = 0", "moves 0 311 = 6",
            "moves 0 411111 = BEYOND", "moves 0 111114 = BEYOND");
        Bound.test("Term 4", "PAINS behind as many HOURS as the ROW has.",
            "basin 1 = 0", "door 0 0 9 = 0", "moves 0 0 = 0", "moves 0 2 = 3", "moves 0 22 = 6", "moves 0 22222 = 15",
            "moves 0 222222 = 18", "hours 1 = 3", "moves 0 0 = 3", "moves 0 222222 = 21");
        Bound.test("Term 4", "whatever the VOTES (by MOVES; not at all if it is STUCK)",
            "basin 1 = 0", "door 0 0 18 = 0", "rain 9 = 0", "moves 0 1 = 0", "setBasin 0 4 1 = 2", "moves 0 1 = 3",
            "setBasin 0 4 9 = 1", "moves 0 1 = 0", "setBasin 0 6 1 = 0", "moves 0 1 = 3", "best 0 1 1 = 3",
            "storm 0 1 1 = 3", "setBasin 0 6 0 = 1", "setBasin 0 4 0 = 9", "moves 0 1 = 3");
        // The WEIR ends at 99 and at 0 there, too.
        Bound.test("Term 4", "whatever the VOTES (by MOVES; not at all if it is STUCK)",
            "basin 1 = 0", "door 0 0 99 = 0", "setBasin 0 3 99 = 20", "setBasin 0 4 9 = 2", "setBasin 0 1 105 = 10",
            "moves 0 333 = 0", "moves 0 222 = 0", "setBasin 0 3 1 = 99", "setBasin 0 1 0 = 105", "setDoor 0 3 10 = 99",
            "moves 0 111 = 0", "setDoor 0 3 0 = 10", "rain 2 = 0", "moves 0 1 = 0", "moves 0 13 = 3",
            "moves 0 113 = 3");
    }

    private static void bestAndStorm() {
        Bound.test("Term 4", "BEST by n (1 .. 5)",
            "basin 1 = 0", "best 0 0 0 = BEYOND", "best 0 -1 0 = BEYOND", "best 0 1 0 = 1", "best 0 5 0 = 11111",
            "best 0 6 0 = BEYOND", "best 0 1 1 = 0", "best 0 5 1 = 0", "best 0 6 1 = BEYOND");
        // HIGH 20, LEVEL 25: down and still drain it, FLOODED above 19; up by 5 holds it.
        Bound.test("Term 4", "of all ROWS of n moves that with the least PAINS; of several the least as a number.",
            "basin 1 = 0", "best 0 1 0 = 1", "best 0 3 0 = 111", "setBasin 0 4 5 = 2", "setBasin 0 1 25 = 10",
            "door 0 0 34 = 0", "best 0 1 0 = 3", "best 0 2 0 = 32", "best 0 3 0 = 322", "best 0 3 1 = 0",
            "setDoor 0 3 29 = 34", "best 0 1 0 = 2", "best 0 2 0 = 22");
        Bound.test("Term 4", "AHEAD by n (1 .. 12), RAIN being what is worst of 0 .. 9 all the time,",
            "basin 1 = 0", "door 0 0 9 = 0", "storm 0 0 0 = BEYOND", "storm 0 -1 0 = BEYOND", "storm 0 1 1 = 3",
            "storm 0 12 1 = 36", "storm 0 13 1 = BEYOND", "storm 0 13 0 = BEYOND");
        // STUCK: above 18 it is FLOODED by RAIN 9 alone, below 11 it is DRY by RAIN 0 alone.
        Bound.test("Term 4", "AHEAD by n (1 .. 12), RAIN being what is worst of 0 .. 9 all the time,",
            "basin 1 = 0", "setBasin 0 6 1 = 0", "door 0 0 18 = 0", "storm 0 1 1 = 3", "setDoor 0 3 19 = 18",
            "storm 0 1 1 = 0", "setDoor 0 3 20 = 19", "storm 0 1 1 = 0", "setDoor 0 3 21 = 20", "storm 0 1 1 = 1",
            "rain 5 = 0", "storm 0 1 1 = 1", "setDoor 0 3 18 = 21", "storm 0 1 1 = 3", "count 3 = 5");
        Bound.test("Term 4", "are least; of several the least.",
            "basin 1 = 0", "storm 0 5 0 = 1", "door 0 0 34 = 0", "setBasin 0 4 5 = 2", "setBasin 0 1 25 = 10",
            "storm 0 1 0 = 3", "setDoor 0 3 29 = 34", "storm 0 1 0 = 2", "setDoor 0 3 24 = 29", "storm 0 1 0 = 1",
            "setDoor 0 3 99 = 24", "storm 0 1 0 = 1", "storm 0 1 1 = 1");
    }

    private static void changesAndBuys() {
        // LEVEL 10, RAIN 9: FLOODED above 18, unless the WEIR goes down now.
        Bound.test("Term 4", "CHANGES by n (1 .. 12)",
            "basin 1 = 0", "door 0 0 18 = 0", "rain 9 = 0", "changes 0 = BEYOND", "changes -1 = BEYOND",
            "changes 1 = 1", "changes 12 = 1", "changes 13 = BEYOND");
        Bound.test("Term 4", "DOORS (bits) that would have less PAIN AHEAD by n",
            "basin 1 = 0", "rain 9 = 0", "changes 1 = 0", "11 times door 0 0 99 = 0..", "door 0 0 18 = 11",
            "changes 1 = 2048", "setDoor 0 3 18 = 99", "changes 1 = 2049", "setDoor 11 3 17 = 18", "changes 1 = 1",
            "setDoor 0 3 19 = 18", "changes 1 = 0");
        Bound.test("Term 4", "if BOUGHT of that one alone were -1, 0 or 1 in the first HOUR (behind it as it is)",
            "basin 1 = 0", "door 0 0 16 = 0", "rain 9 = 0", "changes 2 = 0", "setDoor 0 4 -1 = 2", "changes 2 = 0",
            "setDoor 0 4 2 = -1", "setDoor 0 3 18 = 16", "changes 1 = 1", "changes 2 = 1", "setDoor 0 4 1 = 2",
            "changes 1 = 1", "doorIs 0 4 = 1");
        // A CELLAR that is BOUGHT up goes on so in the second HOUR, whatever it fears.
        Bound.test("Term 4", "if BOUGHT of that one alone were -1, 0 or 1 in the first HOUR (behind it as it is)",
            "basin 1 = 0", "door 10 0 16 = 0", "rain 9 = 0", "setDoor 0 4 1 = 2", "changes 1 = 0", "changes 2 = 0",
            "setDoor 0 4 2 = 1", "thenDoor 2 0 9 = 6", "doorIs 0 4 = 2");
        // Above the WEIR's 20: up alone keeps it from being DRY; then still alone is neither FLOODED (29) nor DRY (11).
        Bound.test("Term 4", "if BOUGHT of that one alone were -1, 0 or 1 in the first HOUR (behind it as it is)",
            "basin 1 = 0", "door 0 0 34 = 0", "setBasin 0 4 5 = 2", "setBasin 0 1 25 = 10", "changes 1 = 1",
            "setDoor 0 4 0 = 2", "changes 1 = 1", "setDoor 0 4 1 = 0", "changes 1 = 0", "setDoor 0 3 25 = 34",
            "setBasin 0 4 9 = 5", "setBasin 0 1 29 = 25", "pain f+d*2 = 0", "changes 1 = 1", "setDoor 0 4 0 = 1",
            "changes 1 = 0", "setDoor 0 4 -1 = 0", "changes 1 = 1");
        Bound.test("Term 4", "the fewest DOORS there (not AWAY) whose VOTES are to be BOUGHT so that the sum has that "
            + "sign.",
            "basin 1 = 0", "basin 1 = 1", "door 0 1 5 = 0", "buys 0 1 = NONE", "buys 0 -1 = NONE", "door 0 0 5 = 1",
            "buys 0 1 = 1", "buys 0 -1 = 1", "setDoor 1 5 1 = 0", "buys 0 1 = NONE", "buys 0 -1 = NONE",
            "door 0 0 5 = 2", "setDoor 2 4 1 = 2", "buys 0 1 = 0", "buys 0 -1 = 1", "door 0 0 5 = 3",
            "setDoor 3 4 -1 = 2", "buys 0 1 = 1", "buys 0 -1 = 1", "door 0 0 5 = 4", "setDoor 4 4 -1 = 2",
            "buys 0 1 = 1", "buys 0 -1 = 0", "door 0 0 5 = 5", "setDoor 5 4 -1 = 2", "buys 0 1 = 2", "door 0 0 5 = 6",
            "setDoor 6 4 -1 = 2", "buys 0 1 = 2", "door 0 0 5 = 7", "setDoor 7 4 -1 = 2", "buys 0 1 = 3");
        Bound.test("Term 4", "the fewest DOORS there (not AWAY) whose VOTES are to be BOUGHT so that the sum has that "
            + "sign.",
            "basin 1 = 0", "12 times door 10 0 5 = 0..", "buys 0 -1 = 0", "buys 0 1 = 7", "setDoor 0 5 1 = 0",
            "buys 0 1 = 6");
    }

    private static void engine() {
        Bound.test("Term 4", "if LEVELS of both (as behind that HOUR) differ by 3 or less",
            "basin 1 = 0", "basin 1 = 1", "setBasin 0 1 13 = 10", "comes 0 1 1 = 1", "comes 1 0 1 = 1",
            "setBasin 0 1 14 = 13", "comes 0 1 48 = NONE", "comes 1 0 48 = NONE", "setBasin 0 1 7 = 14",
            "comes 0 1 1 = 1", "comes 1 0 1 = 1", "setBasin 0 1 6 = 7", "comes 0 1 48 = NONE", "comes 1 0 48 = NONE");
        // BASIN 0 is at 20 behind the HOUR; the WATER that goes over brings BASIN 1 to 20, too.
        Bound.test("Term 4", "if LEVELS of both (as behind that HOUR) differ by 3 or less",
            "basin 1 = 0", "basin 1 = 1", "setBasin 0 1 30 = 10", "comes 0 1 1 = 1", "setBasin 0 1 20 = 30",
            "setBasin 0 3 10 = 20", "setBasin 1 1 19 = 10", "comes 0 1 1 = NONE");
        Bound.test("Term 4", "the lower BASIN number's BRIDGE is higher than both LEVELS by 2 or more",
            "basin 1 = 0", "basin 1 = 1", "setBasin 0 7 12 = 50", "setBasin 1 7 0 = 50", "comes 0 1 1 = 1",
            "comes 1 0 1 = 1", "setBasin 0 7 11 = 12", "comes 0 1 48 = NONE", "comes 1 0 48 = NONE",
            "setBasin 0 1 9 = 10", "comes 0 1 48 = NONE", "setBasin 0 1 10 = 9", "setBasin 1 1 9 = 10",
            "comes 0 1 48 = NONE", "setBasin 0 1 9 = 10", "comes 0 1 1 = 1", "setBasin 0 1 0 = 9", "setBasin 1 1 0 = 9",
            "setBasin 0 7 2 = 11", "comes 0 1 1 = 1", "setBasin 0 7 1 = 2", "comes 0 1 48 = NONE");
        // BASIN 0 sinks by 2 an HOUR to 20, BASIN 1 rises as much: 26 and 13, 24 and 15, 22 and 17, 20 and 19.
        Bound.test("Term 4", "it may wait.",
            "basin 1 = 0", "basin 1 = 1", "setBasin 0 1 26 = 10", "setBasin 0 5 2 = 100", "setBasin 1 1 13 = 10",
            "comes 0 1 1 = NONE", "comes 0 1 2 = NONE", "comes 0 1 3 = 3", "comes 1 0 48 = 3", "basin 1 = 2",
            "setBasin 2 1 19 = 10", "setBasin 1 5 0 = 100", "comes 0 2 3 = NONE", "comes 0 2 4 = 4",
            "comes 2 0 48 = 3");
        Bound.test("Term 4", "COMES from a BASIN to another one by n (0 .. 48): the fewest HOURS.",
            "basin 1 = 0", "basin 1 = 1", "comes 0 1 -1 = BEYOND", "comes 0 1 0 = NONE", "comes 0 1 1 = 1",
            "comes 0 1 48 = 1", "comes 0 1 49 = BEYOND", "comes 0 0 0 = 0", "comes 1 1 48 = 0", "basin 1 = 2",
            "basin 1 = 3", "basin 1 = 4", "basin 1 = 5", "comes 0 5 4 = NONE", "comes 0 5 5 = 5", "comes 5 0 4 = NONE",
            "comes 5 0 5 = 5", "comes 0 6 5 = BEYOND");
        // BASIN 1 rises by 1 an HOUR: from 0 to 47 or to 48.
        Bound.test("Term 4", "COMES from a BASIN to another one by n (0 .. 48): the fewest HOURS.",
            "basin 1 = 0", "basin 1 = 1", "setBasin 0 3 40 = 20", "setBasin 0 1 99 = 10", "setBasin 0 5 1 = 100",
            "setBasin 0 7 99 = 50", "setBasin 1 3 99 = 20", "setBasin 1 1 0 = 10", "comes 0 1 47 = NONE",
            "comes 0 1 48 = 48", "setBasin 0 1 97 = 99", "comes 0 1 46 = NONE", "comes 0 1 47 = 47",
            "comes 1 0 48 = 47", "setBasin 0 1 100 = 97", "comes 0 1 48 = NONE", "comes 1 0 48 = NONE");
    }

    private static void records() {
        Bound.test("Term 4", "OFF: differences without sign, each held at 1000, together.",
            "basin 1 = 0", "sheet 0 32 1 = 1", "put 0 0 1009 = 1", "off 0 0 = 999", "put 0 0 1010 = 1",
            "off 0 0 = 1000", "put 0 0 1011 = 1", "off 0 0 = 1000", "put 0 0 -989 = 1", "off 0 0 = 999",
            "put 0 0 -990 = 1", "off 0 0 = 1000", "put 0 0 -991 = 1", "off 0 0 = 1000", "put 0 0 2147483647 = 1",
            "off 0 0 = 1000", "put 0 0 -2147483648 = 1", "off 0 0 = 1000", "put 0 0 -2147483638 = 1", "off 0 0 = 1000",
            "put 0 0 10 = 1", "off 0 0 = 0", "put 0 0 9 = 1", "off 0 0 = 1", "put 0 0 11 = 1", "off 0 0 = 1",
            "sheet 0 32 24 = 1", "put 0 23 5000 = 1", "off 0 0 = 1230", "sheet 0 32 0 = 1", "off 0 0 = 0");
        Bound.test("Term 4", "RAINED: RAIN (0 .. 9) now by which it is OFF least; of several the least.",
            "basin 1 = 0", "sheet 0 8 1 = 1", "put 0 0 0 = 1", "rained 0 0 = 0", "put 0 0 10 = 1", "rained 0 0 = 0",
            "put 0 0 11 = 1", "rained 0 0 = 1", "put 0 0 18 = 1", "rained 0 0 = 8", "put 0 0 19 = 1", "rained 0 0 = 9",
            "put 0 0 127 = 1", "rained 0 0 = 9", "setBasin 0 1 15 = 10", "rained 0 0 = 5", "setBasin 0 3 0 = 20",
            "rained 0 0 = 0", "sheet 1 8 0 = 1", "rained 0 1 = 0");
    }

    // ---- Term 5

    private static void voices() {
        String wrap = "VOICES of a DOOR, with a number x (ints that wrap)";
        Bound.test("Term 5", wrap,
            "basin 1 = 0", "door 0 0 5 = 0", "door 1 0 5 = 1", "voice 1 0 2147483647 = -2147483648",
            "voice 1 1 2147483647 = 0", "voice 1 1 1073741823 = -2147483648", "voice 1 2 1073741823 = 2147483647",
            "voice 0 1 -2147483648 = 0", "setDoor 1 1 0 = 1", "voice 1 3 -2147483648 = -2147483648",
            "voice 1 3 2147483647 = -2147483647");
        Bound.test("Term 5", wrap,
            "basin 1 = 0", "door 12 0 5 = 0", "voice 0 0 -2147483648 = 2147483641",
            "voice 0 0 -2147483642 = 2147483647", "setDoor 0 0 2 = 1", "voice 0 1 1073741824 = -2147483648",
            "voice 0 2 1073741824 = 2147483646", "setDoor 0 0 3 = 2", "voice 0 0 715827883 = -2147483647",
            "voice 0 0 1431655765 = -1");
        Bound.test("Term 5", wrap,
            "basin 1 = 0", "door 50 0 5 = 0", "door 50 0 5 = 1", "voice 0 1 2147483647 = -14",
            "voice 0 0 -2147483641 = -2147483648", "voice 1 3 -2147483648 = 2147483640");
        String parted = "13 pays: x by (m - k), cut (PARTED if that is 0; that is all that voice() answers then).";
        Bound.test("Term 5", parted,
            "basin 1 = 0", "door 1 0 5 = 0", "door 1 0 5 = 1", "door 1 0 5 = 2", "voice 0 3 7 = 7",
            "voice 1 3 7 = PARTED", "voice 2 3 7 = -7", "voice 1 3 0 = PARTED", "voice 1 3 -2147483648 = PARTED",
            "setDoor 1 1 3 = 1", "voice 1 3 7 = 3", "voice 1 3 -7 = -3", "voice 1 3 1 = 0", "voice 1 3 -1 = 0",
            "told 6 = 3");
        // What a CELLAR adds to a pay that PARTED does not come to light; the next voice() is as ever.
        Bound.test("Term 5", parted,
            "basin 1 = 0", "door 10 0 5 = 0", "door 51 0 5 = 1", "voice 0 3 7 = PARTED", "voice 1 3 7 = PARTED",
            "voice 0 0 7 = 0", "voice 0 1 7 = 0", "setDoor 0 1 1 = 0", "voice 0 3 7 = -5", "told 6 = 2");
        Bound.test("Term 5", "THE TRACE: the numbers of BODIES of the latest voice(), as they began (what stands left "
            + "is worked out first), the first 30.",
            "basin 1 = 0", "door 10 0 5 = 0", "door 50 0 5 = 1", "count 8 = 0", "body 0 = NONE", "voice 1 3 7 = -15",
            "count 8 = 6", "body 0 = 21", "body 1 = 13", "body 2 = 60", "body 3 = 11", "body 4 = 20", "body 5 = 10",
            "body 6 = NONE", "body 29 = NONE", "body 30 = NONE", "voice 1 0 7 = 1", "count 8 = 2", "body 0 = 20",
            "body 1 = 10", "body 2 = NONE");
        // The BODY that PARTED had begun.
        Bound.test("Term 5", "THE TRACE: the numbers of BODIES of the latest voice(), as they began (what stands left "
            + "is worked out first), the first 30.",
            "basin 1 = 0", "door 0 0 5 = 0", "voice 0 1 7 = 14", "voice 0 3 7 = PARTED", "count 8 = 1", "body 0 = 13",
            "body 1 = NONE");
    }

    // ---- Term 6

    private static void sheets() {
        Bound.test("Term 6", "SHEETS 0 .. 3 are rows of 8, 16, 32 bits, at most 24 numbers, or missing (as at first).",
            "put 0 0 0 = NONE", "put 3 0 0 = NONE", "put 4 0 0 = BEYOND", "put -1 0 0 = BEYOND", "sheet 0 8 24 = 1",
            "sheet 3 32 24 = 1", "sheet 4 8 24 = BEYOND", "sheet -1 8 24 = BEYOND", "sheet 1 16 25 = BEYOND",
            "put 1 0 0 = NONE", "sheet 1 16 24 = 1", "put 1 23 0 = 1", "put 1 24 0 = BEYOND", "sheet 2 7 1 = BEYOND",
            "sheet 2 9 1 = BEYOND", "sheet 2 31 1 = BEYOND", "sheet 2 33 1 = BEYOND", "sheet 2 -8 1 = BEYOND",
            "sheet 2 64 1 = BEYOND", "sheet 2 24 1 = BEYOND", "put 2 0 0 = NONE", "sheet 1 0 0 = 1",
            "put 1 0 0 = NONE");
    }
}
