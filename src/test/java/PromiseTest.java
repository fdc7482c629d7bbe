/** Each promise of the document by answers that were worked out by hand: ordinary calls, edges, wrong calls. */
public final class PromiseTest {
    private PromiseTest() {
    }

    public static void main(String[] args) {
        basins();
        doors();
        votesOfKinds();
        tape();
        texts();
        hours();
        water();
        wetHours();
        ahead();
        rowsOfMoves();
        stormsAndChanges();
        buys();
        comes();
        voices();
        sheets();
        movesOfSheets();
        records();
        images();
        waiting();
        counts();
        Script.end();
    }

    private static void basins() {
        Script.run("1 a new object",
            "count 0 = 0", "count 1 = 0", "count 2 = 0", "count 3 = 0", "count 4 = 0", "count 5 = 0", "count 6 = 0",
            "count 7 = 0", "count 8 = 0", "count 9 = 1", "told 1 = 0", "told 2 = 0", "told 3 = 0", "told 4 = 0",
            "told 5 = 0", "told 6 = 0", "basinIs 0 0 = BEYOND", "doorIs 0 0 = BEYOND", "restore = NONE",
            "body 0 = NONE", "votes 0 = NONE", "untell 0 = 0", "untell 1 = 0", "check = 0", "rain 0 = 0", "seed 1 = 1");
        Script.run("2 basin",
            "basin 1 = 0", "basin 20 = 1", "basin 0 = BEYOND", "basin 21 = BEYOND", "basin -1 = BEYOND",
            "basin -2147483648 = BEYOND", "basin 2147483647 = BEYOND", "count 0 = 2", "basin 3 = 2", "basin 3 = 3",
            "basin 3 = 4", "basin 3 = 5", "basin 3 = FULL", "basin 0 = BEYOND", "count 0 = 6", "count 4 = 330",
            "told 1 = 6", "told 4 = 1");
        Script.run("3 basinIs",
            "basin 7 = 0", "basinIs 0 0 = 10", "basinIs 0 1 = 70", "basinIs 0 2 = 7", "basinIs 0 3 = 20",
            "basinIs 0 4 = 2", "basinIs 0 5 = 100", "basinIs 0 6 = 0", "basinIs 0 7 = 50", "basinIs 0 8 = 0",
            "basinIs 0 9 = BEYOND", "basinIs 0 -1 = BEYOND", "basinIs 1 0 = BEYOND", "basinIs -1 0 = BEYOND",
            "setBasin 0 1 76 = 70", "basinIs 0 0 = 10", "setBasin 0 1 77 = 76", "basinIs 0 0 = 11",
            "basin 1 = 1", "door 20 0 30 = 0", "door 20 0 30 = 1", "door 10 0 5 = 2", "door 20 1 30 = 3",
            "basinIs 0 8 = 1", "basinIs 1 8 = 1", "setDoor 1 4 -1 = 2", "basinIs 0 8 = -1", "setDoor 0 5 1 = 0",
            "basinIs 0 8 = -2");
        Script.run("4 setBasin",
            "basin 2 = 0", "setBasin 0 1 99999 = 20", "setBasin 0 1 0 = 99999", "setBasin 0 1 100000 = BEYOND",
            "setBasin 0 1 -1 = BEYOND", "basinIs 0 1 = 0", "setBasin 0 3 99 = 20", "setBasin 0 3 0 = 99",
            "setBasin 0 3 100 = BEYOND", "setBasin 0 3 -1 = BEYOND", "setBasin 0 4 9 = 2", "setBasin 0 4 0 = 9",
            "setBasin 0 4 10 = BEYOND", "setBasin 0 4 -1 = BEYOND", "setBasin 0 5 999 = 100", "setBasin 0 5 0 = 999",
            "setBasin 0 5 1000 = BEYOND", "setBasin 0 5 -1 = BEYOND", "setBasin 0 6 1 = 0", "setBasin 0 6 0 = 1",
            "setBasin 0 6 2 = BEYOND", "setBasin 0 6 -1 = BEYOND", "setBasin 0 7 99 = 50", "setBasin 0 7 0 = 99",
            "setBasin 0 7 100 = BEYOND", "setBasin 0 7 -1 = BEYOND", "setBasin 0 0 5 = BEYOND",
            "setBasin 0 2 5 = BEYOND", "setBasin 0 8 0 = BEYOND", "setBasin 0 -1 0 = BEYOND",
            "setBasin 1 1 5 = BEYOND", "setBasin -1 1 5 = BEYOND", "basinIs 0 2 = 2", "basinIs 0 7 = 0",
            "told 1 = 18");
    }

    private static void doors() {
        Script.run("5 door",
            "door 0 0 5 = BEYOND", "basin 1 = 0", "door 69 0 99 = 0", "door 0 0 0 = 1", "door 70 0 5 = BEYOND",
            "door -1 0 5 = BEYOND", "door 0 1 5 = BEYOND", "door 0 -1 5 = BEYOND", "door 0 0 100 = BEYOND",
            "door 0 0 -1 = BEYOND", "count 1 = 2", "door 37 0 50 = 2", "doorIs 2 0 = 3", "doorIs 2 1 = 7",
            "doorIs 0 0 = 6", "doorIs 0 1 = 9", "door 0 0 5 = 3", "door 0 0 5 = 4", "door 0 0 5 = 5", "door 0 0 5 = 6",
            "door 0 0 5 = 7", "door 0 0 5 = 8", "door 0 0 5 = 9", "door 0 0 5 = 10", "door 0 0 5 = 11",
            "door 0 0 5 = FULL", "door 70 0 5 = BEYOND", "door 0 1 5 = BEYOND", "count 1 = 12", "told 4 = 1");
        Script.run("6 doorIs",
            "basin 1 = 0", "basin 1 = 1", "door 24 1 33 = 0", "doorIs 0 0 = 2", "doorIs 0 1 = 4", "doorIs 0 2 = 1",
            "doorIs 0 3 = 33", "doorIs 0 4 = 2", "doorIs 0 5 = 0", "doorIs 0 6 = 0", "doorIs 0 7 = 0", "doorIs 0 8 = 1",
            "doorIs 0 9 = 0", "doorIs 0 10 = BEYOND", "doorIs 0 -1 = BEYOND", "doorIs 1 0 = BEYOND",
            "doorIs -1 0 = BEYOND", "door 0 1 9 = 1", "hours 3 = 12", "doorIs 0 6 = 0", "doorIs 0 7 = 3",
            "doorIs 0 9 = 3", "doorIs 1 6 = 3", "doorIs 1 7 = 0", "doorIs 1 9 = 9");
        // Rows: the KIND of a DOOR; columns: as which it is asked. "y" where it is one.
        String[] under = {"y......", "yy.....", "y.y....", "y.yy...", "y...y..", "yy...y.", "y.....y"};
        VotedWater x = new VotedWater();
        x.basin(1);
        for (int kind = 0; kind <= 6; kind++) {
            x.door(10 * kind, 0, 40 + kind);
            for (int as = 0; as <= 6; as++) {
                int due = under[kind].charAt(as) == 'y' ? 40 + kind : -1000005;
                Script.expect("7 as(" + kind + ", " + as + ")", x.as(kind, as), due);
            }
        }
        Script.expect("7 as: KIND is told", x.told(5), 49 - 15);
        Script.run("7 as",
            "as 0 0 = BEYOND", "basin 1 = 0", "door 10 0 7 = 0", "as 0 0 = 7", "as 0 7 = BEYOND", "as 0 -1 = BEYOND",
            "as 1 0 = BEYOND", "as -1 0 = BEYOND", "as 0 5 = KIND", "setDoor 0 0 5 = 1", "as 0 5 = 7", "as 0 1 = 7",
            "told 5 = 1", "told 1 = 5");
        Script.run("8 setDoor",
            "basin 1 = 0", "door 0 0 5 = 0", "setDoor 0 0 6 = 0", "setDoor 0 0 0 = 6", "setDoor 0 0 7 = BEYOND",
            "setDoor 0 0 -1 = BEYOND", "setDoor 0 1 9 = 0", "setDoor 0 1 0 = 9", "setDoor 0 1 10 = BEYOND",
            "setDoor 0 1 -1 = BEYOND", "setDoor 0 3 99 = 5", "setDoor 0 3 0 = 99", "setDoor 0 3 100 = BEYOND",
            "setDoor 0 3 -1 = BEYOND", "setDoor 0 4 -1 = 2", "setDoor 0 4 0 = -1", "setDoor 0 4 1 = 0",
            "setDoor 0 4 2 = 1", "setDoor 0 4 3 = BEYOND", "setDoor 0 4 -2 = BEYOND", "setDoor 0 5 1 = 0",
            "setDoor 0 5 0 = 1", "setDoor 0 5 2 = BEYOND", "setDoor 0 5 -1 = BEYOND", "setDoor 0 2 0 = BEYOND",
            "setDoor 0 6 0 = BEYOND", "setDoor 0 7 0 = BEYOND", "setDoor 0 -1 0 = BEYOND", "setDoor 1 0 0 = BEYOND",
            "setDoor -1 0 0 = BEYOND", "doorIs 0 0 = 0", "doorIs 0 4 = 2", "told 1 = 16");
        Script.run("9 rain",
            "rain 9 = 0", "rain 0 = 9", "rain 4 = 0", "rain 10 = BEYOND", "rain -1 = BEYOND", "rain 4 = 4",
            "count 3 = 4", "told 1 = 2");
    }

    /** LEVEL is 10; a line makes a DOOR (km, SILL) and wants its VOTE. */
    private static void votesOfKinds() {
        int[][] due = {
            {0, 5, 0}, {9, 90, 0},
            {10, 9, -1}, {10, 10, 0}, {12, 11, -1}, {12, 12, 0},
            {20, 11, 1}, {20, 10, 0}, {22, 13, 1}, {22, 12, 0},
            {30, 9, -1}, {30, 10, 0}, {30, 11, 1}, {32, 9, -1}, {32, 12, 0}, {32, 13, 1},
            {40, 19, 0}, {40, 20, 1}, {43, 22, 0}, {43, 23, 1},
            {50, 9, -1}, {50, 10, 0}, {52, 11, -1}, {52, 12, 0},
            {60, 9, -1}, {60, 10, 0}, {60, 11, 1},
        };
        for (int[] row : due) {
            VotedWater x = new VotedWater();
            x.basin(3);
            x.door(row[0], 0, row[1]);
            Script.expect("6 VOTE of door(" + row[0] + ", 0, " + row[1] + ")", x.doorIs(0, 8), row[2]);
        }
        Script.run("6 a BOAT fears its BRIDGE, less m; DRY comes first",
            "basin 1 = 0", "door 40 0 12 = 0", "door 43 0 12 = 1", "door 40 0 20 = 2", "setBasin 0 7 13 = 50",
            "doorIs 0 8 = 0", "doorIs 1 8 = 0", "setBasin 0 7 12 = 13", "doorIs 0 8 = 0", "doorIs 1 8 = -1",
            "setBasin 0 7 10 = 12", "doorIs 0 8 = 0", "setBasin 0 7 9 = 10", "doorIs 0 8 = -1", "doorIs 2 8 = 1");
        Script.run("6 FEARED fears RAIN times 2",
            "basin 1 = 0", "door 50 0 12 = 0", "door 10 0 12 = 1", "rain 1 = 0", "doorIs 0 8 = 0", "rain 2 = 1",
            "doorIs 0 8 = -1", "doorIs 1 8 = 0");
        Script.run("6 BOUGHT, AWAY",
            "basin 1 = 0", "door 10 0 5 = 0", "doorIs 0 8 = -1", "setDoor 0 4 1 = 2", "doorIs 0 8 = 1",
            "setDoor 0 4 0 = 1", "doorIs 0 8 = 0", "setDoor 0 4 1 = 0", "setDoor 0 5 1 = 0", "doorIs 0 8 = 0",
            "doorIs 0 4 = 1", "setDoor 0 5 0 = 1", "doorIs 0 8 = 1", "setDoor 0 4 2 = 1", "doorIs 0 8 = -1");
    }

    private static void tape() {
        Script.run("10 feed",
            "feed 0x6162636465666768 8 = 8", "feed 0x6162636465666768 1 = 9", "feed 1 0 = BEYOND", "feed 1 9 = BEYOND",
            "feed 1 -1 = BEYOND", "count 6 = 9", "told 1 = 3");
    }

    private static void tapeGrows(VotedWater x) {
        for (int i = 1; i <= 7; i++) {
            Script.expect("10 feed: how many there are", x.feed(-1L, 8), 8 * i);
        }
        Script.expect("10 feed: 61", x.feed(0L, 5), -1000004);
        Script.expect("10 feed: 60", x.feed(0L, 4), 60);
        Script.expect("10 feed: full", x.feed(0L, 1), -1000004);
        Script.expect("10 feed: BEYOND ahead of FULL", x.feed(0L, 9), -1000001);
        Script.expect("10 feed: stays", x.count(6), 60);
    }

    private static void pain(String text, int due) {
        VotedWater x = new VotedWater();
        x.basin(1);
        x.door(7, 0, 0);
        x.hours(3);
        x.door(3, 0, 99);
        x.hours(2);
        Script.type(x, text);
        Script.expect("11 text " + text, x.text(1), 1);
        Script.expect("11 count(6) behind " + text, x.count(6), 0);
        Script.expect("11 PAIN by " + text, x.doorIs(0, 9), due);
    }

    private static void fault(int use, String text, int due) {
        VotedWater x = new VotedWater();
        Script.type(x, text);
        Script.expect("11 FAULT of " + text, x.text(use), -10 - due);
        Script.expect("11 count(6) behind " + text, x.count(6), 0);
        Script.expect("11 a FAULT is no ERROR", x.told(1), 0);
        Script.expect("11 no TEXT of " + text, x.untell(use), 0);
    }

    private static void texts() {
        tapeGrows(new VotedWater());
        // f is 5, d is 0, m is 7.
        pain("f", 5);
        pain("d", 0);
        pain("m", 7);
        pain("0", 0);
        pain("0012", 12);
        pain("9999", 9999);
        pain("2+3*4", 14);
        pain("(2+3)*4", 20);
        pain("20-3-4", 13);
        pain("100/7/2", 7);
        pain("100/7*2", 28);
        pain("100%7", 2);
        pain("100%7*3", 6);
        pain("7/0", 0);
        pain("7%0", 0);
        pain("10+7/d", 10);
        pain("(0-7)/2+10", 7);
        pain("(0-7)%4+10", 7);
        pain("9999*9999", 99999);
        pain("0-5", 0);
        pain("9999*9999/1000", 99980);
        pain("9999*9999*22/1000", 0);
        pain("9999*9999*43/1000", 4172);
        pain("3<4", 1);
        pain("4<4", 0);
        pain("4=4", 1);
        pain("4=5", 0);
        pain("5>4", 1);
        pain("4>4", 0);
        pain("1+2<4-0", 1);
        pain("5&2", 1);
        pain("5&0", 0);
        pain("0|7", 1);
        pain("0|0", 0);
        pain("1|1&0", 1);
        pain("(1|1)&0", 0);
        pain("1<2&3>2", 1);
        pain("!0", 1);
        pain("!7", 0);
        pain("!!7", 1);
        pain("!0+4", 5);
        pain("!d*3", 3);
        pain("!(f>4)", 0);
        pain("!!!!!0", 1);
        pain("(((((m)))))", 7);
        pain("!(!(!0))", 1);
        pain("!!!!!0+!!!!!0", 2);
        pain("f*100+d*10+m", 507);
        pain("1+1+1+1+1+1+1+1+1+1+1+1+1+1+1+1+1+1+1+1+1+1+1+1+1+1+1+1+9", 37);
        pain("(1+(1+(1+(1+(1+1)))))", 6);
        fault(0, "", 0);
        fault(1, "", 0);
        fault(0, "l+", 2);
        fault(0, "l<s<r", 3);
        fault(0, "l<s=r", 3);
        fault(0, "(l<s)<r+", 8);
        fault(0, "12345", 4);
        fault(0, "l s", 1);
        fault(0, "ll", 1);
        fault(0, "l1", 1);
        fault(0, "1l", 1);
        fault(0, "f", 0);
        fault(1, "l", 0);
        fault(0, "lsrhw", 1);
        fault(0, "(l", 2);
        fault(0, "(l+)", 3);
        fault(0, "()", 1);
        fault(0, "l)", 1);
        fault(0, "!", 1);
        fault(0, "!!!!!!l", 5);
        fault(0, "((((((l", 5);
        fault(0, "!(!(!(l", 5);
        fault(0, "!!!!!(l", 5);
        fault(0, "(((((l)))))+((((((", 17);
        fault(0, "l<=s", 2);
        fault(0, "l||s", 2);
        fault(0, "-l", 0);
        fault(0, "l!s", 1);
        fault(0, "L", 0);
        fault(0, "(l<s", 4);
        fault(0, "(l<s<s", 4);
        fault(0, "l\u00ff", 1);
        fault(0, "l\u0000", 1);
        voteTexts();
        Script.run("11 text, 12 untell",
            "type l-s = 0", "text 2 = BEYOND", "text -1 = BEYOND", "count 6 = 3", "text 0 = 1", "count 6 = 0",
            "untell 1 = 0", "type f- = 0", "text 1 = -12", "untell 1 = 0", "type l-s- = 0", "text 0 = -14",
            "basin 1 = 0", "door 60 0 5 = 0", "doorIs 0 8 = 1", "untell 0 = 1", "doorIs 0 8 = -1", "untell 0 = 0",
            "untell 2 = BEYOND", "untell -1 = BEYOND", "type d = 0", "text 1 = 1", "type m = 0", "text 1 = 1",
            "setDoor 0 1 4 = 0", "doorIs 0 9 = 4", "untell 1 = 1", "doorIs 0 9 = 0", "told 1 = 4");
        Script.run("10 feed: the lowest byte first, 11 text",
            "basin 1 = 0", "door 60 0 20 = 0", "feed 0xff6c2d77 3 = 3", "text 0 = 1", "doorIs 0 8 = 1",
            "feed 0x772d6c 3 = 3", "text 0 = 1", "doorIs 0 8 = -1");
    }

    /** NAMES of VOTES, told apart by = : LEVEL 10, SILL 33, RAIN 4, HOURS 2, HIGH 24. */
    private static void voteTexts() {
        String[] equal = {"l=18", "s=33", "r=4", "h=2", "w=24", "l-18=0&s-33=0&r*h=8"};
        String[] unlike = {"l=10", "s=18", "r=2", "h=4", "w=20"};
        for (String text : equal) {
            voteText(text, 1);
            voteText("0-(" + text + ")", -1);
        }
        for (String text : unlike) {
            voteText(text, 0);
        }
    }

    private static void voteText(String text, int due) {
        VotedWater x = new VotedWater();
        x.basin(2);
        x.door(60, 0, 33);
        x.rain(4);
        x.hours(2);
        Script.type(x, text);
        Script.expect("11 text " + text, x.text(0), 1);
        Script.expect("6 TOLD by " + text, x.doorIs(0, 8), due);
    }

    private static void hours() {
        Script.run("13 hours",
            "hours 0 = BEYOND", "hours 49 = BEYOND", "hours -1 = BEYOND", "hours 1 = 0", "hours 48 = 0",
            "count 2 = 49", "basin 1 = 0", "door 0 0 9 = 0", "door 0 0 21 = 1", "door 1 0 21 = 2",
            "hours 1 = 4", "doorIs 0 6 = 1", "doorIs 1 7 = 1", "doorIs 2 7 = 0", "hours 2 = 12", "told 1 = 3");
        Script.run("13 hours: at most 9999",
            "208 times hours 48 = 0", "count 2 = 9984", "hours 16 = STATE", "wet 16 = STATE", "hours 49 = BEYOND",
            "count 9 = 1", "hours 15 = 0", "count 2 = 9999", "hours 1 = STATE", "wet 1 = STATE", "count 2 = 9999",
            "told 3 = 4", "basin 1 = 0", "then 48 0 0 = 10");
        Script.run("13 WEIRS move by VOTES of the HOUR ahead",
            "basin 1 = 0", "basin 1 = 1", "basin 1 = 2", "door 20 0 90 = 0", "door 20 1 5 = 1", "door 10 2 5 = 2",
            "hours 1 = 7", "basinIs 0 3 = 22", "basinIs 1 3 = 20", "basinIs 2 3 = 18", "setBasin 0 4 9 = 2",
            "setBasin 2 4 0 = 2", "hours 1 = 14", "basinIs 0 3 = 31", "basinIs 2 3 = 18", "setBasin 0 6 1 = 0",
            "hours 3 = 35", "basinIs 0 3 = 31", "setBasin 0 6 0 = 1", "hours 7 = 84", "basinIs 0 3 = 94",
            "hours 1 = 91", "basinIs 0 3 = 99", "hours 1 = 98", "basinIs 0 3 = 99", "setDoor 0 4 -1 = 2",
            "hours 10 = 168", "basinIs 0 3 = 9", "hours 1 = 175", "basinIs 0 3 = 0", "hours 1 = 182",
            "basinIs 0 3 = 0");
        Script.run("13 a VOTE counts by its sign, and a tie is still",
            "basin 1 = 0", "door 20 0 90 = 0", "door 20 0 90 = 1", "door 20 0 90 = 2", "hours 1 = 3",
            "basinIs 0 3 = 22", "setDoor 0 4 -1 = 2", "setDoor 1 4 0 = 2", "hours 1 = 6", "basinIs 0 3 = 22");
    }

    private static void water() {
        // HIGH 20, AREA 2: what is above 40 goes over.
        Script.run("13 WATER goes over, by BASINS' numbers",
            "basin 2 = 0", "basin 1 = 1", "setBasin 0 1 45 = 20", "setBasin 1 1 18 = 10", "hours 1 = 0",
            "basinIs 0 1 = 40", "basinIs 1 1 = 20", "count 5 = 3", "rain 3 = 0", "hours 1 = 0", "basinIs 0 1 = 40",
            "basinIs 1 1 = 20", "count 5 = 12", "count 4 = 60");
        Script.run("13 no more goes OVER than may",
            "basin 1 = 0", "basin 1 = 1", "setBasin 0 5 7 = 100", "setBasin 0 1 50 = 10", "setBasin 1 5 0 = 100",
            "setBasin 1 1 20 = 10", "hours 1 = 0", "basinIs 0 1 = 43", "basinIs 1 1 = 27", "count 5 = 0",
            "hours 2 = 0", "basinIs 0 1 = 29", "basinIs 1 1 = 41", "hours 2 = 0", "basinIs 0 1 = 20",
            "basinIs 1 1 = 50");
        Script.run("13 WATER is held at 99999, and what is more is lost, but not LOST",
            "basin 20 = 0", "basin 1 = 1", "rain 9 = 0", "setBasin 0 1 99900 = 200", "setBasin 0 5 9 = 100",
            "setBasin 1 1 99999 = 10", "setBasin 1 5 1 = 100", "hours 1 = 0", "basinIs 0 1 = 99990",
            "basinIs 1 1 = 99998", "count 5 = 1", "hours 1 = 0", "basinIs 0 1 = 99990", "basinIs 1 1 = 99998",
            "count 5 = 2");
        Script.run("13 LOST is held at 999999",
            "basin 20 = 0", "basin 20 = 1", "basin 20 = 2", "basin 20 = 3", "basin 20 = 4", "basin 20 = 5",
            "setBasin 0 5 999 = 100", "setBasin 1 5 999 = 100", "setBasin 2 5 999 = 100", "setBasin 3 5 999 = 100",
            "setBasin 4 5 999 = 100", "setBasin 5 5 999 = 100", "rain 9 = 0", "setBasin 0 1 99999 = 200",
            "setBasin 1 1 99999 = 200", "setBasin 2 1 99999 = 200", "setBasin 3 1 99999 = 200",
            "setBasin 4 1 99999 = 200", "setBasin 5 1 99999 = 200", "20 times hours 48 = 0", "count 5 = 959040",
            "hours 40 = 0", "count 5 = 999000", "hours 1 = 0", "count 5 = 999999", "hours 1 = 0", "count 5 = 999999");
        Script.run("13 FLOODED and DRY by LEVELS behind the HOUR's water",
            "basin 1 = 0", "door 0 0 12 = 0", "door 0 0 23 = 1", "rain 3 = 0", "hours 1 = 3", "doorIs 0 6 = 1",
            "doorIs 1 7 = 0", "rain 0 = 3", "setBasin 0 1 12 = 13", "hours 1 = 4", "doorIs 0 6 = 1", "doorIs 1 7 = 1");
    }

    private static void wetHours() {
        Script.run("14 wet, 15 seed",
            "basin 1 = 0", "door 0 0 13 = 0", "wet 0 = BEYOND", "wet 49 = BEYOND", "count 9 = 1", "wet 1 = 3",
            "count 3 = 4", "count 9 = 1103527590", "basinIs 0 0 = 14", "count 2 = 1", "seed 1 = 1103527590",
            "wet 1 = 6", "count 3 = 4", "basinIs 0 0 = 18", "seed 0 = 1103527590", "wet 1 = 9", "count 9 = 12345",
            "count 3 = 8", "seed -5 = 12345", "count 9 = -5", "seed -2147483648 = -5", "seed 1 = -2147483648",
            "wet 5 = 24", "count 3 = 7", "count 9 = -112468174", "told 1 = 2");
        Script.run("15 seed: a z below 0 gives a draw that is not",
            "seed -1103527591 = 1", "wet 1 = 0", "count 9 = " + (-1103527591 * 1103515245 + 12345),
            "count 3 = " + ((-1103527591 * 1103515245 + 12345) >>> 8) % 10);
    }

    private static void ahead() {
        Script.run("16 then",
            "basin 5 = 0", "basin 1 = 1", "door 20 0 90 = 0", "rain 4 = 0", "then 0 0 0 = 10", "then 0 0 8 = 1",
            "then 1 0 0 = 14", "then 2 0 1 = 90", "then 2 0 2 = 5", "then 2 0 3 = 24", "then 2 0 4 = 2",
            "then 2 0 5 = 100", "then 2 0 6 = 0", "then 2 0 7 = 50", "then 2 0 8 = 1", "then 48 0 8 = 0",
            "then 49 0 0 = BEYOND", "then -1 0 0 = BEYOND", "then 1 2 0 = BEYOND", "then 1 -1 0 = BEYOND",
            "then 1 0 9 = BEYOND", "then 1 0 -1 = BEYOND", "then 3 1 0 = 20", "count 2 = 0", "basinIs 0 1 = 50",
            "basinIs 0 3 = 20", "doorIs 0 7 = 0", "count 5 = 0", "told 1 = 6");
        Script.run("17 thenDoor",
            "basin 1 = 0", "door 22 0 24 = 0", "rain 2 = 0", "thenDoor 0 0 8 = 1", "thenDoor 0 0 7 = 0",
            "thenDoor 1 0 7 = 0", "rain 1 = 2", "thenDoor 1 0 7 = 1", "thenDoor 5 0 7 = 1", "thenDoor 1 0 9 = 1",
            "thenDoor 3 0 0 = 2", "thenDoor 3 0 1 = 2", "thenDoor 3 0 2 = 0", "thenDoor 3 0 3 = 24",
            "thenDoor 3 0 4 = 2", "thenDoor 3 0 5 = 0", "thenDoor 3 0 6 = 0", "thenDoor 12 0 8 = 0",
            "thenDoor 11 0 8 = 1", "thenDoor 16 0 6 = 2", "thenDoor 16 0 9 = 7", "thenDoor 49 0 0 = BEYOND",
            "thenDoor -1 0 0 = BEYOND", "thenDoor 1 1 0 = BEYOND", "thenDoor 1 -1 0 = BEYOND",
            "thenDoor 1 0 10 = BEYOND", "thenDoor 1 0 -1 = BEYOND", "doorIs 0 7 = 0", "told 1 = 6");
        Script.run("16, 17 AHEAD, HOURS so far go by, too",
            "basin 1 = 0", "door 60 0 20 = 0", "type h-2 = 0", "text 0 = 1", "thenDoor 0 0 8 = -1",
            "thenDoor 2 0 8 = 0", "thenDoor 3 0 8 = 1", "then 3 0 3 = 16");
    }

    private static void rowsOfMoves() {
        // RAIN 9 on AREA 1, from LEVEL 10 on: 19 behind an HOUR, if the WEIR is so high; FLOODED above 18.
        Script.run("18 moves",
            "basin 1 = 0", "basin 1 = 1", "door 0 0 18 = 0", "rain 9 = 0", "moves 0 0 = 0", "moves 0 1 = 0",
            "moves 0 2 = 3", "moves 0 3 = 3", "moves 0 11 = 0", "moves 0 12 = 0", "moves 0 13 = 3", "moves 0 31 = 6",
            "moves 0 333333 = 18", "moves 0 111111 = 0", "moves 1 1 = 3", "moves 0 4 = BEYOND", "moves 0 10 = BEYOND",
            "moves 0 101 = BEYOND", "moves 0 14 = BEYOND", "moves 0 41 = BEYOND", "moves 0 -1 = BEYOND",
            "moves 0 1111111 = BEYOND", "moves 0 -2147483648 = BEYOND", "moves 0 2147483647 = BEYOND",
            "moves 2 1 = BEYOND", "moves -1 1 = BEYOND", "told 1 = 11", "setBasin 0 6 1 = 0", "moves 0 1 = 3",
            "setBasin 0 6 0 = 1", "setBasin 0 4 0 = 2", "moves 0 1 = 3", "count 2 = 0", "basinIs 0 3 = 20");
        Script.run("18 moves, whatever the VOTES; the others by theirs",
            "basin 1 = 0", "basin 1 = 1", "door 20 0 90 = 0", "door 0 1 18 = 1", "setDoor 1 4 -1 = 2", "rain 9 = 0",
            "moves 0 2 = 1", "moves 0 1 = 1", "setDoor 1 4 2 = -1", "moves 0 2 = 4", "moves 0 1 = 4",
            "setBasin 0 1 20 = 10", "setBasin 1 1 9 = 10", "setBasin 0 5 1 = 100", "moves 0 1 = 4", "moves 1 1 = 1");
        Script.run("19 best",
            "basin 1 = 0", "best 0 5 0 = 11111", "best 0 5 1 = 0", "door 0 0 18 = 0", "rain 9 = 0", "best 0 1 0 = 1",
            "best 0 1 1 = 0", "best 0 2 0 = 11", "setBasin 0 4 1 = 2", "best 0 2 0 = 11", "best 0 2 1 = 3",
            "best 0 0 0 = BEYOND", "best 0 6 0 = BEYOND", "best 0 1 2 = BEYOND", "best 0 1 -1 = BEYOND",
            "best 1 1 0 = BEYOND", "best -1 1 0 = BEYOND", "told 1 = 6", "rain 0 = 9", "setDoor 0 3 34 = 18",
            "setBasin 0 4 5 = 1", "setBasin 0 1 25 = 10", "best 0 1 0 = 3", "best 0 1 1 = 0", "best 0 3 0 = 322",
            "setBasin 0 1 24 = 25", "best 0 3 0 = 322", "setDoor 0 3 29 = 34", "best 0 3 0 = 222",
            "best 0 5 1 = 0", "count 2 = 0", "basinIs 0 3 = 20");
    }

    private static void stormsAndChanges() {
        // LEVEL 25 above the WEIR's 20: up keeps it at 25 whatever it rains, still lets it fall to 20, DRY below 24.
        Script.run("20 storm",
            "basin 1 = 0", "storm 0 12 0 = 1", "storm 0 12 1 = 0", "door 0 0 34 = 0", "setBasin 0 4 5 = 2",
            "setBasin 0 1 25 = 10", "storm 0 1 0 = 3", "storm 0 1 1 = 0", "setDoor 0 3 19 = 34", "storm 0 1 0 = 1",
            "storm 0 1 1 = 0", "storm 0 2 1 = 0", "storm 0 0 0 = BEYOND", "storm 0 13 0 = BEYOND",
            "storm 0 1 2 = BEYOND", "storm 0 1 -1 = BEYOND", "storm 1 1 0 = BEYOND", "storm -1 1 0 = BEYOND",
            "told 1 = 6", "count 2 = 0", "count 3 = 0", "basinIs 0 3 = 20");
        // One DOOR is DRY in no RAIN, another one FLOODED by much: still gives 10 .. 14, up 10 .. 19, down 10 .. 11.
        Script.run("20 storm: the worst of 0 .. 9",
            "basin 1 = 0", "door 0 0 13 = 0", "door 0 0 21 = 1", "setBasin 0 3 14 = 20", "setBasin 0 4 3 = 2",
            "storm 0 1 0 = 1", "storm 0 1 1 = 1", "setDoor 1 3 22 = 21", "storm 0 1 1 = 1", "storm 0 2 1 = 2",
            "setDoor 0 4 1 = 2", "storm 0 2 0 = 1", "storm 0 2 1 = 4");
        // DOOR 0 is FLOODED above 18 by RAIN 9; BOUGHT down, it holds the WEIR at 18.
        Script.run("21 changes",
            "changes 1 = 0", "basin 1 = 0", "door 0 0 18 = 0", "changes 1 = 0", "rain 9 = 0", "changes 1 = 1",
            "changes 2 = 1", "setDoor 0 5 1 = 0", "changes 1 = 0", "setDoor 0 5 0 = 1", "setDoor 0 4 -1 = 2",
            "changes 1 = 0", "setDoor 0 4 1 = -1", "changes 1 = 1", "doorIs 0 4 = 1", "setDoor 0 4 2 = 1",
            "door 0 0 19 = 1", "changes 1 = 1", "door 0 0 18 = 2", "changes 1 = 5", "changes 12 = 7",
            "changes 0 = BEYOND", "changes 13 = BEYOND", "changes -1 = BEYOND", "told 1 = 3", "count 2 = 0",
            "basinIs 0 3 = 20");
        // Down in the first HOUR alone holds LEVEL at 18, in both of them at 16.
        Script.run("21 changes: behind the first HOUR as it is",
            "basin 1 = 0", "door 0 0 17 = 0", "rain 9 = 0", "changes 1 = 0", "changes 2 = 0", "setDoor 0 4 -1 = 2",
            "thenDoor 2 0 9 = 3", "setDoor 0 3 18 = 17", "setDoor 0 4 2 = -1", "changes 2 = 1");
    }

    private static void buys() {
        Script.run("22 buys",
            "basin 1 = 0", "basin 1 = 1", "buys 0 1 = NONE", "door 10 0 5 = 0", "buys 0 -1 = 0", "buys 0 1 = 1",
            "door 10 0 5 = 1", "buys 0 1 = 2", "door 0 0 5 = 2", "buys 0 1 = 2", "door 10 0 5 = 3", "buys 0 1 = 2",
            "door 20 0 50 = 4", "buys 0 1 = 2", "door 20 0 50 = 5", "buys 0 1 = 1", "buys 0 -1 = 0",
            "setDoor 0 5 1 = 0", "buys 0 1 = 1", "buys 0 -1 = 1", "setDoor 1 5 1 = 0", "buys 0 1 = 0",
            "buys 0 -1 = 1", "door 20 1 50 = 6", "buys 1 1 = 0", "buys 1 -1 = 1", "setDoor 6 5 1 = 0",
            "buys 1 1 = NONE", "buys 1 -1 = NONE", "setDoor 6 5 0 = 1", "setDoor 6 4 -1 = 2", "buys 1 1 = 1",
            "buys 1 0 = BEYOND", "buys 1 2 = BEYOND", "buys 1 -2 = BEYOND", "buys 2 1 = BEYOND", "buys -1 1 = BEYOND",
            "doorIs 6 4 = -1", "told 1 = 5", "told 2 = 3");
        Script.run("22 buys: DOORS that are still count once",
            "basin 1 = 0", "door 0 0 5 = 0", "door 0 0 5 = 1", "door 10 0 5 = 2", "buys 0 1 = 1", "setDoor 2 5 1 = 0",
            "buys 0 1 = 1", "setDoor 0 5 1 = 0", "setDoor 1 5 1 = 0", "buys 0 1 = NONE", "buys 0 -1 = NONE");
    }

    private static void comes() {
        Script.run("23 comes",
            "basin 1 = 0", "basin 1 = 1", "basin 1 = 2", "comes 0 0 0 = 0", "comes 0 1 0 = NONE", "comes 0 1 1 = 1",
            "comes 0 2 1 = NONE", "comes 0 2 2 = 2", "comes 2 0 48 = 2", "comes 2 1 48 = 1", "setBasin 0 1 13 = 10",
            "comes 0 1 1 = 1", "comes 1 0 1 = 1", "setBasin 0 1 14 = 13", "comes 0 1 48 = NONE",
            "setBasin 0 1 7 = 14", "comes 0 1 1 = 1", "setBasin 0 1 6 = 7", "comes 0 1 48 = NONE",
            "setBasin 0 1 10 = 6", "setBasin 0 7 12 = 50", "comes 0 1 1 = 1", "comes 1 0 1 = 1",
            "setBasin 0 1 11 = 10", "comes 0 1 48 = NONE", "setBasin 0 1 9 = 11", "comes 1 0 1 = 1",
            "setBasin 0 7 11 = 12", "comes 1 0 48 = NONE", "setBasin 1 7 12 = 50", "comes 1 2 1 = 1",
            "comes 2 1 1 = 1", "setBasin 2 7 0 = 50", "comes 2 1 1 = 1", "comes 0 3 1 = BEYOND",
            "comes 3 0 1 = BEYOND", "comes -1 0 1 = BEYOND", "comes 0 -1 1 = BEYOND", "comes 0 0 49 = BEYOND",
            "comes 0 0 -1 = BEYOND", "told 1 = 6", "count 2 = 0");
        // BASIN 0 sinks by 2 an HOUR: 26, 24, 22, 20, ..; BASIN 1 takes what comes and stands at 10 + 2, + 2, ..
        Script.run("23 comes: LEVELS behind each HOUR; it waits",
            "basin 1 = 0", "basin 1 = 1", "setBasin 0 1 24 = 10", "setBasin 0 5 2 = 100", "setBasin 1 5 0 = 100",
            "comes 0 1 2 = NONE", "comes 0 1 48 = NONE", "setBasin 1 1 15 = 10", "comes 0 1 1 = NONE",
            "comes 0 1 2 = 2", "comes 1 0 48 = 2");
    }

    private static void voices() {
        // All by x = 7; m is 3 and k the DOOR's number.
        Script.run("24 voice",
            "basin 1 = 0", "door 3 0 5 = 0", "door 13 0 5 = 1", "door 23 0 5 = 2", "door 33 0 5 = 3", "door 43 0 5 = 4",
            "door 53 0 5 = 5", "door 63 0 5 = 6", "voice 0 0 7 = 7", "voice 0 1 7 = 14", "voice 0 2 7 = 11",
            "voice 0 3 7 = 2", "voice 1 0 7 = 1", "voice 1 1 7 = 2", "voice 1 2 7 = -1", "voice 1 3 7 = -7",
            "voice 2 0 7 = 9", "voice 2 1 7 = -18", "voice 2 2 7 = -21", "voice 2 3 7 = 7", "voice 3 0 7 = 30",
            "voice 3 1 7 = -60", "voice 3 2 7 = -62", "voice 3 3 7 = PARTED", "voice 4 0 7 = 11", "voice 4 1 7 = 22",
            "voice 4 2 7 = 11", "voice 4 3 7 = -7", "voice 5 0 7 = 5", "voice 5 1 7 = 12", "voice 5 2 7 = 9",
            "voice 5 3 7 = -3", "voice 6 0 7 = 4", "voice 6 1 7 = 11", "voice 6 2 7 = 8", "voice 6 3 7 = -2",
            "voice 7 0 7 = BEYOND", "voice -1 0 7 = BEYOND", "voice 0 4 7 = BEYOND", "voice 0 -1 7 = BEYOND",
            "told 1 = 4", "told 6 = 1");
        Script.run("24 voice: ints wrap, quotients are cut",
            "basin 1 = 0", "door 0 0 5 = 0", "door 0 0 5 = 1", "door 40 0 5 = 2", "door 30 0 5 = 3",
            "voice 1 0 2147483647 = -2147483648", "voice 1 1 1073741823 = -2147483648",
            "voice 1 3 -2147483648 = -2147483648", "voice 1 3 7 = -7", "voice 2 2 -7 = -2", "voice 2 3 -7 = 3",
            "voice 3 0 1000000000 = -1294967287", "voice 0 3 7 = PARTED");
        Script.run("24 PARTED is all that voice() answers, also inside",
            "basin 1 = 0", "door 10 0 5 = 0", "door 11 0 5 = 1", "door 52 0 5 = 2", "voice 0 3 7 = PARTED",
            "voice 1 3 7 = PARTED", "voice 2 3 7 = PARTED", "voice 1 0 7 = 1", "told 6 = 3");
        Script.run("25 body",
            "basin 1 = 0", "door 0 0 5 = 0", "door 10 0 5 = 1", "door 20 0 5 = 2", "door 30 0 5 = 3", "door 40 0 5 = 4",
            "door 50 0 5 = 5", "door 60 0 5 = 6", "body 0 = NONE", "count 8 = 0",
            "voice 3 2 7 = -57", "count 8 = 6", "body 0 = 41", "body 1 = 12", "body 2 = 30", "body 3 = 11",
            "body 4 = 40", "body 5 = 10", "body 6 = NONE", "body -1 = NONE", "body 2147483647 = NONE",
            "voice 1 3 7 = -17", "count 8 = 5", "body 0 = 21", "body 1 = 13", "body 2 = 11", "body 3 = 20",
            "body 4 = 10", "body 5 = NONE", "voice 5 3 10 = -2", "count 8 = 6", "body 0 = 21", "body 1 = 13",
            "body 2 = 60", "body 3 = 11", "body 4 = 20", "body 5 = 10", "voice 4 2 7 = 14", "count 8 = 4",
            "body 0 = 50", "body 1 = 12", "body 2 = 11", "body 3 = 10", "voice 6 2 7 = 8", "count 8 = 4",
            "body 0 = 12", "body 1 = 71", "body 2 = 11", "body 3 = 70", "voice 2 0 7 = 9", "count 8 = 1",
            "body 0 = 10", "told 2 = 5");
        Script.run("25 body: a voice() that PARTED is the latest one, with the BODIES that had begun",
            "basin 1 = 0", "door 0 0 5 = 0", "door 11 0 5 = 1", "door 52 0 5 = 2", "door 33 0 5 = 3", "door 44 0 5 = 4",
            "door 65 0 5 = 5", "voice 0 3 7 = PARTED", "count 8 = 1", "body 0 = 13", "body 1 = NONE",
            "voice 1 2 7 = 1", "count 8 = 4", "voice 1 3 7 = PARTED", "count 8 = 2", "body 0 = 21", "body 1 = 13",
            "body 2 = NONE", "voice 1 0 7 = 1", "count 8 = 2", "body 0 = 20", "body 1 = 10", "voice 2 3 7 = PARTED",
            "count 8 = 2", "body 0 = 21", "body 1 = 13", "voice 3 3 7 = PARTED", "count 8 = 1", "body 0 = 13",
            "voice 4 3 7 = PARTED", "count 8 = 1", "body 0 = 13", "voice 5 1 7 = 13", "count 8 = 3",
            "voice 5 3 7 = PARTED", "count 8 = 1", "body 0 = 13", "told 6 = 6");
        Script.run("25 body: a voice() that is BEYOND, and restore(), leave THE TRACE as it was",
            "basin 1 = 0", "door 0 0 5 = 0", "image = 1", "voice 0 1 7 = 14", "voice 1 0 7 = BEYOND",
            "voice 0 4 7 = BEYOND", "count 8 = 2", "body 0 = 11", "body 1 = 10", "voice 0 3 7 = PARTED", "restore = 0",
            "voice 0 -1 7 = BEYOND", "count 8 = 1", "body 0 = 13");
    }

    private static void sheets() {
        Script.run("26 sheet",
            "sheet 0 8 24 = 1", "sheet 3 32 0 = 1", "sheet 1 16 1 = 1", "sheet 4 8 1 = BEYOND", "sheet -1 8 1 = BEYOND",
            "sheet 0 7 1 = BEYOND", "sheet 0 -8 1 = BEYOND", "sheet 0 64 1 = BEYOND", "sheet 0 8 -1 = STATE",
            "sheet 0 8 -2147483648 = STATE", "sheet 0 8 25 = BEYOND", "sheet 0 8 2147483647 = BEYOND",
            "sheet 4 8 -1 = BEYOND", "sheet 0 9 -1 = BEYOND", "put 0 23 5 = 1", "put 0 24 5 = BEYOND",
            "put 3 0 5 = BEYOND", "sheet 0 0 -5 = 1", "put 0 0 5 = NONE", "sheet 0 0 99 = 1", "sheet 9 0 0 = BEYOND",
            "told 1 = 12", "told 3 = 2", "told 2 = 1");
        Script.run("26 sheet: all 0, again",
            "basin 1 = 0", "door 0 0 5 = 0", "sheet 0 32 2 = 1", "put 0 0 7 = 1", "votes 0 = 0", "sheet 0 32 2 = 1",
            "votes 0 = 1", "doorIs 0 4 = 0");
        // LEVEL stays 10: OFF tells what a number is.
        Script.run("27 put",
            "basin 1 = 0", "sheet 0 8 1 = 1", "sheet 1 16 1 = 1", "sheet 2 32 1 = 1", "put 0 0 127 = 1",
            "off 0 0 = 117",
            "put 0 0 128 = 1", "off 0 0 = 138", "put 0 0 266 = 1", "off 0 0 = 0", "put 0 0 -1 = 1", "off 0 0 = 11",
            "put 1 0 128 = 1", "off 0 1 = 118", "put 1 0 65500 = 1", "off 0 1 = 46", "put 1 0 65546 = 1", "off 0 1 = 0",
            "put 1 0 32768 = 1", "off 0 1 = 1000", "put 2 0 65546 = 1", "off 0 2 = 1000", "put 2 0 -500 = 1",
            "off 0 2 = 510", "put 4 0 1 = BEYOND", "put -1 0 1 = BEYOND", "put 3 0 1 = NONE", "put 3 9 1 = NONE",
            "put 0 1 1 = BEYOND", "put 0 -1 1 = BEYOND", "put 0 -2147483648 1 = BEYOND", "told 1 = 5", "told 2 = 2");
    }

    private static void movesOfSheets() {
        Script.run("28 move",
            "basin 1 = 0", "setBasin 0 1 0 = 10", "sheet 0 8 4 = 1", "sheet 1 8 2 = 1", "sheet 2 16 4 = 1",
            "put 0 0 1 = 1", "put 0 1 10 = 1", "put 0 2 100 = 1", "move 0 0 0 1 3 = 3", "off 0 0 = 112",
            "move 0 1 0 0 3 = 3", "off 0 0 = 211", "move 0 1 1 0 2 = 2", "off 0 1 = 110", "move 0 0 1 1 1 = 1",
            "off 0 1 = 11", "move 1 0 0 2 2 = 2", "off 0 0 = 22", "move 0 0 1 0 0 = 0", "move 0 4 1 2 0 = 0",
            "move 0 5 1 0 0 = BEYOND", "move 0 0 1 3 0 = BEYOND", "move 0 0 1 0 3 = BEYOND", "move 1 0 0 0 3 = BEYOND",
            "move 1 1 0 0 2 = BEYOND", "move 0 0 1 1 2 = BEYOND", "move 0 -1 1 0 1 = BEYOND",
            "move 0 0 1 -1 1 = BEYOND", "move 0 0 1 0 -1 = BEYOND", "move 0 2147483647 1 0 1 = BEYOND",
            "move 0 0 1 2147483647 1 = BEYOND", "move 0 1 1 1 2147483647 = BEYOND", "move 0 0 2 0 1 = KIND",
            "move 0 -1 2 0 1 = KIND", "move 0 0 3 0 1 = NONE", "move 3 0 0 0 1 = NONE", "move 3 -1 3 0 1 = NONE",
            "move 4 0 0 0 1 = BEYOND", "move 0 0 4 0 1 = BEYOND", "move 3 0 -1 0 1 = BEYOND", "off 0 0 = 22",
            "off 0 1 = 11", "told 1 = 15", "told 2 = 3", "told 5 = 2");
        Script.run("29 votes",
            "basin 1 = 0", "door 0 0 5 = 0", "door 0 0 5 = 1", "door 0 0 5 = 2", "sheet 0 8 2 = 1", "put 0 0 -1 = 1",
            "put 0 1 1 = 1", "votes 0 = 2", "doorIs 0 4 = -1", "doorIs 1 4 = 1", "doorIs 2 4 = 2", "put 0 0 3 = 1",
            "votes 0 = 0", "doorIs 0 4 = -1", "put 0 0 2 = 1", "put 0 1 -2 = 1", "votes 0 = 1", "doorIs 0 4 = 2",
            "doorIs 1 4 = 1", "sheet 1 16 24 = 1", "votes 1 = 3", "doorIs 2 4 = 0", "sheet 2 32 0 = 1", "votes 2 = 0",
            "votes 3 = NONE", "votes 4 = BEYOND", "votes -1 = BEYOND", "told 1 = 2", "told 2 = 1");
    }

    private static void records() {
        // RAIN 3: LEVELS 13, 16, 19, 20, 20.
        Script.run("30 off",
            "basin 1 = 0", "basin 2 = 1", "rain 3 = 0", "sheet 0 32 4 = 1", "off 0 0 = 68", "put 0 0 13 = 1",
            "put 0 1 17 = 1", "put 0 2 17 = 1", "put 0 3 20 = 1", "off 0 0 = 3", "off 1 0 = 3",
            "setBasin 1 1 30 = 20", "off 1 0 = 11", "put 0 3 2147483647 = 1",
            "off 0 0 = 1003", "put 0 3 -2147483648 = 1", "off 0 0 = 1003", "put 0 3 -979 = 1", "off 0 0 = 1002",
            "put 0 3 1020 = 1", "off 0 0 = 1003", "sheet 1 8 0 = 1", "off 0 1 = 0", "off 0 2 = NONE",
            "off 0 4 = BEYOND", "off 0 -1 = BEYOND", "off 2 0 = BEYOND", "off -1 0 = BEYOND", "off 2 2 = BEYOND",
            "count 2 = 0", "basinIs 0 0 = 10", "told 1 = 5", "told 2 = 1");
        Script.run("31 rained",
            "basin 1 = 0", "sheet 0 32 3 = 1", "put 0 0 14 = 1", "put 0 1 18 = 1", "put 0 2 20 = 1", "rained 0 0 = 4",
            "rain 9 = 0", "rained 0 0 = 4", "count 3 = 9", "put 0 0 10 = 1", "put 0 1 0 = 1", "put 0 2 0 = 1",
            "rained 0 0 = 0", "put 0 0 20 = 1", "put 0 1 20 = 1", "put 0 2 20 = 1", "rained 0 0 = 9",
            "put 0 0 13 = 1", "put 0 1 17 = 1", "put 0 2 20 = 1", "rained 0 0 = 3",
            "sheet 1 8 0 = 1", "rained 0 1 = 0", "rained 0 2 = NONE", "rained 0 4 = BEYOND", "rained 0 -1 = BEYOND",
            "rained 1 0 = BEYOND", "rained -1 0 = BEYOND", "count 2 = 0", "told 1 = 4", "told 2 = 1");
    }

    private static void images() {
        Script.run("32 image, 33 restore",
            "restore = NONE", "basin 2 = 0", "door 60 0 5 = 0", "rain 3 = 0", "seed 77 = 1", "type w-l = 0",
            "text 0 = 1", "type 7 = 0", "text 1 = 1", "type ab = 0", "tell 1 = 1", "hours 2 = 7", "sheet 0 8 1 = 1",
            "put 0 0 1 = 1", "voice 0 0 1 = 4", "image = 1", "count 5 = 0",
            "basin 3 = 1", "door 0 0 5 = 1", "setBasin 0 7 3 = 50", "setDoor 0 4 -1 = 2", "rain 9 = 3", "wet 5 = 14",
            "untell 0 = 1", "untell 1 = 1", "type cde = 0", "tell 4 = 2", "sheet 0 8 2 = 1", "voice 0 1 1 = 8",
            "sheet 1 16 1 = 1",
            "restore = 2", "count 0 = 1", "count 1 = 1", "count 2 = 2", "count 3 = 3", "count 4 = 32", "count 5 = 0",
            "count 6 = 2", "count 7 = 1", "count 9 = 77", "count 8 = 3", "basinIs 0 7 = 50", "basinIs 0 3 = 24",
            "doorIs 0 4 = 2", "doorIs 0 8 = 1", "doorIs 0 9 = 7", "doorIs 0 6 = 2", "put 0 1 1 = 1", "put 1 0 1 = 1",
            "told 2 = 1", "check = 0", "restore = 2", "count 7 = 1", "image = 2", "hours 1 = 7", "image = 3",
            "restore = 3", "hours 4 = 7", "restore = 3", "untell 0 = 1", "untell 1 = 1", "restore = 3",
            "untell 0 = 1", "untell 1 = 1", "told 2 = 1");
        Script.run("33 restore: BASINS and DOORS that came later are gone, and come again as at first",
            "basin 1 = 0", "image = 1", "basin 2 = 1", "setBasin 1 3 50 = 20", "setBasin 1 6 1 = 0",
            "setBasin 1 4 5 = 2", "setBasin 1 5 5 = 100", "setBasin 1 7 5 = 50", "door 12 1 5 = 0", "setDoor 0 5 1 = 0",
            "setDoor 0 4 1 = 2", "hours 3 = 9", "setDoor 0 3 50 = 5", "hours 2 = 11", "restore = 0",
            "basinIs 1 0 = BEYOND", "doorIs 0 0 = BEYOND",
            "basin 4 = 1", "basinIs 1 1 = 40", "basinIs 1 2 = 4", "basinIs 1 3 = 20", "basinIs 1 4 = 2",
            "basinIs 1 5 = 100", "basinIs 1 6 = 0", "basinIs 1 7 = 50", "door 0 0 9 = 0", "doorIs 0 4 = 2",
            "doorIs 0 5 = 0",
            "doorIs 0 6 = 0", "doorIs 0 7 = 0", "doorIs 0 2 = 0", "doorIs 0 1 = 0");
        Script.run("32 image: LOST and FLOODED, DRY are in it",
            "basin 1 = 0", "door 0 0 5 = 0", "door 0 0 50 = 1", "setBasin 0 1 25 = 10", "hours 1 = 4", "count 5 = 5",
            "image = 1", "setBasin 0 1 99 = 20", "hours 2 = 12", "count 5 = 84", "restore = 1", "count 5 = 5",
            "doorIs 0 6 = 1", "doorIs 1 7 = 1");
    }

    private static void waiting() {
        VotedWater x = new VotedWater();
        for (int i = 1; i <= 24; i++) {
            Script.expect("34 tell", x.tell(-i), i);
        }
        Script.expect("34 tell: FULL", x.tell(1), -1000004);
        Script.expect("34 24 wait", x.count(7), 24);
        Script.expect("35 check: too many", x.check(), 1);
        Script.expect("35 none waits", x.count(7), 0);
        Script.expect("34 tell", x.tell(-2147483648), 1);
        Script.run("35 check",
            "basin 1 = 0", "check = 0", "door 10 0 5 = 0", "door 0 0 5 = 1", "door 20 0 50 = 2", "check = 1",
            "tell -1 = 1", "tell 0 = 2", "tell 1 = 3", "check = 0", "count 7 = 0", "check = 1",
            "tell -1 = 1", "tell 0 = 2", "check = 3", "tell -1 = 1", "check = 2", "tell -1 = 1", "tell 0 = 2",
            "tell 1 = 3", "tell 0 = 4", "check = 4", "tell -1 = 1", "tell 1 = 2", "tell 1 = 3", "tell 1 = 4",
            "check = 2", "tell 1 = 1", "check = 1", "setDoor 0 4 1 = 2", "tell 1 = 1", "tell 0 = 2", "tell 1 = 3",
            "check = 0", "told 1 = 0");
    }

    private static void counts() {
        Script.run("36 count",
            "count -1 = BEYOND", "count 10 = BEYOND", "count 2147483647 = BEYOND", "basin 2 = 0", "count 0 = 1",
            "count 1 = 0", "basin 3 = 1", "count 0 = 2", "count 4 = 50", "door 0 0 5 = 0", "count 1 = 1", "rain 7 = 0",
            "count 3 = 7", "hours 2 = 6", "count 2 = 2", "count 4 = 100", "count 5 = 20", "feed 1 3 = 3",
            "count 6 = 3", "tell 1 = 1", "count 7 = 1", "voice 0 2 1 = 2", "count 8 = 3", "seed -2000000 = 1",
            "count 9 = -2000000", "told 1 = 3");
        Script.run("37 told",
            "told 0 = BEYOND", "told 7 = BEYOND", "told -1 = BEYOND", "told 1 = 3", "told 2 = 0", "restore = NONE",
            "body 0 = NONE", "told 2 = 2", "sheet 0 8 -1 = STATE", "told 3 = 1", "24 times feed 0 9 = BEYOND",
            "told 1 = 27", "sheet 0 8 1 = 1", "sheet 1 16 1 = 1", "move 0 0 1 0 1 = KIND", "told 5 = 1", "basin 1 = 0",
            "door 0 0 0 = 0", "voice 0 3 5 = PARTED", "told 6 = 1", "told 4 = 0", "7 times text 2 = BEYOND",
            "told 2147483647 = BEYOND", "seed -1000002 = 1", "seed 1 = -1000002", "told 2 = 2", "told 1 = 35");
    }
}
