/** The program's calls by their names, for tests that make them up. */
final class Face {
    static final String[] CALLS = {
        "basin", "basinIs", "setBasin", "door", "doorIs", "as", "setDoor", "rain", "feed", "text", "untell", "hours",
        "wet", "seed", "then", "thenDoor", "moves", "best", "storm", "changes", "buys", "comes", "voice", "body",
        "sheet", "put", "move", "votes", "off", "rained", "image", "restore", "tell", "check", "count", "told",
    };
    static final int[] ARGUMENTS = {
        1, 2, 3, 3, 2, 2, 3, 1, 2, 1, 1, 1,
        1, 1, 3, 3, 2, 3, 3, 1, 2, 3, 3, 1,
        3, 3, 5, 1, 2, 2, 0, 0, 1, 0, 1, 1,
    };

    private Face() {
    }

    static int call(VotedWater x, String name, long... args) {
        int[] a = new int[6];
        for (int i = 0; i < args.length; i++) {
            a[i] = (int) args[i];
        }
        switch (name) {
            case "basin": return x.basin(a[0]);
            case "basinIs": return x.basinIs(a[0], a[1]);
            case "setBasin": return x.setBasin(a[0], a[1], a[2]);
            case "door": return x.door(a[0], a[1], a[2]);
            case "doorIs": return x.doorIs(a[0], a[1]);
            case "as": return x.as(a[0], a[1]);
            case "setDoor": return x.setDoor(a[0], a[1], a[2]);
            case "rain": return x.rain(a[0]);
            case "feed": return x.feed(args[0], a[1]);
            case "text": return x.text(a[0]);
            case "untell": return x.untell(a[0]);
            case "hours": return x.hours(a[0]);
            case "wet": return x.wet(a[0]);
            case "seed": return x.seed(a[0]);
            case "then": return x.then(a[0], a[1], a[2]);
            case "thenDoor": return x.thenDoor(a[0], a[1], a[2]);
            case "moves": return x.moves(a[0], a[1]);
            case "best": return x.best(a[0], a[1], a[2]);
            case "storm": return x.storm(a[0], a[1], a[2]);
            case "changes": return x.changes(a[0]);
            case "buys": return x.buys(a[0], a[1]);
            case "comes": return x.comes(a[0], a[1], a[2]);
            case "voice": return x.voice(a[0], a[1], a[2]);
            case "body": return x.body(a[0]);
            case "sheet": return x.sheet(a[0], a[1], a[2]);
            case "put": return x.put(a[0], a[1], a[2]);
            case "move": return x.move(a[0], a[1], a[2], a[3], a[4]);
            case "votes": return x.votes(a[0]);
            case "off": return x.off(a[0], a[1]);
            case "rained": return x.rained(a[0], a[1]);
            case "image": return x.image();
            case "restore": return x.restore();
            case "tell": return x.tell(a[0]);
            case "check": return x.check();
            case "count": return x.count(a[0]);
            case "told": return x.told(a[0]);
            default: throw new IllegalStateException(name);
        }
    }
}
