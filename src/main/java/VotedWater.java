import java.util.Arrays;

/**
 * A town on basins, one below the other, whose weirs move as the doors on them vote.
 * The words in capitals and the numbers are those of the document, ../shared/DOC.md.
 *
 * Every object is made in a constructor and used again: no call makes one.
 */
public final class VotedWater {
    private static final int LOW = -1000000;
    private static final int BEYOND = 1;
    private static final int NONE = 2;
    private static final int STATE = 3;
    private static final int FULL = 4;
    private static final int KIND = 5;
    private static final int PARTED = 6;

    private static final int MOST_BASINS = 6;
    private static final int MOST_DOORS = 12;
    private static final int MOST_BYTES = 60;
    private static final int MOST_WAITING = 24;
    private static final int MOST_SHEETS = 4;
    private static final int MOST_NUMBERS = 24;
    private static final int MOST_BODIES = 30;

    private static final int MOST_WATER = 99999;
    private static final int MOST_LOST = 999999;
    private static final int MOST_MARKS = 99;
    private static final int MOST_RAIN = 9;
    private static final int MOST_COUNTED = 99999;
    private static final int MOST_SO_FAR = 9999;
    private static final int MOST_HOURS = 48;
    private static final int MOST_PLANNED = 12;
    private static final int MOST_MOVES = 6;
    private static final int MOST_BEST = 5;

    private static final int LEVEL = 0;
    private static final int WATER = 1;
    private static final int AREA = 2;
    private static final int HIGH = 3;
    private static final int MOVES = 4;
    private static final int OVER = 5;
    private static final int STUCK = 6;
    private static final int BRIDGE = 7;
    private static final int SUM = 8;

    private static final int ITS_KIND = 0;
    private static final int ITS_M = 1;
    private static final int ITS_BASIN = 2;
    private static final int SILL = 3;
    private static final int BOUGHT = 4;
    private static final int AWAY = 5;
    private static final int FLOODED = 6;
    private static final int DRY = 7;
    private static final int VOTE = 8;
    private static final int PAIN = 9;

    private static final int DOOR = 0;
    private static final int CELLAR = 1;
    private static final int MILL = 2;
    private static final int SWAN = 3;
    private static final int BOAT = 4;
    private static final int FEARED = 5;
    private static final int TOLD = 6;

    private static final int NOT_BOUGHT = 2;
    private static final int NO_BASIN = -1;
    private static final int DOWN = 1;
    private static final int STILL = 2;
    private static final int UP = 3;

    private final Whole now;
    private final Whole kept;
    private int imagesMade;
    private final Reader reader;
    private final Outlook outlook;
    private final Speaker speaker;
    private final Sheet[] sheets;
    private final Row errorsTold;

    public VotedWater() {
        now = new Whole();
        kept = new Whole();
        reader = new Reader(now.tape);
        outlook = new Outlook(now.town, now.voteLaw, now.painLaw);
        speaker = new Speaker();
        sheets = new Sheet[MOST_SHEETS];
        for (int i = 0; i < sheets.length; i++) {
            sheets[i] = new Sheet();
        }
        errorsTold = new Row(PARTED);
        errorsTold.becomeZeros(PARTED);
    }

    // ---- basins, doors

    public int basin(int area) {
        if (!within(area, 1, 20)) {
            return error(BEYOND);
        }
        if (now.town.basinCount >= MOST_BASINS) {
            return error(FULL);
        }
        return now.town.addBasin(area);
    }

    public int basinIs(int basin, int what) {
        if (!now.town.hasBasin(basin) || !within(what, LEVEL, SUM)) {
            return error(BEYOND);
        }
        return now.town.ofBasin(basin, what, now.voteLaw);
    }

    public int setBasin(int basin, int what, int v) {
        if (!now.town.hasBasin(basin) || !Basin.mayBecome(what, v)) {
            return error(BEYOND);
        }
        Basin changed = now.town.basinAt(basin);
        int before = changed.tells(what);
        changed.alter(what, v);
        return before;
    }

    public int door(int km, int basin, int sill) {
        if (!within(km, 0, 10 * TOLD + 9) || !now.town.hasBasin(basin) || !within(sill, 0, MOST_MARKS)) {
            return error(BEYOND);
        }
        if (now.town.doorCount >= MOST_DOORS) {
            return error(FULL);
        }
        return now.town.addDoor(km / 10, km % 10, basin, sill);
    }

    public int doorIs(int door, int what) {
        if (!now.town.hasDoor(door) || !within(what, ITS_KIND, PAIN)) {
            return error(BEYOND);
        }
        return now.town.ofDoor(door, what, now.voteLaw, now.painLaw);
    }

    public int as(int door, int kind) {
        if (!now.town.hasDoor(door) || !within(kind, DOOR, TOLD)) {
            return error(BEYOND);
        }
        Door asked = now.town.doorAt(door);
        return Door.isUnder(asked.kind, kind) ? asked.sill : error(KIND);
    }

    public int setDoor(int door, int what, int v) {
        if (!now.town.hasDoor(door) || !Door.mayBecome(what, v)) {
            return error(BEYOND);
        }
        Door changed = now.town.doorAt(door);
        int before = changed.tells(what);
        changed.alter(what, v);
        return before;
    }

    public int rain(int v) {
        if (!within(v, 0, MOST_RAIN)) {
            return error(BEYOND);
        }
        int before = now.town.rainfall;
        now.town.rainfall = v;
        return before;
    }

    // ---- texts

    public int feed(long word, int n) {
        if (!within(n, 1, 8)) {
            return error(BEYOND);
        }
        if (now.tape.size + n > MOST_BYTES) {
            return error(FULL);
        }
        for (int i = 0; i < n; i++) {
            now.tape.add((int) (word >>> (8 * i)) & 255);
        }
        return now.tape.size;
    }

    public int text(int use) {
        if (!within(use, Law.OF_VOTES, Law.OF_PAIN)) {
            return error(BEYOND);
        }
        int fault = reader.readTape(use);
        now.tape.becomeEmpty();
        if (fault != Reader.NO_FAULT) {
            return -10 - fault;
        }
        lawOf(use).become(reader.code);
        return 1;
    }

    public int untell(int use) {
        if (!within(use, Law.OF_VOTES, Law.OF_PAIN)) {
            return error(BEYOND);
        }
        return lawOf(use).forget() ? 1 : 0;
    }

    // ---- hours

    public int hours(int n) {
        return passHours(n, false);
    }

    public int wet(int n) {
        return passHours(n, true);
    }

    public int seed(int v) {
        int before = now.town.z;
        now.town.z = v;
        return before;
    }

    // ---- ahead

    public int then(int n, int basin, int what) {
        if (!within(n, 0, MOST_HOURS) || !now.town.hasBasin(basin) || !within(what, LEVEL, SUM)) {
            return error(BEYOND);
        }
        return outlook.ahead(n).ofBasin(basin, what, now.voteLaw);
    }

    public int thenDoor(int n, int door, int what) {
        if (!within(n, 0, MOST_HOURS) || !now.town.hasDoor(door) || !within(what, ITS_KIND, PAIN)) {
            return error(BEYOND);
        }
        return outlook.ahead(n).ofDoor(door, what, now.voteLaw, now.painLaw);
    }

    public int moves(int basin, int row) {
        if (!now.town.hasBasin(basin) || !Outlook.isRow(row)) {
            return error(BEYOND);
        }
        return outlook.painsBehindRow(basin, row);
    }

    public int best(int basin, int n, int what) {
        if (!now.town.hasBasin(basin) || !within(n, 1, MOST_BEST) || !within(what, 0, 1)) {
            return error(BEYOND);
        }
        outlook.seekBestRow(basin, n);
        return what == 0 ? outlook.bestFound : outlook.leastPains;
    }

    public int storm(int basin, int n, int what) {
        if (!now.town.hasBasin(basin) || !within(n, 1, MOST_PLANNED) || !within(what, 0, 1)) {
            return error(BEYOND);
        }
        outlook.seekStormMove(basin, n);
        return what == 0 ? outlook.bestFound : outlook.leastPains;
    }

    public int changes(int n) {
        if (!within(n, 1, MOST_PLANNED)) {
            return error(BEYOND);
        }
        return outlook.doorsThatGain(n);
    }

    public int buys(int basin, int way) {
        if (!now.town.hasBasin(basin) || (way != 1 && way != -1)) {
            return error(BEYOND);
        }
        int fewest = now.town.fewestBought(basin, way, now.voteLaw);
        return fewest == Town.NEVER ? error(NONE) : fewest;
    }

    public int comes(int from, int to, int n) {
        if (!now.town.hasBasin(from) || !now.town.hasBasin(to) || !within(n, 0, MOST_HOURS)) {
            return error(BEYOND);
        }
        int fewest = outlook.hoursToCome(from, to, n);
        return fewest == Town.NEVER ? error(NONE) : fewest;
    }

    // ---- voices, sheets, images, what is told

    public int voice(int door, int voice, int x) {
        if (!now.town.hasDoor(door) || !within(voice, Speaker.VOTES, Speaker.PAYS)) {
            return error(BEYOND);
        }
        int answer = speaker.answer(now.town.doorAt(door), door, voice, x);
        return speaker.parted ? error(PARTED) : answer;
    }

    public int body(int i) {
        return speaker.trace.has(i) ? speaker.trace.at(i) : error(NONE);
    }

    public int sheet(int sheet, int bits, int n) {
        if (!hasSheet(sheet) || (bits != 0 && bits != 8 && bits != 16 && bits != 32)) {
            return error(BEYOND);
        }
        if (bits != 0 && n < 0) {
            return error(STATE);
        }
        if (bits != 0 && n > MOST_NUMBERS) {
            return error(BEYOND);
        }
        sheetAt(sheet).begin(bits, bits == 0 ? 0 : n);
        return 1;
    }

    public int put(int sheet, int i, int v) {
        if (!hasSheet(sheet)) {
            return error(BEYOND);
        }
        Sheet written = sheetAt(sheet);
        if (written.isMissing()) {
            return error(NONE);
        }
        if (!written.numbers.has(i)) {
            return error(BEYOND);
        }
        written.write(i, v);
        return 1;
    }

    public int move(int sheet, int i, int other, int j, int n) {
        if (!hasSheet(sheet) || !hasSheet(other)) {
            return error(BEYOND);
        }
        Sheet source = sheetAt(sheet);
        Sheet target = sheetAt(other);
        if (source.isMissing() || target.isMissing()) {
            return error(NONE);
        }
        if (source.bits != target.bits) {
            return error(KIND);
        }
        if (!source.numbers.hasStretch(i, n) || !target.numbers.hasStretch(j, n)) {
            return error(BEYOND);
        }
        target.numbers.take(source.numbers, i, j, n);
        return n;
    }

    public int votes(int sheet) {
        if (!hasSheet(sheet)) {
            return error(BEYOND);
        }
        if (sheetAt(sheet).isMissing()) {
            return error(NONE);
        }
        return now.town.buyAll(sheetAt(sheet).numbers);
    }

    public int off(int basin, int sheet) {
        if (!now.town.hasBasin(basin) || !hasSheet(sheet)) {
            return error(BEYOND);
        }
        if (sheetAt(sheet).isMissing()) {
            return error(NONE);
        }
        return outlook.offBy(basin, sheetAt(sheet).numbers, now.town.rainfall);
    }

    public int rained(int basin, int sheet) {
        if (!now.town.hasBasin(basin) || !hasSheet(sheet)) {
            return error(BEYOND);
        }
        if (sheetAt(sheet).isMissing()) {
            return error(NONE);
        }
        return outlook.likeliestRain(basin, sheetAt(sheet).numbers);
    }

    public int image() {
        kept.becomeLike(now);
        imagesMade++;
        return imagesMade;
    }

    public int restore() {
        if (imagesMade == 0) {
            return error(NONE);
        }
        now.becomeLike(kept);
        return now.town.hoursSoFar;
    }

    public int tell(int v) {
        if (now.waiting.size >= MOST_WAITING) {
            return error(FULL);
        }
        now.waiting.add(v);
        return now.waiting.size;
    }

    public int check() {
        int first = now.town.firstUnlike(now.waiting, now.voteLaw);
        now.waiting.becomeEmpty();
        return first == Town.NEVER ? 0 : 1 + first;
    }

    public int count(int what) {
        switch (what) {
            case 0: return now.town.basinCount;
            case 1: return now.town.doorCount;
            case 2: return now.town.hoursSoFar;
            case 3: return now.town.rainfall;
            case 4: return now.town.allWater();
            case 5: return now.town.lost;
            case 6: return now.tape.size;
            case 7: return now.waiting.size;
            case 8: return speaker.trace.size;
            case 9: return now.town.z;
            default: return error(BEYOND);
        }
    }

    public int told(int k) {
        if (!within(k, BEYOND, PARTED)) {
            return error(BEYOND);
        }
        return errorsTold.at(k - 1);
    }

    private int error(int k) {
        errorsTold.write(k - 1, errorsTold.at(k - 1) + 1);
        return LOW - k;
    }

    private int passHours(int n, boolean wetOnes) {
        if (!within(n, 1, MOST_HOURS)) {
            return error(BEYOND);
        }
        if (now.town.hoursSoFar + n > MOST_SO_FAR) {
            return error(STATE);
        }
        for (int hour = 0; hour < n; hour++) {
            if (wetOnes) {
                now.town.drawRain();
            }
            now.town.goBy(now.voteLaw, NO_BASIN, STILL);
        }
        return now.town.pains(now.painLaw);
    }

    private Law lawOf(int use) {
        return use == Law.OF_VOTES ? now.voteLaw : now.painLaw;
    }

    private boolean hasSheet(int sheet) {
        return within(sheet, 0, sheets.length - 1);
    }

    private Sheet sheetAt(int sheet) {
        return sheets[hasSheet(sheet) ? sheet : 0];
    }

    private static boolean within(int v, int least, int most) {
        return v >= least && v <= most;
    }

    /** A row of numbers with room for so many, which never goes beyond it. */
    static final class Row {
        private final int[] numbers;
        int size;

        Row(int room) {
            numbers = new int[room < 0 ? 0 : room];
            size = 0;
        }

        boolean has(int i) {
            return i >= 0 && i < size && i < numbers.length;
        }

        boolean hasStretch(int i, int n) {
            return n >= 0 && i >= 0 && i <= Math.min(size, numbers.length) - n;
        }

        /** 0, if there is no such number. */
        int at(int i) {
            // Not by has(): a law that is worked out in an HOUR AHEAD asks here as deep as calls may go.
            return i >= 0 && i < size && i < numbers.length ? numbers[i] : 0;
        }

        void write(int i, int v) {
            if (has(i)) {
                numbers[i] = v;
            }
        }

        void add(int v) {
            if (size >= 0 && size < numbers.length) {
                numbers[size] = v;
                size++;
            }
        }

        void becomeEmpty() {
            size = 0;
        }

        void becomeZeros(int n) {
            size = Math.max(0, Math.min(n, numbers.length));
            Arrays.fill(numbers, 0);
        }

        void becomeLike(Row other) {
            size = Math.min(other.size, numbers.length);
            take(other, 0, 0, size);
        }

        void take(Row source, int i, int j, int n) {
            if (source.hasStretch(i, n) && hasStretch(j, n)) {
                System.arraycopy(source.numbers, i, numbers, j, n);
            }
        }
    }

    /** All that an IMAGE keeps. */
    static final class Whole {
        final Town town;
        final Law voteLaw;
        final Law painLaw;
        final Row tape;
        final Row waiting;

        Whole() {
            town = new Town();
            voteLaw = new Law();
            painLaw = new Law();
            tape = new Row(MOST_BYTES);
            waiting = new Row(MOST_WAITING);
        }

        void becomeLike(Whole other) {
            town.becomeLike(other.town);
            voteLaw.becomeLike(other.voteLaw);
            painLaw.becomeLike(other.painLaw);
            tape.becomeLike(other.tape);
            waiting.becomeLike(other.waiting);
        }
    }

    /** A BASIN and its WEIR. */
    static final class Basin {
        int area = 1;
        int water;
        int high;
        int moves;
        int over;
        int stuck;
        int bridge;
        // The sum of VOTES in the HOUR that goes by; it tells nothing behind it.
        int sumAsked;

        void begin(int newArea) {
            area = newArea;
            water = 10 * newArea;
            high = 20;
            moves = 2;
            over = 100;
            stuck = 0;
            bridge = 50;
        }

        void becomeLike(Basin other) {
            area = other.area;
            water = other.water;
            high = other.high;
            moves = other.moves;
            over = other.over;
            stuck = other.stuck;
            bridge = other.bridge;
        }

        int level() {
            return area > 0 ? water / area : 0;
        }

        int tells(int what) {
            switch (what) {
                case LEVEL: return level();
                case WATER: return water;
                case AREA: return area;
                case HIGH: return high;
                case MOVES: return moves;
                case OVER: return over;
                case STUCK: return stuck;
                case BRIDGE: return bridge;
                default: return 0;
            }
        }

        static boolean mayBecome(int what, int v) {
            switch (what) {
                case WATER: return within(v, 0, MOST_WATER);
                case HIGH: return within(v, 0, MOST_MARKS);
                case MOVES: return within(v, 0, 9);
                case OVER: return within(v, 0, 999);
                case STUCK: return within(v, 0, 1);
                case BRIDGE: return within(v, 0, MOST_MARKS);
                default: return false;
            }
        }

        void alter(int what, int v) {
            switch (what) {
                case WATER: water = v; break;
                case HIGH: high = v; break;
                case MOVES: moves = v; break;
                case OVER: over = v; break;
                case STUCK: stuck = v; break;
                case BRIDGE: bridge = v; break;
                default: break;
            }
        }

        /** Up, if the way is above 0, down, if below. */
        void turnWeir(int way) {
            if (stuck == 0) {
                high = Math.max(0, Math.min(MOST_MARKS, high + Integer.compare(way, 0) * moves));
            }
        }

        void gain(int more) {
            water = Math.min(MOST_WATER, water + more);
        }

        /** What goes over the WEIR, which is in the BASIN no more. */
        int spill() {
            int spilt = Math.max(0, Math.min(over, water - high * area));
            water -= spilt;
            return spilt;
        }
    }

    /** A DOOR of a KIND. */
    static final class Door {
        int kind;
        int m;
        int basin;
        int sill;
        int bought;
        int away;
        int flooded;
        int dry;

        void begin(int newKind, int newM, int newBasin, int newSill) {
            kind = newKind;
            m = newM;
            basin = newBasin;
            sill = newSill;
            bought = NOT_BOUGHT;
            away = 0;
            flooded = 0;
            dry = 0;
        }

        void becomeLike(Door other) {
            kind = other.kind;
            m = other.m;
            basin = other.basin;
            sill = other.sill;
            bought = other.bought;
            away = other.away;
            flooded = other.flooded;
            dry = other.dry;
        }

        int tells(int what) {
            switch (what) {
                case ITS_KIND: return kind;
                case ITS_M: return m;
                case ITS_BASIN: return basin;
                case SILL: return sill;
                case BOUGHT: return bought;
                case AWAY: return away;
                case FLOODED: return flooded;
                case DRY: return dry;
                default: return 0;
            }
        }

        static boolean mayBecome(int what, int v) {
            switch (what) {
                case ITS_KIND: return within(v, DOOR, TOLD);
                case ITS_M: return within(v, 0, 9);
                case SILL: return within(v, 0, MOST_MARKS);
                case BOUGHT: return mayBeBought(v);
                case AWAY: return within(v, 0, 1);
                default: return false;
            }
        }

        static boolean mayBeBought(int v) {
            return within(v, -1, NOT_BOUGHT);
        }

        void alter(int what, int v) {
            switch (what) {
                case ITS_KIND: kind = v; break;
                case ITS_M: m = v; break;
                case SILL: sill = v; break;
                case BOUGHT: bought = v; break;
                case AWAY: away = v; break;
                default: break;
            }
        }

        static int kindAbove(int kind) {
            switch (kind) {
                case SWAN: return MILL;
                case FEARED: return CELLAR;
                case CELLAR:
                case MILL:
                case BOAT:
                case TOLD: return DOOR;
                default: return -1;
            }
        }

        /** Whether it is that KIND, too. */
        static boolean isUnder(int kind, int upper) {
            int k = kind;
            for (int i = DOOR; i <= TOLD && k >= 0; i++) {
                if (k == upper) {
                    return true;
                }
                k = kindAbove(k);
            }
            return false;
        }

        boolean isDryAt(int level) {
            return level < sill - 10 - m;
        }

        void countHour(int level) {
            if (level > sill) {
                flooded = Math.min(MOST_COUNTED, flooded + 1);
            }
            if (isDryAt(level)) {
                dry = Math.min(MOST_COUNTED, dry + 1);
            }
        }

        int pain(Law law) {
            int pain = law.isTold() ? law.workOut(flooded, dry, m, 0, 0) : flooded * 3 + dry;
            return Math.max(0, Math.min(MOST_COUNTED, pain));
        }
    }

    /** BASINS and DOORS, and how an HOUR goes by there. */
    static final class Town {
        static final int NEVER = -1;

        private final Basin[] basins;
        private final Door[] doors;
        int basinCount;
        int doorCount;
        int rainfall;
        int hoursSoFar;
        int lost;
        int z;

        Town() {
            basins = new Basin[MOST_BASINS];
            for (int b = 0; b < basins.length; b++) {
                basins[b] = new Basin();
            }
            doors = new Door[MOST_DOORS];
            for (int d = 0; d < doors.length; d++) {
                doors[d] = new Door();
            }
            z = 1;
        }

        void becomeLike(Town other) {
            for (int b = 0; b < other.basinCount; b++) {
                basinAt(b).becomeLike(other.basinAt(b));
            }
            for (int d = 0; d < other.doorCount; d++) {
                doorAt(d).becomeLike(other.doorAt(d));
            }
            basinCount = other.basinCount;
            doorCount = other.doorCount;
            rainfall = other.rainfall;
            hoursSoFar = other.hoursSoFar;
            lost = other.lost;
            z = other.z;
        }

        boolean hasBasin(int b) {
            return within(b, 0, basinCount - 1);
        }

        boolean hasDoor(int d) {
            return within(d, 0, doorCount - 1);
        }

        /** The first one stands in where there is none such: nobody is handed a null. */
        Basin basinAt(int b) {
            return basins[b >= 0 && b < basins.length ? b : 0];
        }

        Door doorAt(int d) {
            return doors[d >= 0 && d < doors.length ? d : 0];
        }

        int addBasin(int area) {
            basinAt(basinCount).begin(area);
            basinCount++;
            return basinCount - 1;
        }

        int addDoor(int kind, int m, int basin, int sill) {
            doorAt(doorCount).begin(kind, m, basin, sill);
            doorCount++;
            return doorCount - 1;
        }

        int ofBasin(int basin, int what, Law voteLaw) {
            return what == SUM ? sumOfVotes(basin, voteLaw) : basinAt(basin).tells(what);
        }

        int ofDoor(int door, int what, Law voteLaw, Law painLaw) {
            if (what == VOTE) {
                return voteOf(doorAt(door), voteLaw);
            }
            return what == PAIN ? doorAt(door).pain(painLaw) : doorAt(door).tells(what);
        }

        int sumOfVotes(int basin, Law voteLaw) {
            int sum = 0;
            for (int d = 0; d < doorCount; d++) {
                Door door = doorAt(d);
                if (door.basin == basin) {
                    sum += voteOf(door, voteLaw);
                }
            }
            return sum;
        }

        int voteOf(Door door, Law voteLaw) {
            if (door.away == 1) {
                return 0;
            }
            if (door.bought != NOT_BOUGHT) {
                return door.bought;
            }
            Basin basin = basinAt(door.basin);
            int level = basin.level();
            int mark = door.sill - door.m;
            switch (door.kind) {
                case CELLAR: return level > mark ? -1 : 0;
                case MILL: return level < mark ? 1 : 0;
                case SWAN: return level > door.sill ? -1 : level < mark ? 1 : 0;
                case BOAT: return door.isDryAt(level - 1) ? 1 : level > basin.bridge - door.m ? -1 : 0;
                case FEARED: return level + 2 * rainfall > mark ? -1 : 0;
                case TOLD:
                    int told = voteLaw.isTold()
                        ? voteLaw.workOut(level, door.sill, rainfall, hoursSoFar, basin.high)
                        : door.sill - level;
                    return Integer.compare(told, 0);
                default: return 0;
            }
        }

        /** An HOUR; the WEIR of the basin that is moved goes as its move says, whatever the VOTES. */
        void goBy(Law voteLaw, int movedBasin, int move) {
            askVotes(voteLaw);
            for (int b = 0; b < basinCount; b++) {
                Basin basin = basinAt(b);
                basin.turnWeir(b == movedBasin ? move - STILL : basin.sumAsked);
            }
            for (int b = 0; b < basinCount; b++) {
                flow(b);
            }
            for (int d = 0; d < doorCount; d++) {
                Door door = doorAt(d);
                door.countHour(basinAt(door.basin).level());
            }
            hoursSoFar++;
        }

        // One round of all DOORS: a sum for each BASIN by itself would look at every DOOR once a BASIN.
        private void askVotes(Law voteLaw) {
            for (int b = 0; b < basinCount; b++) {
                basinAt(b).sumAsked = 0;
            }
            for (int d = 0; d < doorCount; d++) {
                Door door = doorAt(d);
                basinAt(door.basin).sumAsked += voteOf(door, voteLaw);
            }
        }

        private void flow(int b) {
            Basin basin = basinAt(b);
            basin.gain(rainfall * basin.area);
            int spilt = basin.spill();
            if (hasBasin(b + 1)) {
                basinAt(b + 1).gain(spilt);
            } else {
                lost = Math.min(MOST_LOST, lost + spilt);
            }
        }

        void drawRain() {
            z = z * 1103515245 + 12345;
            rainfall = (z >>> 8) % 10;
        }

        int pains(Law painLaw) {
            int pains = 0;
            for (int d = 0; d < doorCount; d++) {
                pains += doorAt(d).pain(painLaw);
            }
            return pains;
        }

        int allWater() {
            int all = 0;
            for (int b = 0; b < basinCount; b++) {
                all += basinAt(b).water;
            }
            return all;
        }

        /** NEVER, if all the DOORS there don't do. */
        int fewestBought(int basin, int way, Law voteLaw) {
            int sum = sumOfVotes(basin, voteLaw) * way;
            if (sum > 0) {
                return 0;
            }
            // A DOOR that is against counts twice once it is bought, and there are at least -sum of those; where there
            // is none, the sum is 0, and any one DOOR does.
            return hasVoters(basin) ? -sum / 2 + 1 : NEVER;
        }

        private boolean hasVoters(int basin) {
            for (int d = 0; d < doorCount; d++) {
                if (doorAt(d).basin == basin && doorAt(d).away == 0) {
                    return true;
                }
            }
            return false;
        }

        /** How many came, up to the first number that is no VOTE. */
        int buyAll(Row wanted) {
            int came = 0;
            while (came < doorCount && wanted.has(came) && Door.mayBeBought(wanted.at(came))) {
                doorAt(came).bought = wanted.at(came);
                came++;
            }
            return came;
        }

        /** The first place at which the numbers are not the VOTES of DOORS, or NEVER. */
        int firstUnlike(Row numbers, Law voteLaw) {
            int most = Math.max(doorCount, numbers.size);
            for (int d = 0; d < most; d++) {
                if (!hasDoor(d) || !numbers.has(d) || numbers.at(d) != voteOf(doorAt(d), voteLaw)) {
                    return d;
                }
            }
            return NEVER;
        }

        /** Whether THE ENGINE floats between a BASIN and the next one. */
        boolean floatsBelow(int b) {
            if (!hasBasin(b) || !hasBasin(b + 1)) {
                return false;
            }
            int level = basinAt(b).level();
            int next = basinAt(b + 1).level();
            return Math.abs(level - next) <= 3 && basinAt(b).bridge >= Math.max(level, next) + 2;
        }
    }

    /** A TEXT of a USE, or none; its code has what is joined ahead of the sign that joins it. */
    static final class Law {
        static final int OF_VOTES = 0;
        static final int OF_PAIN = 1;
        static final int MOST_NAMES = 5;

        // A step is a number, or -1 less the place of a NAME, or the negative of a sign (all of those are lower).
        private final Row code;
        // The NAMES stand at its foot.
        private final int[] stack;

        Law() {
            code = new Row(MOST_BYTES);
            stack = new int[MOST_NAMES + MOST_BYTES];
        }

        static String namesOf(int use) {
            return use == OF_VOTES ? "lsrhw" : "fdm";
        }

        boolean isTold() {
            return code.size > 0;
        }

        void becomeLike(Law other) {
            code.becomeLike(other.code);
        }

        void become(Row newCode) {
            code.becomeLike(newCode);
        }

        boolean forget() {
            boolean was = isTold();
            code.becomeEmpty();
            return was;
        }

        int workOut(int name0, int name1, int name2, int name3, int name4) {
            stack[0] = name0;
            stack[1] = name1;
            stack[2] = name2;
            stack[3] = name3;
            stack[4] = name4;
            int top = MOST_NAMES - 1;
            for (int i = 0; i < code.size; i++) {
                int step = code.at(i);
                if (step >= -MOST_NAMES) {
                    if (top + 1 < stack.length) {
                        top++;
                        stack[top] = step >= 0 ? step : stack[-1 - step];
                    }
                } else if (step == -'!') {
                    stack[top] = stack[top] == 0 ? 1 : 0;
                } else if (top > MOST_NAMES) {
                    top--;
                    stack[top] = joined(-step, stack[top], stack[top + 1]);
                }
            }
            return stack[top];
        }

        private static int joined(int sign, int a, int b) {
            switch (sign) {
                case '|': return a != 0 || b != 0 ? 1 : 0;
                case '&': return a != 0 && b != 0 ? 1 : 0;
                case '<': return a < b ? 1 : 0;
                case '=': return a == b ? 1 : 0;
                case '>': return a > b ? 1 : 0;
                case '+': return a + b;
                case '-': return a - b;
                case '*': return a * b;
                case '/': return b == 0 ? 0 : a / b;
                case '%': return b == 0 ? 0 : a % b;
                default: return 0;
            }
        }
    }

    /** Reads THE TAPE as a TEXT, byte by byte, and stands still at the FAULT. */
    static final class Reader {
        static final int NO_FAULT = -1;
        private static final int MOST_OPEN = 5;
        private static final int MOST_DIGITS = 4;
        private static final int TIGHTEST = 4;
        private static final int OF_COMPARING = 2;

        private final Row tape;
        final Row code;
        private String names;
        private int place;
        private boolean faulty;

        Reader(Row tapeToRead) {
            tape = tapeToRead;
            code = new Row(MOST_BYTES);
            names = "";
        }

        /** The FAULT, or NO_FAULT: then the code is that of the TEXT. */
        int readTape(int use) {
            code.becomeEmpty();
            names = Law.namesOf(use);
            place = 0;
            faulty = false;
            readRow(0, 0);
            return faulty || place < tape.size ? place : NO_FAULT;
        }

        /** What stands between signs that bind so tightly: T is 0, A is 1, B is 2, S is 3, P is 4. */
        private void readRow(int tight, int open) {
            if (tight > TIGHTEST) {
                readSingle(open);
                return;
            }
            readRow(tight + 1, open);
            int most = tight == OF_COMPARING ? 1 : MOST_BYTES;
            for (int i = 0; i < most && !faulty && signsThatBind(tight).indexOf(here()) >= 0; i++) {
                int sign = here();
                place++;
                readRow(tight + 1, open);
                code.add(-sign);
            }
        }

        /** A Q. */
        private void readSingle(int open) {
            char sign = here();
            if (isDigit(sign)) {
                readNumber();
            } else if (names.indexOf(sign) >= 0) {
                place++;
                code.add(-1 - names.indexOf(sign));
            } else if (sign == '!' && open < MOST_OPEN) {
                place++;
                readSingle(open + 1);
                code.add(-'!');
            } else if (sign == '(' && open < MOST_OPEN) {
                place++;
                readRow(0, open + 1);
                if (faulty || here() != ')') {
                    faulty = true;
                } else {
                    place++;
                }
            } else {
                faulty = true;
            }
        }

        private void readNumber() {
            int number = 0;
            for (int i = 0; i < MOST_DIGITS && isDigit(here()); i++) {
                number = number * 10 + here() - '0';
                place++;
            }
            code.add(number);
        }

        private static String signsThatBind(int tight) {
            switch (tight) {
                case 0: return "|";
                case 1: return "&";
                case OF_COMPARING: return "<=>";
                case 3: return "+-";
                default: return "*/%";
            }
        }

        private static boolean isDigit(char sign) {
            return sign >= '0' && sign <= '9';
        }

        /** Behind the end of THE TAPE it is a sign that stands in no TEXT. */
        private char here() {
            return (char) tape.at(place);
        }
    }

    /** What lies AHEAD: it is tried out in towns that are like the one that is now. */
    static final class Outlook {
        private final Town now;
        private final Law voteLaw;
        private final Law painLaw;
        // One for each move of a ROW that is tried, the one ahead of all moves among them.
        private final Town[] trials;
        int bestFound;
        int leastPains;

        Outlook(Town townNow, Law voteLawNow, Law painLawNow) {
            now = townNow;
            voteLaw = voteLawNow;
            painLaw = painLawNow;
            trials = new Town[MOST_BEST + 1];
            for (int i = 0; i < trials.length; i++) {
                trials[i] = new Town();
            }
        }

        private Town trialAt(int i) {
            return trials[i >= 0 && i < trials.length ? i : 0];
        }

        private Town freshTrial(int i) {
            Town trial = trialAt(i);
            trial.becomeLike(now);
            return trial;
        }

        Town ahead(int n) {
            Town trial = freshTrial(0);
            for (int hour = 0; hour < n; hour++) {
                trial.goBy(voteLaw, NO_BASIN, STILL);
            }
            return trial;
        }

        static boolean isRow(int row) {
            int rest = row;
            for (int i = 0; i < MOST_MOVES && rest > 0; i++) {
                if (!within(rest % 10, DOWN, UP)) {
                    return false;
                }
                rest /= 10;
            }
            return rest == 0;
        }

        int painsBehindRow(int basin, int row) {
            Town trial = freshTrial(0);
            for (int unit = 100000; unit > 0; unit /= 10) {
                int move = row / unit % 10;
                if (move != 0) {
                    trial.goBy(voteLaw, basin, move);
                }
            }
            return trial.pains(painLaw);
        }

        void seekBestRow(int basin, int n) {
            freshTrial(0);
            leastPains = Integer.MAX_VALUE;
            bestFound = 0;
            tryRows(basin, n, 0, 0);
        }

        /** All ROWS of n moves that begin with this one, the least number first. */
        private void tryRows(int basin, int n, int row, int length) {
            if (length >= n || length >= MOST_BEST) {
                weigh(row, trialAt(length).pains(painLaw));
                return;
            }
            for (int move = DOWN; move <= UP; move++) {
                Town next = trialAt(length + 1);
                next.becomeLike(trialAt(length));
                next.goBy(voteLaw, basin, move);
                tryRows(basin, n, row * 10 + move, length + 1);
            }
        }

        private void weigh(int found, int pains) {
            if (pains < leastPains) {
                leastPains = pains;
                bestFound = found;
            }
        }

        void seekStormMove(int basin, int n) {
            leastPains = Integer.MAX_VALUE;
            bestFound = 0;
            for (int move = DOWN; move <= UP; move++) {
                weigh(move, painsInWorstRain(basin, n, move));
            }
        }

        private int painsInWorstRain(int basin, int n, int move) {
            int worst = 0;
            for (int rainfall = 0; rainfall <= MOST_RAIN; rainfall++) {
                Town trial = freshTrial(0);
                trial.rainfall = rainfall;
                for (int hour = 0; hour < n; hour++) {
                    trial.goBy(voteLaw, hour == 0 ? basin : NO_BASIN, move);
                }
                worst = Math.max(worst, trial.pains(painLaw));
            }
            return worst;
        }

        /** DOORS, as bits. */
        int doorsThatGain(int n) {
            int gaining = 0;
            Town unbought = ahead(n);
            for (int d = 0; d < now.doorCount; d++) {
                int pain = unbought.doorAt(d).pain(painLaw);
                for (int vote = -1; vote <= 1; vote++) {
                    if (painIfBought(d, vote, n) < pain) {
                        gaining |= 1 << d;
                    }
                }
            }
            return gaining;
        }

        private int painIfBought(int d, int vote, int n) {
            Town trial = freshTrial(1);
            Door door = trial.doorAt(d);
            int before = door.bought;
            for (int hour = 0; hour < n; hour++) {
                door.bought = hour == 0 ? vote : before;
                trial.goBy(voteLaw, NO_BASIN, STILL);
            }
            return door.pain(painLaw);
        }

        /** NEVER, if it does not by n HOURS. */
        int hoursToCome(int from, int to, int n) {
            Town trial = freshTrial(0);
            int reached = 1 << from;
            int target = 1 << to;
            for (int hour = 0; hour <= n; hour++) {
                if ((reached & target) != 0) {
                    return hour;
                }
                trial.goBy(voteLaw, NO_BASIN, STILL);
                reached = reachedBehind(trial, reached);
            }
            return Town.NEVER;
        }

        /** BASINS, as bits, where THE ENGINE may be an HOUR later. */
        private static int reachedBehind(Town town, int reached) {
            int more = reached;
            for (int b = 0; b + 1 < town.basinCount; b++) {
                if (town.floatsBelow(b)) {
                    more |= (reached & 1 << b) << 1;
                    more |= (reached & 1 << (b + 1)) >>> 1;
                }
            }
            return more;
        }

        /** How far the RECORD is OFF if RAIN is so from now on. */
        int offBy(int basin, Row levels, int rainfall) {
            Town trial = freshTrial(0);
            trial.rainfall = rainfall;
            int off = 0;
            for (int i = 0; i < levels.size; i++) {
                trial.goBy(voteLaw, NO_BASIN, STILL);
                long difference = (long) levels.at(i) - trial.basinAt(basin).level();
                off += (int) Math.min(1000, Math.abs(difference));
            }
            return off;
        }

        int likeliestRain(int basin, Row levels) {
            int likeliest = 0;
            int least = Integer.MAX_VALUE;
            for (int rainfall = 0; rainfall <= MOST_RAIN; rainfall++) {
                int off = offBy(basin, levels, rainfall);
                if (off < least) {
                    least = off;
                    likeliest = rainfall;
                }
            }
            return likeliest;
        }
    }

    /** Works out VOICES by the BODIES of KINDS, and keeps THE TRACE. */
    static final class Speaker {
        static final int VOTES = 0;
        static final int FEARS = 1;
        static final int FLOODS = 2;
        static final int PAYS = 3;
        // No BODY stands deeper than one of each KIND and voice.
        private static final int DEEPEST = 28;

        final Row trace;
        boolean parted;
        private int kind;
        private int m;
        private int number;

        Speaker() {
            trace = new Row(MOST_BODIES);
        }

        /** What is answered counts only if it has not parted. */
        int answer(Door door, int doorNumber, int voice, int x) {
            kind = door.kind;
            m = door.m;
            number = doorNumber;
            parted = false;
            trace.becomeEmpty();
            return speak(voice, kind, x, 0);
        }

        /** The number of the BODY that a KIND has of its own for a voice, or 0. */
        private static int ownBody(int ofKind, int voice) {
            switch (ofKind * 10 + voice) {
                case DOOR * 10 + VOTES: return 10;
                case DOOR * 10 + FEARS: return 11;
                case DOOR * 10 + FLOODS: return 12;
                case DOOR * 10 + PAYS: return 13;
                case CELLAR * 10 + VOTES: return 20;
                case CELLAR * 10 + PAYS: return 21;
                case MILL * 10 + FEARS: return 30;
                case SWAN * 10 + VOTES: return 40;
                case SWAN * 10 + FLOODS: return 41;
                case BOAT * 10 + FLOODS: return 50;
                case FEARED * 10 + FEARS: return 60;
                case TOLD * 10 + VOTES: return 70;
                case TOLD * 10 + FEARS: return 71;
                default: return 0;
            }
        }

        private static int bodyFrom(int ofKind, int voice) {
            int k = ofKind;
            int body = 0;
            for (int i = DOOR; i <= TOLD && body == 0 && k >= 0; i++) {
                body = ownBody(k, voice);
                k = Door.kindAbove(k);
            }
            return body;
        }

        /** The BODY of a voice from that KIND on. */
        private int speak(int voice, int fromKind, int x, int depth) {
            // Once it has parted, PARTED is all: what stands right of that does not begin.
            if (parted || depth > DEEPEST) {
                return 0;
            }
            int body = bodyFrom(fromKind, voice);
            int deeper = depth + 1;
            trace.add(body);
            switch (body) {
                case 10: return x + number;
                case 11: return speak(VOTES, kind, x, deeper) * 2;
                case 12: return speak(FEARS, kind, x, deeper) - m;
                case 13: return payments(x);
                case 20: return speak(VOTES, DOOR, x, deeper) - 7;
                case 21: return speak(PAYS, DOOR, x, deeper) + speak(FEARS, kind, 1, deeper);
                case 30: return -speak(FEARS, DOOR, x, deeper);
                case 40: return speak(VOTES, MILL, x, deeper) * 3;
                case 41: return speak(FLOODS, MILL, x, deeper) ^ number;
                case 50: return speak(FLOODS, DOOR, x / 2, deeper);
                case 60: return speak(FEARS, CELLAR, x + 1, deeper);
                case 70: return 4;
                case 71: return speak(FEARS, DOOR, x, deeper) + m;
                default: return 0;
            }
        }

        private int payments(int x) {
            int payers = m - number;
            if (payers == 0) {
                parted = true;
                return 0;
            }
            return x / payers;
        }
    }

    /** A row of numbers of 8, 16 or 32 bits; with 0 bits it is missing. */
    static final class Sheet {
        int bits;
        final Row numbers;

        Sheet() {
            numbers = new Row(MOST_NUMBERS);
        }

        boolean isMissing() {
            return bits == 0;
        }

        void begin(int newBits, int n) {
            bits = newBits;
            numbers.becomeZeros(n);
        }

        void write(int i, int v) {
            numbers.write(i, bits == 8 ? (byte) v : bits == 16 ? (short) v : v);
        }
    }
}
