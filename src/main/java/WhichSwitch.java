/** A house with fuses, switches and lamps, and the told houses of which each may be the right one. */
public final class WhichSwitch {
    public static final int NONE = -1, BAD = -2, STATE = -3, FULL = -4;
    public static final long NO = -4611686018427387904L;

    private static final int NO_SUCH = -5, NO_FURTHER = -7;
    private static final int MISSING = -11, OUTSIDE = -12, UNLIKE = -13, BELOW_NOTHING = -14;
    private static final int FINE = 0;

    private static final int MOST_FUSES = 6, MOST_SWITCHES = 8, MOST_LAMPS = 10, MOST_ROOMS = 6;
    private static final int MOST_HOUSES = 12, MOST_ASKS = 10, MOST_LABELS = 4, MOST_TEXTS = 6;
    private static final int MOST_SHEETS = 4, MOST_CELLS = 40, MOST_PLACES = 30, MOST_BYTES = 160;
    private static final int FUSE_SETS = 1 << MOST_FUSES, SWITCH_SETS = 1 << MOST_SWITCHES;
    private static final int ROWS = MOST_LAMPS + 1;

    private static final int OUT = 0, ON = 1, HOUR = 2, SLIPS = 3;
    private static final int JOIN = 0, ROWED = 1, STAIR = 2, BORROWED = 3, BLIND = 4, TIMED = 5, A_FUSE = 6;
    private static final int GLOW_PART = 0, TONE_PART = 1, LOAD_PART = 2, PARTS = 3;
    private static final int NOT_SAID = -1;

    private static final String FIRST_LAW = "glow power ; tone 90 - far * 7 ; load power + more ;";

    private final Fuse[] fuses = new Fuse[MOST_FUSES];
    private final Lamp[] lamps = new Lamp[MOST_LAMPS];
    private final Wiring[] houses = new Wiring[MOST_HOUSES];
    private final Wiring[] labels = new Wiring[MOST_LABELS];
    private final Text[] texts = new Text[MOST_TEXTS];
    private final Sheet[] sheets = new Sheet[MOST_SHEETS];
    private final Moment now = new Moment();
    private final Moment kept = new Moment();
    private final Reader reader = new Reader();
    private final Machine machine = new Machine();
    private final SumSet sumSet = new SumSet();
    /** What each HOUSE shows by each set of FUSES, at set * MOST_HOUSES + HOUSE: kept for no longer than a call. */
    private final int[] shows = new int[FUSE_SETS * MOST_HOUSES];
    /** What THE LAW has said within one call, so that no E is worked out twice for the same values. */
    private final int[] said = new int[MOST_LAMPS * ROWS];
    private int fuseCount;
    private int lampCount;
    private int houseCount;
    private int labelCount;
    private int textCount;
    private boolean imageKept;

    public WhichSwitch() {
        for (int i = 0; i < MOST_FUSES; i++) {
            fuses[i] = new Fuse();
        }
        for (int i = 0; i < MOST_LAMPS; i++) {
            lamps[i] = new Lamp();
        }
        for (int i = 0; i < MOST_HOUSES; i++) {
            houses[i] = new Wiring();
        }
        for (int i = 0; i < MOST_LABELS; i++) {
            labels[i] = new Wiring();
        }
        for (int i = 0; i < MOST_TEXTS; i++) {
            texts[i] = new Text();
        }
        for (int i = 0; i < MOST_SHEETS; i++) {
            sheets[i] = new Sheet();
        }
        reader.fill(FIRST_LAW);
        reader.findFault();
        reader.empty();
        texts[0].takeFrom(reader.draft);
        textCount = 1;
    }

    // ---- fuses, lamps, what is out and on

    public int fuse(int most, int time) {
        if (!within(most, 0, 999) || !within(time, 1, 99)) {
            return BAD;
        }
        if (fuseCount >= MOST_FUSES) {
            return FULL;
        }
        fuses[fuseCount].bears = most;
        fuses[fuseCount].takes = time;
        fuseCount++;
        return fuseCount - 1;
    }

    public int set(int what, int v) {
        if (!within(what, OUT, SLIPS)) {
            return NONE;
        }
        if (!within(v, 0, mostOf(what))) {
            return BAD;
        }
        int was = now.dials[what];
        now.dials[what] = v;
        return was;
    }

    private int mostOf(int what) {
        switch (what) {
            case OUT:
                return bitsBelow(fuseCount);
            case ON:
                return bitsBelow(MOST_SWITCHES);
            case HOUR:
                return 23;
            default:
                return 99;
        }
    }

    public int count(int what) {
        if (within(what, OUT, SLIPS)) {
            return now.dials[what];
        }
        switch (what) {
            case 4:
                return fuseCount;
            case 5:
                return lampCount;
            case 6:
                return houseCount;
            case 7:
                return now.askCount;
            case 8:
                return labelCount;
            case 9:
                return textCount;
            case 10:
                return now.law;
            case 11:
                return reader.size;
            default:
                return BAD;
        }
    }

    public int lamp(int kind, int power, int where, int more) {
        if (!within(kind, JOIN, TIMED) || !within(power, 1, 99) || !isWhere(where) || !within(more, 0, 9)) {
            return BAD;
        }
        if (lampCount >= MOST_LAMPS) {
            return FULL;
        }
        if (houseCount > 0 || labelCount > 0 || now.askCount > 0) {
            return STATE;
        }
        lamps[lampCount].become(kind, power, where, more);
        if (kind == BORROWED && more < MOST_FUSES) {
            fuses[more].lendsTo |= 1 << lampCount;
        }
        lampCount++;
        return lampCount - 1;
    }

    private static boolean isWhere(int where) {
        return within(where, 0, 100 * MOST_ROOMS - 1)
                && where / 10 % 10 < MOST_SWITCHES && where % 10 < MOST_SWITCHES;
    }

    public int lampTold(int l, int what) {
        if (!isLamp(l)) {
            return NO_SUCH;
        }
        Lamp told = lamps[l];
        switch (what) {
            case 0:
                return told.kind;
            case 1:
                return told.power;
            case 2:
                return told.room;
            case 3:
                return told.x;
            case 4:
                return told.y;
            case 5:
                return told.more;
            default:
                return NO_FURTHER;
        }
    }

    // ---- the law

    public int feed(long w, int n) {
        if (!within(n, 1, 8)) {
            return BAD;
        }
        if (reader.size + n > MOST_BYTES) {
            return FULL;
        }
        for (int i = n - 1; i >= 0; i--) {
            reader.append((int) (w >>> (8 * i)) & 255);
        }
        return reader.size;
    }

    public int text() {
        if (textCount >= MOST_TEXTS) {
            return FULL;
        }
        int fault = reader.findFault();
        reader.empty();
        if (fault != Reader.NO_FAULT) {
            return -100 - fault;
        }
        texts[textCount].takeFrom(reader.draft);
        textCount++;
        return textCount - 1;
    }

    public int force(int t) {
        if (!within(t, 0, textCount - 1)) {
            return BAD;
        }
        int was = now.law;
        now.law = t;
        return was;
    }

    private Text textInForce() {
        return texts[within(now.law, 0, MOST_TEXTS - 1) ? now.law : 0];
    }

    private int lawSaysOfLamp(int part, int l, int row) {
        Lamp own = lamps[l];
        machine.tellNames(own.power, row, now.dials[HOUR], own.room, own.more, 0);
        return machine.sayBy(textInForce(), part);
    }

    // ---- houses

    public int house(int s) {
        int refusal = wiringRefusal(s);
        if (refusal != FINE) {
            return refusal;
        }
        if (houseCount >= MOST_HOUSES) {
            return FULL;
        }
        houses[houseCount].become(sheets[s], lampCount);
        houseCount++;
        return houseCount - 1;
    }

    /** What refuses a SHEET that is to tell a FUSE for each LAMP, or FINE. */
    private int wiringRefusal(int s) {
        if (!isSheet(s)) {
            return BAD;
        }
        Sheet told = sheets[s];
        if (told.isMissing()) {
            return MISSING;
        }
        if (told.size != lampCount || !told.isWithin(0, fuseCount - 1)) {
            return BAD;
        }
        return FINE;
    }

    public int fedBy(int h, int l) {
        if (!isHouse(h) || !isLamp(l)) {
            return NO_SUCH;
        }
        return houses[h].fuseOf[l];
    }

    public int show(int h) {
        return isHouse(h) ? litNow(h) : NO_SUCH;
    }

    public int bright(int h, int l) {
        if (!isHouse(h) || !isLamp(l)) {
            return NO_SUCH;
        }
        return brightness(l, litNow(h));
    }

    public int room(int h, int r) {
        if (!isHouse(h)) {
            return NO_SUCH;
        }
        if (!isRoom(r)) {
            return NO_FURTHER;
        }
        int lit = litNow(h);
        int together = 0;
        for (int l = 0; l < lampCount; l++) {
            if (lamps[l].room == r) {
                together += brightness(l, lit);
            }
        }
        return together;
    }

    public int nothing(int h) {
        if (!isHouse(h)) {
            return NO_SUCH;
        }
        int fed = fedLamps(h, now.dials[OUT]);
        int on = now.dials[ON];
        int lit = fed & lampsOn(on, now.dials[HOUR]);
        int idle = 0;
        for (int i = 0; i < MOST_SWITCHES; i++) {
            if ((fed & lampsOn(on ^ (1 << i), now.dials[HOUR])) == lit) {
                idle |= 1 << i;
            }
        }
        return idle;
    }

    private int lampsOn(int on, int hour) {
        int set = 0;
        for (int l = 0; l < lampCount; l++) {
            if (lamps[l].isOn(on, hour)) {
                set |= 1 << l;
            }
        }
        return set;
    }

    private int fedLamps(int h, int out) {
        Wiring wires = houses[h];
        int fed = 0;
        for (int f = 0; f < fuseCount; f++) {
            if (!has(out, f)) {
                fed |= wires.feeds[f] | fuses[f].lendsTo;
            }
        }
        return fed;
    }

    private int litNow(int h) {
        return fedLamps(h, now.dials[OUT]) & lampsOn(now.dials[ON], now.dials[HOUR]);
    }

    private int lampsIn(int rooms) {
        int set = 0;
        for (int l = 0; l < lampCount; l++) {
            if (has(rooms, lamps[l].room)) {
                set |= 1 << l;
            }
        }
        return set;
    }

    private int rowOf(int l, int lit) {
        if (lamps[l].kind != ROWED) {
            return 1;
        }
        int row = 0;
        for (int other = 0; other < lampCount; other++) {
            if (has(lit, other) && lamps[other].kind == ROWED && lamps[other].more == lamps[l].more) {
                row++;
            }
        }
        return Math.max(1, row);
    }

    private int brightness(int l, int lit) {
        if (!has(lit, l)) {
            return 0;
        }
        int row = Math.max(1, rowOf(l, lit));
        return lawSaysOfLamp(GLOW_PART, l, row) / row;
    }

    // ---- asks

    public int ask(int rooms, int seen) {
        if (!isRooms(rooms) || !isSubset(seen, lampsIn(rooms))) {
            return BAD;
        }
        if (now.askCount >= MOST_ASKS) {
            return FULL;
        }
        Ask made = now.asks[now.askCount];
        made.out = now.dials[OUT];
        made.on = now.dials[ON];
        made.hour = now.dials[HOUR];
        made.rooms = rooms;
        made.seen = seen;
        now.askCount++;
        return now.askCount - 1;
    }

    public int forget() {
        if (now.askCount <= 0) {
            return STATE;
        }
        now.askCount--;
        return now.askCount;
    }

    public int amiss(int h, int k) {
        if (!isHouse(h)) {
            return NO_SUCH;
        }
        if (!within(k, 0, now.askCount - 1)) {
            return NO_FURTHER;
        }
        return amissLamps(h, now.asks[k]);
    }

    public int miss(int h) {
        return isHouse(h) ? missesOf(h) : NO_SUCH;
    }

    public int lets() {
        return letHouses();
    }

    public int likeliest() {
        int best = NONE;
        int fewest = 0;
        for (int h = 0; h < houseCount; h++) {
            int misses = missesOf(h);
            if (best == NONE || misses < fewest) {
                best = h;
                fewest = misses;
            }
        }
        return best;
    }

    public int near(int most) {
        if (!within(most, 0, 999)) {
            return BAD;
        }
        int set = 0;
        for (int h = 0; h < houseCount; h++) {
            if (missesOf(h) <= most) {
                set |= 1 << h;
            }
        }
        return set;
    }

    public int parts(int outs, int rooms, int what) {
        if (!isFuses(outs) || !isRooms(rooms) || !within(what, 0, 1)) {
            return BAD;
        }
        int let = letHouses();
        fillShows(rooms, let);
        return what == 0 ? kindCount(outs, let) : greatestKind(outs, let);
    }

    public int next(int rooms, int most, int what) {
        if (!isRooms(rooms) || !within(most, 0, MOST_FUSES) || !within(what, 0, 1)) {
            return BAD;
        }
        int let = letHouses();
        if (let == 0) {
            return NONE;
        }
        fillShows(rooms, let);
        int set = nextSet(let, most);
        return what == 0 ? set : greatestKind(set, let);
    }

    public int ahead(int rooms, int what) {
        if (!isRooms(rooms) || !within(what, 0, 1)) {
            return BAD;
        }
        int let = letHouses();
        if (let == 0) {
            return NONE;
        }
        fillShows(rooms, let);
        int all = bitsBelow(fuseCount);
        int best = 0;
        int least = MOST_HOUSES + 1;
        for (int set = 0; set <= all; set++) {
            if (Integer.bitCount(set) <= 2) {
                int left = leftBehind(set, let);
                if (left < least) {
                    best = set;
                    least = left;
                }
            }
        }
        return what == 0 ? best : least;
    }

    public int plan(int h, int rooms, int most) {
        if (!isHouse(h)) {
            return NO_SUCH;
        }
        if (!isRooms(rooms) || !within(most, 0, MOST_FUSES)) {
            return NO_FURTHER;
        }
        int left = letHouses();
        if (!has(left, h)) {
            return NONE;
        }
        fillShows(rooms, left);
        for (int asks = 0; asks <= MOST_HOUSES; asks++) {
            if (left == 1 << h) {
                return asks;
            }
            int kind = kindOf(nextSet(left, most), h, left);
            if (kind == left) {
                return NONE;
            }
            left = kind;
        }
        return NONE;
    }

    public int bound() {
        int let = Integer.bitCount(letHouses());
        int n = 0;
        while (n < MOST_HOUSES && 1 << n < let) {
            n++;
        }
        return n;
    }

    private int amissLamps(int h, Ask made) {
        int lit = fedLamps(h, made.out) & lampsOn(made.on, made.hour);
        return (lit ^ made.seen) & lampsIn(made.rooms);
    }

    private int missesOf(int h) {
        int misses = 0;
        for (int k = 0; k < now.askCount; k++) {
            misses += Integer.bitCount(amissLamps(h, now.asks[k]));
        }
        return misses;
    }

    private int letHouses() {
        int let = bitsBelow(houseCount);
        for (int k = 0; k < now.askCount; k++) {
            let &= housesShowing(now.asks[k]);
        }
        return let;
    }

    private int housesShowing(Ask made) {
        int on = lampsOn(made.on, made.hour);
        int there = lampsIn(made.rooms);
        int set = 0;
        for (int h = 0; h < houseCount; h++) {
            if ((((fedLamps(h, made.out) & on) ^ made.seen) & there) == 0) {
                set |= 1 << h;
            }
        }
        return set;
    }

    private void fillShows(int rooms, int some) {
        int watched = lampsOn(now.dials[ON], now.dials[HOUR]) & lampsIn(rooms);
        int all = bitsBelow(fuseCount);
        for (int set = 0; set <= all; set++) {
            for (int h = 0; h < houseCount; h++) {
                if (has(some, h)) {
                    shows[set * MOST_HOUSES + h] = fedLamps(h, set) & watched;
                }
            }
        }
    }

    /** Those of some HOUSES that show by a set of FUSES what h shows. */
    private int kindOf(int set, int h, int some) {
        int shown = shows[set * MOST_HOUSES + h];
        int kind = 0;
        for (int other = 0; other < houseCount; other++) {
            if (has(some, other) && shows[set * MOST_HOUSES + other] == shown) {
                kind |= 1 << other;
            }
        }
        return kind;
    }

    private int kindCount(int set, int some) {
        int kinds = 0;
        int left = some;
        for (int h = 0; h < houseCount; h++) {
            if (has(left, h)) {
                left &= ~kindOf(set, h, left);
                kinds++;
            }
        }
        return kinds;
    }

    private int greatestKind(int set, int some) {
        int greatest = 0;
        int left = some;
        for (int h = 0; h < houseCount; h++) {
            if (has(left, h)) {
                int kind = kindOf(set, h, left);
                left &= ~kind;
                greatest = Math.max(greatest, Integer.bitCount(kind));
            }
        }
        return greatest;
    }

    private int nextSet(int some, int most) {
        int all = bitsBelow(fuseCount);
        int best = 0;
        int least = MOST_HOUSES + 1;
        for (int set = 0; set <= all; set++) {
            if (Integer.bitCount(set) <= most) {
                int greatest = greatestKind(set, some);
                boolean fewer = Integer.bitCount(set) < Integer.bitCount(best);
                if (greatest < least || greatest == least && fewer) {
                    best = set;
                    least = greatest;
                }
            }
        }
        return best;
    }

    private int leftBehind(int set, int some) {
        int most = 0;
        int left = some;
        for (int h = 0; h < houseCount; h++) {
            if (has(left, h)) {
                int kind = kindOf(set, h, left);
                left &= ~kind;
                most = Math.max(most, greatestKind(nextSet(kind, 2), kind));
            }
        }
        return most;
    }

    // ---- what is sure

    public int sure(int l) {
        if (!isLamp(l)) {
            return NO_SUCH;
        }
        int let = letHouses();
        return let == 0 ? STATE : agreedFuse(l, let);
    }

    public int grey() {
        int let = letHouses();
        int set = 0;
        for (int l = 0; l < lampCount; l++) {
            if (agreedFuse(l, let) == NONE) {
                set |= 1 << l;
            }
        }
        return set;
    }

    public int live(int l, int outs) {
        if (!isLamp(l)) {
            return NO_SUCH;
        }
        if (!isFuses(outs)) {
            return NO_FURTHER;
        }
        return housesFeeding(l, outs, letHouses());
    }

    public int dead(int l) {
        if (!isLamp(l)) {
            return NO_SUCH;
        }
        int let = letHouses();
        int all = bitsBelow(fuseCount);
        int best = all;
        for (int set = 0; set <= all; set++) {
            if (Integer.bitCount(set) < Integer.bitCount(best) && housesFeeding(l, set, let) == 0) {
                best = set;
            }
        }
        return best;
    }

    public int touch() {
        int let = letHouses();
        int fed = 0;
        for (int h = 0; h < houseCount; h++) {
            if (has(let, h)) {
                fed |= fedLamps(h, now.dials[OUT]);
            }
        }
        return bitsBelow(lampCount) & ~fed;
    }

    /** The FUSE that feeds a LAMP in each of some HOUSES; NONE where they differ or there are none. */
    private int agreedFuse(int l, int some) {
        int agreed = NONE;
        for (int h = 0; h < houseCount; h++) {
            if (has(some, h)) {
                int f = houses[h].fuseOf[l];
                if (agreed != NONE && agreed != f) {
                    return NONE;
                }
                agreed = f;
            }
        }
        return agreed;
    }

    private int housesFeeding(int l, int out, int some) {
        int set = 0;
        for (int h = 0; h < houseCount; h++) {
            if (has(some, h) && has(fedLamps(h, out), l)) {
                set |= 1 << h;
            }
        }
        return set;
    }

    // ---- lamps of unlike strength

    public int sums(int r) {
        if (!isRoom(r)) {
            return BAD;
        }
        sumSet.begin();
        for (int l = 0; l < lampCount; l++) {
            if (lamps[l].room == r) {
                sumSet.join(lamps[l].power);
            }
        }
        return sumSet.size();
    }

    public int which(int r, int sum) {
        if (!isRoom(r) || !within(sum, 0, 9999)) {
            return BAD;
        }
        int there = lampsIn(1 << r);
        int found = NONE;
        for (int set = 0; set <= there; set++) {
            if (isSubset(set, there) && powerOf(set) == sum) {
                if (found != NONE) {
                    return STATE;
                }
                found = set;
            }
        }
        return found;
    }

    public int put(int r) {
        if (!isRoom(r)) {
            return BAD;
        }
        for (int l = 0; l < lampCount; l++) {
            if (lamps[l].room == r && gatherOthers(r, l)) {
                for (int power = 1; power <= 99; power++) {
                    if (!sumSet.meets(power)) {
                        return 100 * l + power;
                    }
                }
            }
        }
        return NONE;
    }

    /** Gathers the SUMS of a ROOM's LAMPS but one; whether all sets of these have unlike ones. */
    private boolean gatherOthers(int r, int but) {
        sumSet.begin();
        for (int l = 0; l < lampCount; l++) {
            if (l != but && lamps[l].room == r) {
                if (sumSet.meets(lamps[l].power)) {
                    return false;
                }
                sumSet.join(lamps[l].power);
            }
        }
        return true;
    }

    private int powerOf(int set) {
        int power = 0;
        for (int l = 0; l < lampCount; l++) {
            if (has(set, l)) {
                power += lamps[l].power;
            }
        }
        return power;
    }

    // ---- labels, walls

    public int label(int y, int s) {
        if (!within(y, 1, 9999)) {
            return BAD;
        }
        int refusal = wiringRefusal(s);
        if (refusal != FINE) {
            return refusal;
        }
        if (labelCount >= MOST_LABELS) {
            return FULL;
        }
        labels[labelCount].become(sheets[s], lampCount);
        labels[labelCount].year = y;
        labelCount++;
        return labelCount - 1;
    }

    public int agree(int k, int h) {
        if (!isLabel(k) || !isHouse(h)) {
            return NO_SUCH;
        }
        return agreements(k, h);
    }

    public int right() {
        int let = letHouses();
        int year = NONE;
        int most = 0;
        for (int k = 0; k < labelCount; k++) {
            int agreed = agreementsOver(k, let);
            if (year == NONE || agreed > most || agreed == most && labels[k].year > year) {
                year = labels[k].year;
                most = agreed;
            }
        }
        return year;
    }

    public long odds(int k, int part) {
        if (!isLabel(k) || !within(part, 0, 1)) {
            return NO;
        }
        int let = letHouses();
        int above = agreementsOver(k, let);
        int below = lampCount * Integer.bitCount(let);
        int divisor = commonDivisor(above, below);
        if (divisor <= 0) {
            return part;
        }
        return part == 0 ? above / divisor : below / divisor;
    }

    public int wall(int s, int r, int what) {
        if (!isSheet(s) || !isRoom(r) || !within(what, 0, 1)) {
            return BAD;
        }
        Sheet told = sheets[s];
        if (told.isMissing()) {
            return MISSING;
        }
        if (!within(told.size, 1, MOST_PLACES) || !told.isWithin(0, 999)) {
            return BAD;
        }
        fillTones(r, told.size);
        int best = 0;
        int least = wallAmiss(told, 0);
        for (int joint = 1; joint < told.size; joint++) {
            int differences = wallAmiss(told, joint);
            if (differences < least) {
                best = joint;
                least = differences;
            }
        }
        return what == 0 ? best : least;
    }

    private int agreements(int k, int h) {
        int agreed = 0;
        for (int l = 0; l < lampCount; l++) {
            if (labels[k].fuseOf[l] == houses[h].fuseOf[l]) {
                agreed++;
            }
        }
        return agreed;
    }

    private int agreementsOver(int k, int some) {
        int agreed = 0;
        for (int h = 0; h < houseCount; h++) {
            if (has(some, h)) {
                agreed += agreements(k, h);
            }
        }
        return agreed;
    }

    private static int commonDivisor(int a, int b) {
        int greater = a;
        int less = b;
        for (int step = 0; step < 100 && less != 0; step++) {
            int rest = greater % less;
            greater = less;
            less = rest;
        }
        return greater;
    }

    /** Puts what tone says into said, by how many places off. */
    private void fillTones(int r, int places) {
        for (int far = 0; far < places && far < MOST_PLACES; far++) {
            machine.tellNames(0, 0, now.dials[HOUR], r, 0, far);
            said[far] = machine.sayBy(textInForce(), TONE_PART);
        }
    }

    private int wallAmiss(Sheet told, int joint) {
        int differences = 0;
        for (int i = 0; i < told.size && i < MOST_PLACES; i++) {
            differences += Math.abs(told.cells[i] - said[Math.abs(i - joint)]);
        }
        return differences;
    }

    // ---- one thing broken, loads

    public int broken(int h, int rooms, int seen) {
        if (!isHouse(h)) {
            return NO_SUCH;
        }
        if (!isRooms(rooms) || !isSubset(seen, lampsIn(rooms))) {
            return NO_FURTHER;
        }
        int there = lampsIn(rooms);
        int on = lampsOn(now.dials[ON], now.dials[HOUR]);
        int lit = on & fedLamps(h, now.dials[OUT]);
        int found = 0;
        for (int l = 0; l < lampCount; l++) {
            if ((lit & ~(1 << l) & there) == seen) {
                found |= 1 << l;
            }
        }
        for (int f = 0; f < fuseCount; f++) {
            if ((on & fedLamps(h, now.dials[OUT] | 1 << f) & there) == seen) {
                found |= 1 << (16 + f);
            }
        }
        return found;
    }

    public int load(int h, int f) {
        if (!isHouse(h) || !isFuse(f)) {
            return NO_SUCH;
        }
        forgetSaid();
        return loadOf(houses[h].feeds[f], litNow(h));
    }

    public int over(int h) {
        if (!isHouse(h)) {
            return NO_SUCH;
        }
        forgetSaid();
        int lit = litNow(h);
        int set = 0;
        for (int f = 0; f < fuseCount; f++) {
            if (loadOf(houses[h].feeds[f], lit) > fuses[f].bears) {
                set |= 1 << f;
            }
        }
        return set;
    }

    public int thick(int h, int f) {
        if (!isHouse(h) || !isFuse(f)) {
            return NO_SUCH;
        }
        forgetSaid();
        int fed = fedLamps(h, 0);
        int used = usedSwitches();
        int most = 0;
        for (int on = 0; on < SWITCH_SETS; on++) {
            if (isSubset(on, used)) {
                int lit = fed & lampsOn(on, now.dials[HOUR]);
                most = Math.max(most, loadOf(houses[h].feeds[f], lit));
            }
        }
        return most;
    }

    public int meter(int h) {
        if (!isHouse(h)) {
            return NO_SUCH;
        }
        forgetSaid();
        return loadOf(bitsBelow(lampCount), litNow(h));
    }

    public int witness(int told, int off) {
        if (!within(told, 0, 99999) || !within(off, 0, 999)) {
            return BAD;
        }
        int let = letHouses();
        forgetSaid();
        int set = 0;
        for (int h = 0; h < houseCount; h++) {
            if (has(let, h) && Math.abs(loadOf(bitsBelow(lampCount), litNow(h)) - told) <= off) {
                set |= 1 << h;
            }
        }
        return set;
    }

    public long order(int h, int what) {
        if (!isHouse(h) || !within(what, 0, 1)) {
            return NO;
        }
        int left = bitsBelow(fuseCount);
        long digits = 0;
        long dark = 0;
        int hours = 0;
        for (int n = 0; n < fuseCount; n++) {
            int f = worthiestFuse(h, left);
            left &= ~(1 << f);
            hours += fuses[f].takes;
            digits = digits * 10 + f + 1;
            dark += (long) powerOf(houses[h].feeds[f]) * hours;
        }
        return what == 0 ? digits : dark;
    }

    public int drawn(int seed, int rooms, int what) {
        if (!within(seed, 0, 99999) || !isRooms(rooms) || !within(what, 0, 1)) {
            return BAD;
        }
        if (houseCount <= 0) {
            return STATE;
        }
        long lot = lotAfter(seed + 1);
        int h = (int) (lot % houseCount);
        if (what == 0) {
            return h;
        }
        int seen = litNow(h);
        for (int l = 0; l < lampCount; l++) {
            lot = lotAfter(lot);
            if (lot % 100 < now.dials[SLIPS]) {
                seen ^= 1 << l;
            }
        }
        return seen & lampsIn(rooms);
    }

    public int image() {
        kept.takeFrom(now);
        imageKept = true;
        return now.askCount;
    }

    public int back() {
        if (!imageKept) {
            return STATE;
        }
        now.takeFrom(kept);
        return now.askCount;
    }

    private void forgetSaid() {
        for (int i = 0; i < said.length; i++) {
            said[i] = NOT_SAID;
        }
    }

    private int loadOf(int some, int lit) {
        int together = 0;
        for (int l = 0; l < lampCount; l++) {
            if (has(some & lit, l)) {
                together += lampLoad(l, rowOf(l, lit));
            }
        }
        return together;
    }

    private int lampLoad(int l, int row) {
        int place = l * ROWS + row;
        if (!within(place, 0, said.length - 1)) {
            return 0;
        }
        if (said[place] == NOT_SAID) {
            said[place] = lawSaysOfLamp(LOAD_PART, l, row);
        }
        return said[place];
    }

    private int usedSwitches() {
        int used = 0;
        for (int l = 0; l < lampCount; l++) {
            used |= 1 << lamps[l].x | 1 << lamps[l].y;
        }
        return used;
    }

    private int worthiestFuse(int h, int left) {
        int best = 0;
        int bestPower = -1;
        for (int f = 0; f < fuseCount; f++) {
            if (has(left, f)) {
                int power = powerOf(houses[h].feeds[f]);
                if (bestPower < 0 || power * fuses[best].takes > bestPower * fuses[f].takes) {
                    best = f;
                    bestPower = power;
                }
            }
        }
        return best;
    }

    private static long lotAfter(long last) {
        return last * 48271L % 2147483647L;
    }

    // ---- the host

    public int sheet(int s, int sort, int n) {
        if (!isSheet(s) || !within(sort, Sheet.NO_SORT, Sheet.INTS)) {
            return BAD;
        }
        if (sort == Sheet.NO_SORT) {
            sheets[s].become(sort, 0);
            return 1;
        }
        if (n > MOST_CELLS) {
            return BAD;
        }
        if (n < 0) {
            return BELOW_NOTHING;
        }
        sheets[s].become(sort, n);
        return 1;
    }

    public int cell(int s, int i, int v) {
        if (!isSheet(s)) {
            return BAD;
        }
        if (sheets[s].isMissing()) {
            return MISSING;
        }
        if (!within(i, 0, sheets[s].size - 1)) {
            return OUTSIDE;
        }
        sheets[s].write(i, v);
        return 1;
    }

    public int copy(int s, int i, int other, int j, int n) {
        if (!isSheet(s) || !isSheet(other)) {
            return BAD;
        }
        Sheet from = sheets[s];
        Sheet to = sheets[other];
        if (from.isMissing() || to.isMissing()) {
            return MISSING;
        }
        if (from.sort != to.sort) {
            return UNLIKE;
        }
        if (!from.holds(i, n) || !to.holds(j, n)) {
            return OUTSIDE;
        }
        System.arraycopy(from.cells, i, to.cells, j, n);
        return n;
    }

    public int lampsBy(int s, int sort, int at, int n) {
        if (!isSheet(s) || !within(sort, Sheet.BYTES, Sheet.INTS) || !within(n, 0, MOST_LAMPS)) {
            return BAD;
        }
        Sheet told = sheets[s];
        if (told.isMissing()) {
            return MISSING;
        }
        if (told.sort != sort) {
            return UNLIKE;
        }
        int came = 0;
        for (int k = 0; k < n; k++) {
            int i = at + 4 * k;
            if (!told.holds(i, 4)) {
                return OUTSIDE;
            }
            if (lamp(told.cells[i], told.cells[i + 1], told.cells[i + 2], told.cells[i + 3]) >= 0) {
                came++;
            }
        }
        return came;
    }

    public int taken(int i, int kind) {
        if (!within(kind, JOIN, A_FUSE)) {
            return BAD;
        }
        if (!within(i, 0, MOST_FUSES + MOST_LAMPS - 1)) {
            return OUTSIDE;
        }
        int l = i - MOST_FUSES;
        if (l < 0) {
            return takenFuse(i, kind);
        }
        if (!isLamp(l)) {
            return MISSING;
        }
        return lamps[l].isA(kind) ? l : UNLIKE;
    }

    private int takenFuse(int f, int kind) {
        if (!isFuse(f)) {
            return MISSING;
        }
        return kind == A_FUSE ? fuses[f].bears : UNLIKE;
    }

    // ---- what numbers may be

    private static boolean within(int v, int least, int most) {
        return v >= least && v <= most;
    }

    private static int bitsBelow(int n) {
        return (1 << n) - 1;
    }

    private static boolean has(int bits, int n) {
        return (bits >>> n & 1) != 0;
    }

    private static boolean isSubset(int bits, int all) {
        return (bits & ~all) == 0;
    }

    private boolean isFuse(int f) {
        return within(f, 0, fuseCount - 1);
    }

    private boolean isFuses(int bits) {
        return isSubset(bits, bitsBelow(fuseCount));
    }

    private boolean isLamp(int l) {
        return within(l, 0, lampCount - 1);
    }

    private boolean isHouse(int h) {
        return within(h, 0, houseCount - 1);
    }

    private boolean isLabel(int k) {
        return within(k, 0, labelCount - 1);
    }

    private static boolean isRoom(int r) {
        return within(r, 0, MOST_ROOMS - 1);
    }

    private static boolean isRooms(int bits) {
        return isSubset(bits, bitsBelow(MOST_ROOMS));
    }

    private static boolean isSheet(int s) {
        return within(s, 0, MOST_SHEETS - 1);
    }

    private static final class Fuse {
        private int bears;
        private int takes;
        /** BORROWED LAMPS whose MORE is this FUSE's number, told even before the FUSE is there. */
        private int lendsTo;
    }

    private static final class Lamp {
        private int kind;
        private int power;
        private int room;
        private int x;
        private int y;
        private int more;

        private void become(int itsKind, int itsPower, int where, int itsMore) {
            kind = itsKind;
            power = itsPower;
            room = where / 100;
            x = where / 10 % 10;
            y = where % 10;
            more = itsMore;
        }

        private boolean isA(int wanted) {
            return wanted == kind || wanted == JOIN || wanted == STAIR && kind == TIMED;
        }

        private boolean isOn(int on, int hour) {
            switch (kind) {
                case STAIR:
                    return has(on, x) != has(on, y);
                case TIMED:
                    return has(on, x) != has(on, y) && within(hour, 6, 17);
                case BLIND:
                    return true;
                default:
                    return has(on, x);
            }
        }
    }

    /** Which FUSE feeds each LAMP: in a HOUSE, or by a LABEL of a year. */
    private static final class Wiring {
        private final int[] fuseOf = new int[MOST_LAMPS];
        private final int[] feeds = new int[MOST_FUSES];
        private int year;

        private void become(Sheet told, int lamps) {
            for (int l = 0; l < lamps && l < MOST_LAMPS; l++) {
                int f = told.cells[l];
                fuseOf[l] = f;
                if (within(f, 0, MOST_FUSES - 1)) {
                    feeds[f] |= 1 << l;
                }
            }
        }
    }

    private static final class Ask {
        private int out;
        private int on;
        private int hour;
        private int rooms;
        private int seen;

        private void takeFrom(Ask other) {
            out = other.out;
            on = other.on;
            hour = other.hour;
            rooms = other.rooms;
            seen = other.seen;
        }
    }

    /** All that AN IMAGE keeps. */
    private static final class Moment {
        private final int[] dials = new int[SLIPS + 1];
        private final Ask[] asks = new Ask[MOST_ASKS];
        private int askCount;
        private int law;

        private Moment() {
            for (int k = 0; k < MOST_ASKS; k++) {
                asks[k] = new Ask();
            }
        }

        private void takeFrom(Moment other) {
            System.arraycopy(other.dials, 0, dials, 0, SLIPS + 1);
            for (int k = 0; k < MOST_ASKS; k++) {
                asks[k].takeFrom(other.asks[k]);
            }
            askCount = other.askCount;
            law = other.law;
        }
    }

    /** A TEXT as steps behind one another: a NUMBER is itself, a NAME or a sign is its token below 0. */
    private static final class Text {
        private final int[] steps = new int[MOST_BYTES];
        private final int[] ends = new int[PARTS];
        private int size;
        private int partCount;

        private void begin() {
            size = 0;
            partCount = 0;
        }

        private void add(int step) {
            if (size < MOST_BYTES) {
                steps[size] = step;
                size++;
            }
        }

        private void endPart() {
            if (partCount < PARTS) {
                ends[partCount] = size;
                partCount++;
            }
        }

        private void takeFrom(Text other) {
            System.arraycopy(other.steps, 0, steps, 0, MOST_BYTES);
            System.arraycopy(other.ends, 0, ends, 0, PARTS);
            size = other.size;
            partCount = other.partCount;
        }
    }

    /** THE TAPE and the reading of it. Each FAULT lies where the token begins at which the reading stopped. */
    private static final class Reader {
        private static final int NO_FAULT = -1;
        private static final int MOST_OPEN = 5;
        private static final int END = 0, WRONG = 1, NUMBER = 2;
        private static final int GLOW = 300, TONE = 301, LOAD = 302, OR = 303, AND = 304, NOT = 305;
        private static final int FIRST_NAME = 306, LAST_NAME = 311, MINUS_ONE = 312;
        private static final String WORDS = "glow tone load or and not power row hour room more far ";
        private static final String SIGNS = "();+-*<=";

        private final int[] bytes = new int[MOST_BYTES];
        private int size;
        private int at;
        private int token;
        private int place;
        private int number;
        /** The TEXT as far as it has been read. */
        private final Text draft = new Text();

        private void append(int b) {
            if (size < MOST_BYTES) {
                bytes[size] = b;
                size++;
            }
        }

        private void fill(String s) {
            for (int i = 0; i < s.length(); i++) {
                append(s.charAt(i));
            }
        }

        private void empty() {
            size = 0;
        }

        private int findFault() {
            draft.begin();
            at = 0;
            advance();
            boolean whole = readPart(GLOW) && readPart(TONE) && readPart(LOAD) && token == END;
            return whole ? NO_FAULT : place;
        }

        private boolean readPart(int key) {
            if (token != key) {
                return false;
            }
            advance();
            if (!readOrs(0) || token != ';') {
                return false;
            }
            draft.endPart();
            advance();
            return true;
        }

        private boolean readOrs(int open) {
            if (!readAnds(open)) {
                return false;
            }
            for (int n = 0; n < MOST_BYTES && token == OR; n++) {
                advance();
                if (!readAnds(open)) {
                    return false;
                }
                draft.add(-OR);
            }
            return true;
        }

        private boolean readAnds(int open) {
            if (!readNot(open)) {
                return false;
            }
            for (int n = 0; n < MOST_BYTES && token == AND; n++) {
                advance();
                if (!readNot(open)) {
                    return false;
                }
                draft.add(-AND);
            }
            return true;
        }

        private boolean readNot(int open) {
            if (token != NOT) {
                return readComparison(open);
            }
            if (open >= MOST_OPEN) {
                return false;
            }
            advance();
            if (!readNot(open + 1)) {
                return false;
            }
            draft.add(-NOT);
            return true;
        }

        private boolean readComparison(int open) {
            if (!readSum(open)) {
                return false;
            }
            if (token != '<' && token != '=') {
                return true;
            }
            int sign = token;
            advance();
            if (!readSum(open)) {
                return false;
            }
            draft.add(-sign);
            return true;
        }

        private boolean readSum(int open) {
            if (!readTerm(open)) {
                return false;
            }
            for (int n = 0; n < MOST_BYTES && (token == '+' || token == '-'); n++) {
                int sign = token;
                advance();
                if (!readTerm(open)) {
                    return false;
                }
                draft.add(-sign);
            }
            return true;
        }

        private boolean readTerm(int open) {
            if (!readOne(open)) {
                return false;
            }
            for (int n = 0; n < MOST_BYTES && token == '*'; n++) {
                advance();
                if (!readOne(open)) {
                    return false;
                }
                draft.add(-'*');
            }
            return true;
        }

        private boolean readOne(int open) {
            if (token == NUMBER || within(token, FIRST_NAME, LAST_NAME)) {
                draft.add(token == NUMBER ? number : -token);
                advance();
                return true;
            }
            if (token != '-' && token != '(' || open >= MOST_OPEN) {
                return false;
            }
            int sign = token;
            advance();
            return sign == '-' ? readNegated(open + 1) : readBracketed(open + 1);
        }

        private boolean readNegated(int open) {
            if (!readOne(open)) {
                return false;
            }
            draft.add(-MINUS_ONE);
            return true;
        }

        private boolean readBracketed(int open) {
            if (!readOrs(open) || token != ')') {
                return false;
            }
            advance();
            return true;
        }

        private void advance() {
            while (at < size && (bytes[at] == 32 || bytes[at] == 10)) {
                at++;
            }
            place = at;
            if (at >= size) {
                token = END;
            } else if (isLetter(at)) {
                advanceWord();
            } else if (isDigit(at)) {
                advanceNumber();
            } else {
                token = SIGNS.indexOf((char) bytes[at]) >= 0 ? bytes[at] : WRONG;
                at++;
            }
        }

        private void advanceWord() {
            while (at < size && isLetter(at)) {
                at++;
            }
            token = WRONG;
            int word = GLOW;
            int from = 0;
            for (int i = 0; i < WORDS.length(); i++) {
                if (WORDS.charAt(i) == ' ') {
                    if (isWord(from, i)) {
                        token = word;
                    }
                    word++;
                    from = i + 1;
                }
            }
        }

        private void advanceNumber() {
            number = 0;
            while (at < size && isDigit(at)) {
                if (at - place < 4) {
                    number = number * 10 + bytes[at] - '0';
                }
                at++;
            }
            token = at - place > 4 ? WRONG : NUMBER;
        }

        /** Whether the bytes from place up to at are the letters of WORDS from one place up to another. */
        private boolean isWord(int from, int to) {
            if (to - from != at - place) {
                return false;
            }
            for (int i = 0; i < to - from; i++) {
                if (WORDS.charAt(from + i) != bytes[place + i]) {
                    return false;
                }
            }
            return true;
        }

        private boolean isLetter(int i) {
            return within(bytes[i], 'a', 'z');
        }

        private boolean isDigit(int i) {
            return within(bytes[i], '0', '9');
        }
    }

    /** Works out what a part of a TEXT says. */
    private static final class Machine {
        private final int[] names = new int[6];
        private final int[] stack = new int[MOST_BYTES];
        private int top;

        private void tellNames(int power, int row, int hour, int room, int more, int far) {
            names[0] = power;
            names[1] = row;
            names[2] = hour;
            names[3] = room;
            names[4] = more;
            names[5] = far;
        }

        private int sayBy(Text t, int part) {
            if (!within(part, 0, PARTS - 1)) {
                return 0;
            }
            int from = part == 0 ? 0 : t.ends[part - 1];
            top = 0;
            for (int i = from; i < t.ends[part] && i < MOST_BYTES; i++) {
                take(t.steps[i]);
            }
            return Math.max(0, Math.min(999, pop()));
        }

        private void take(int step) {
            int name = -step - Reader.FIRST_NAME;
            if (step >= 0) {
                push(step);
            } else if (within(name, 0, names.length - 1)) {
                push(names[name]);
            } else if (step == -Reader.NOT) {
                push(pop() == 0 ? 1 : 0);
            } else if (step == -Reader.MINUS_ONE) {
                push(-pop());
            } else {
                int second = pop();
                push(joined(-step, pop(), second));
            }
        }

        private static int joined(int sign, int a, int b) {
            switch (sign) {
                case Reader.OR:
                    return a != 0 || b != 0 ? 1 : 0;
                case Reader.AND:
                    return a != 0 && b != 0 ? 1 : 0;
                case '<':
                    return a < b ? 1 : 0;
                case '=':
                    return a == b ? 1 : 0;
                case '+':
                    return a + b;
                case '-':
                    return a - b;
                default:
                    return a * b;
            }
        }

        private void push(int v) {
            if (top < stack.length) {
                stack[top] = v;
                top++;
            }
        }

        private int pop() {
            if (top <= 0) {
                return 0;
            }
            top--;
            return stack[top];
        }
    }

    private static final class Sheet {
        private static final int NO_SORT = -1, BYTES = 0, SHORTS = 1, INTS = 2;

        private final int[] cells = new int[MOST_CELLS];
        private int sort = NO_SORT;
        private int size;

        private void become(int itsSort, int itsSize) {
            sort = itsSort;
            size = itsSize;
            for (int i = 0; i < MOST_CELLS; i++) {
                cells[i] = 0;
            }
        }

        private boolean isMissing() {
            return sort == NO_SORT;
        }

        private void write(int i, int v) {
            if (sort == BYTES) {
                cells[i] = (byte) v;
            } else if (sort == SHORTS) {
                cells[i] = (short) v;
            } else {
                cells[i] = v;
            }
        }

        private boolean holds(int i, int n) {
            return n >= 0 && i >= 0 && i <= size && n <= size - i;
        }

        private boolean isWithin(int least, int most) {
            for (int i = 0; i < size; i++) {
                if (!within(cells[i], least, most)) {
                    return false;
                }
            }
            return true;
        }
    }

    /** The SUMS of sets of LAMPS as bits: sets have unlike ones as long as no LAMP that joins meets one. */
    private static final class SumSet {
        private static final int WORDS = 16, BITS = 64;

        private final long[] words = new long[WORDS];

        private void begin() {
            for (int i = 0; i < WORDS; i++) {
                words[i] = 0;
            }
            words[0] = 1;
        }

        private boolean meets(int power) {
            for (int i = 0; i < WORDS; i++) {
                if ((words[i] & raised(i, power)) != 0) {
                    return true;
                }
            }
            return false;
        }

        private void join(int power) {
            // From the highest word down, as each is raised from lower ones that must still be as they were.
            for (int i = WORDS - 1; i >= 0; i--) {
                words[i] |= raised(i, power);
            }
        }

        private long raised(int i, int power) {
            int from = i - power / BITS;
            int bits = power % BITS;
            long word = from >= 0 ? words[from] << bits : 0;
            if (bits > 0 && from >= 1) {
                word |= words[from - 1] >>> (BITS - bits);
            }
            return word;
        }

        private int size() {
            int sums = 0;
            for (int i = 0; i < WORDS; i++) {
                sums += Long.bitCount(words[i]);
            }
            return sums;
        }
    }
}
