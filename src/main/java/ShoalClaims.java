import java.util.Arrays;

/**
 * Seas, days and disputes told as texts, and what the laws of three coasts make of them.
 * The words in capitals are those of the document (DOC.md, "Terms").
 */
public final class ShoalClaims {
    public static final int NONE = -1;

    /** The answer where NONE itself is a thing that could be told. */
    private static final int NO_SUCH = -2;

    private static final int SEAS = 0;
    private static final int DAYS = 1;
    private static final int DISPUTES = 2;
    private static final int SORTS = 3;
    private static final int MOST_OF_A_SORT = 2;

    private static final int MOST_BYTES = 600;
    private static final int BYTES_OF_A_FEED = 20;
    private static final int IMAGES = 3;

    private static final int COASTS = 3;
    private static final int LAW_PARTS = 4;
    private static final int SYLLABLES = 0;
    private static final int WITNESSES = 1;
    private static final int NEAR = 2;
    private static final int HOLD = 3;

    private static final int MOST_CELLS = 64;
    private static final int MOST_BOATS = 6;
    private static final int TOLD_SHOALS = 4;
    /** Splitting makes further SHOALS, with numbers up to 5. */
    private static final int ALL_SHOALS = 6;
    private static final int SIDES = 4;
    private static final int NO_DRIFT = 4;
    private static final int WAITS = 4;
    private static final int LOUDEST_VOICE = 20;
    private static final int STRONGEST_WIND = 3;

    private static final int MOST_DEEDS = 30;
    private static final int DEED_NUMBERS = 3;
    private static final int ROW_DEED = 0;
    private static final int CLAIM_DEED = 1;
    private static final int ALL_DEED = 2;
    private static final int SPLIT_DEED = 3;
    private static final int NET_DEED = 4;
    private static final int WAIT_DEED = 5;

    private static final int LACKS_FREEDOM = 1;
    private static final int LACKS_WITNESSES = 2;
    private static final int LACKS_NEARNESS = 4;

    private static final int SOON_HOURS = 30;
    private static final int MEET_HOURS = 60;
    private static final int GULL_NUMBERS = 10;

    private static final int MOST_SAYINGS = 9;
    private static final int MOST_AHEADS = 16;

    private final Told told = new Told();
    private final Told[] images = new Told[IMAGES];
    private final Reader reader = new Reader();
    private final Run run = new Run();
    private final Words words = new Words();
    private final Choices choices = new Choices();
    private final Orders orders = new Orders();

    public ShoalClaims() {
    }

    public int feed(int a, int b, int c, int d, int e) {
        Tape tape = told.tape;
        if (tape.length + BYTES_OF_A_FEED > MOST_BYTES) {
            return NONE;
        }
        tape.put(a);
        tape.put(b);
        tape.put(c);
        tape.put(d);
        tape.put(e);
        return tape.length;
    }

    public int end(int n) {
        if (n < 0 || n > told.tape.length) {
            return NONE;
        }
        told.tape.length = n;
        return n;
    }

    public int text(int sort, int at) {
        int number = told.numberFor(sort, at);
        if (number == NO_SUCH) {
            told.takeTape(0, NONE);
            return NO_SUCH;
        }
        reader.read(told.tape, sort);
        told.takeTape(reader.fault, reader.place);
        if (reader.fault != 0) {
            return NONE;
        }
        told.keep(reader, sort, number);
        return number;
    }

    public int fault(int what) {
        if (what == 0) {
            return told.fault;
        }
        return what == 1 ? told.place : NONE;
    }

    public int sea(int sea, int what) {
        Sea s = told.findSea(sea);
        if (s == null) {
            return NONE;
        }
        switch (what) {
            case 0: return s.width;
            case 1: return s.height;
            case 2: return s.windSide;
            case 3: return s.windStrength;
            case 4: return s.nets;
            case 5: return s.shoals;
            case 6: return s.boats;
            default: break;
        }
        return what < 10 || what >= 10 + COASTS * LAW_PARTS ? NONE : s.laws[what - 10];
    }

    public int shoal(int sea, int shoal, int what) {
        Sea s = told.findSea(sea);
        if (s == null || !s.hasShoal(shoal)) {
            return NONE;
        }
        switch (what) {
            case 0: return s.shoalCell[shoal];
            case 1: return s.shoalFish[shoal];
            case 2: return s.shoalDrift[shoal];
            default: return NONE;
        }
    }

    public int boat(int sea, int boat, int what) {
        Sea s = told.findSea(sea);
        if (s == null || !s.hasBoat(boat)) {
            return NONE;
        }
        switch (what) {
            case 0: return s.boatCell[boat];
            case 1: return s.boatVoice[boat];
            case 2: return s.boatCoast[boat];
            case 3: return s.deaf >> boat & 1;
            default: return NONE;
        }
    }

    public int far(int sea, int from, int to) {
        Sea s = told.findSea(sea);
        if (s == null || !s.hasCell(from) || !s.hasCell(to)) {
            return NONE;
        }
        return s.cost(from, to);
    }

    public int hears(int sea, int boat, int to) {
        Sea s = told.findSea(sea);
        if (s == null || !s.hasBoat(boat)) {
            return NONE;
        }
        if (to < 0 || to >= MOST_BOATS) {
            return s.hearersAsTold(boat);
        }
        if (to == boat || !s.hasBoat(to)) {
            return NONE;
        }
        return words.passers(s, boat, to);
    }

    public int loud(int sea) {
        Sea s = told.findSea(sea);
        return s == null ? NONE : words.loudest(s);
    }

    public int deed(int day, int k, int what) {
        Day d = told.findDay(day);
        if (d == null) {
            return NO_SUCH;
        }
        if (k == NONE) {
            return what == 0 ? d.deeds : NO_SUCH;
        }
        if (k < 0 || k >= d.deeds || what < 0 || what > DEED_NUMBERS) {
            return NO_SUCH;
        }
        return what == 0 ? d.kinds[k] : d.numberOf(k, what - 1);
    }

    public int stop(int sea, int day) {
        return runToStop(sea, day) ? run.hour : NONE;
    }

    public int state(int sea, int day, int n, int shoal, int what) {
        if (!runToState(sea, day, n) || !run.shoals.isThere(shoal)) {
            return NO_SUCH;
        }
        Shoals s = run.shoals;
        boolean held = s.holderAt(shoal, n) != NONE;
        switch (what) {
            case 0: return s.cell[shoal];
            case 1: return s.fish[shoal];
            case 2: return s.holderAt(shoal, n);
            case 3: return held ? s.syllables[shoal] : 0;
            case 4: return held ? s.lastHour[shoal] - n + 1 : 0;
            case 5: return s.drift[shoal];
            default: return NO_SUCH;
        }
    }

    public int has(int sea, int day, int n, int boat, int what) {
        if (!runToState(sea, day, n) || !run.sea.hasBoat(boat)) {
            return NO_SUCH;
        }
        switch (what) {
            case 0: return run.boatCell[boat];
            case 1: return run.boatFish[boat];
            case 2: return run.claimable(boat);
            case 3: return run.shoals.heldBy(boat, n);
            case 4: return run.boatLawful[boat];
            default: return NO_SUCH;
        }
    }

    public int claimed(int sea, int day, int k, boolean witness) {
        if (k < 0 || !runToState(sea, day, k + 1)) {
            return NONE;
        }
        int kind = run.day.kinds[k];
        if (kind != CLAIM_DEED && kind != ALL_DEED) {
            return NONE;
        }
        return witness ? run.heard : run.claimedNow;
    }

    public int shares(int sea, int day, int k, int what) {
        if (k < 0 || !runToState(sea, day, k + 1) || run.day.kinds[k] != NET_DEED) {
            return NO_SUCH;
        }
        switch (what) {
            case 0: return run.netterFish;
            case 1: return run.netHolder;
            case 2: return run.holderFish;
            default: return NO_SUCH;
        }
    }

    public int twice(int sea, int day) {
        return runToStop(sea, day) ? run.namedTwice : NONE;
    }

    public int soon(int sea, int boat, int shoal, int what) {
        Sea s = told.findSea(sea);
        if (s == null || !s.hasBoat(boat) || !s.hasShoal(shoal)) {
            return NONE;
        }
        int needed = choices.fewestHours(s, boat, shoal);
        if (needed == NONE || what == 0) {
            return needed;
        }
        if (what < 10 || what - 10 >= needed) {
            return NONE;
        }
        return choices.doneInHour(s, boat, what - 10, needed);
    }

    public int berth(int sea, int boat, boolean fish) {
        Sea s = told.findSea(sea);
        if (s == null || !s.hasBoat(boat)) {
            return NONE;
        }
        choices.findBerth(s, boat);
        return fish ? choices.bestFish : choices.bestFirst;
    }

    public int pair(int sea, int a, int b, int what) {
        Sea s = told.findSea(sea);
        if (s == null || a == b || !s.hasBoat(a) || !s.hasBoat(b) || what < 0 || what > 2) {
            return NONE;
        }
        choices.findPair(s, a, b);
        if (what == 2) {
            return choices.bestFish;
        }
        return what == 0 ? choices.bestFirst : choices.bestSecond;
    }

    public int dispute(int dispute, int what) {
        Dispute d = told.findDispute(dispute);
        if (d == null) {
            return NO_SUCH;
        }
        if (what >= 20) {
            return d.numberOf(what);
        }
        if (what >= 10) {
            return what - 10 < d.sayings ? orders.inFirstOrder(d, what - 10) : NO_SUCH;
        }
        switch (what) {
            case 0: return d.sayings;
            case 1: return d.aheads;
            case 2: return orders.howMany(d);
            case 3: return orders.sureCouples(d);
            case 4: return orders.findHours(d) ? 1 : 0;
            case 5: return orders.maybeFirst(d);
            case 6: return orders.fewestWithout(d);
            default: return NO_SUCH;
        }
    }

    public int hours(int dispute, int saying, boolean most) {
        Dispute d = told.findDispute(dispute);
        if (d == null || saying < 0 || saying >= d.sayings || !orders.findHours(d)) {
            return NONE;
        }
        return most ? orders.latest[saying] : orders.earliest[saying];
    }

    public int gulls(int sea, int day, int seed, int k, int what) {
        Sea s = told.findSea(sea);
        Day d = told.findDay(day);
        if (s == null || d == null || k < 0 || k > GULL_NUMBERS) {
            return NONE;
        }
        boolean ofBoat = what >= 10 && s.hasBoat(what - 10);
        if (what != 0 && what != 1 && !ofBoat) {
            return NONE;
        }
        run.begin(s, d, seed, k);
        run.go(MOST_DEEDS);
        if (ofBoat) {
            return run.boatFish[what - 10];
        }
        return what == 0 ? run.lawfulClaims() : run.hour;
    }

    public int lack(int sea, int day, int n, int boat, int shoal) {
        if (!runToState(sea, day, n) || !run.sea.hasBoat(boat) || !run.shoals.isThere(shoal)) {
            return NONE;
        }
        return run.lacking(boat, shoal, run.hearersNow(boat));
    }

    public int least(int sea, int boat, int shoal) {
        Sea s = told.findSea(sea);
        if (s == null || !s.hasBoat(boat) || !s.hasShoal(shoal)) {
            return NONE;
        }
        return words.leastVoice(s, boat, shoal);
    }

    public int winds(int sea, int what) {
        Sea s = told.findSea(sea);
        if (s == null || what < 0 || what > 2) {
            return NONE;
        }
        words.findWind(s);
        if (what == 2) {
            return words.bestCouples;
        }
        return what == 0 ? words.bestStrength : words.bestSide;
    }

    public int meet(int sea, int a, int b) {
        Sea s = told.findSea(sea);
        if (s == null || a == b || !s.hasShoal(a) || !s.hasShoal(b)) {
            return NONE;
        }
        int cellOfA = s.shoalCell[a];
        int cellOfB = s.shoalCell[b];
        for (int hour = 0; hour <= MEET_HOURS; hour++) {
            if (cellOfA == cellOfB) {
                return hour;
            }
            cellOfA = s.drifted(cellOfA, s.shoalDrift[a]);
            cellOfB = s.drifted(cellOfB, s.shoalDrift[b]);
        }
        return NONE;
    }

    public int sum(int sea, int day, int what) {
        if (!runToStop(sea, day)) {
            return NO_SUCH;
        }
        switch (what) {
            case 0: return run.luck();
            case 1: return run.shoals.fishThere();
            case 2: return run.richestCoast();
            case 3: return run.richestBoat();
            default: return NO_SUCH;
        }
    }

    public int tells(int sea, int boat) {
        Sea s = told.findSea(sea);
        if (s == null || !s.hasBoat(boat)) {
            return NONE;
        }
        return words.reachedOthers(s, boat);
    }

    public int count(int sort) {
        return sort < 0 || sort >= SORTS ? NO_SUCH : told.numbers[sort];
    }

    public boolean image(int k) {
        if (k < 0 || k >= IMAGES) {
            return false;
        }
        if (images[k] == null) {
            images[k] = new Told();
        }
        images[k].copyFrom(told);
        return true;
    }

    public boolean again(int k) {
        if (k < 0 || k >= IMAGES || images[k] == null) {
            return false;
        }
        told.copyFrom(images[k]);
        return true;
    }

    private boolean runToStop(int sea, int day) {
        Sea s = told.findSea(sea);
        Day d = told.findDay(day);
        if (s == null || d == null) {
            return false;
        }
        run.begin(s, d, 0, 0);
        run.go(MOST_DEEDS);
        return true;
    }

    /** Whether there is such a STATE; then the run stands in it, and its records are of the DEED ahead of it. */
    private boolean runToState(int sea, int day, int n) {
        Sea s = told.findSea(sea);
        Day d = told.findDay(day);
        if (s == null || d == null || n < 0 || n > d.deeds) {
            return false;
        }
        run.begin(s, d, 0, 0);
        run.go(n);
        return run.hour == n;
    }

    /** The bytes that wait to be taken as a text. */
    private static final class Tape {
        final byte[] bytes = new byte[MOST_BYTES];
        int length;

        void put(int number) {
            for (int shift = 24; shift >= 0; shift -= 8) {
                if (length < MOST_BYTES) {
                    bytes[length] = (byte) (number >>> shift);
                    length++;
                }
            }
        }

        /** 0 behind the end, which is no byte of any token. */
        int byteAt(int i) {
            return i < 0 || i >= length ? 0 : bytes[i] & 255;
        }

        void copyFrom(Tape other) {
            System.arraycopy(other.bytes, 0, bytes, 0, other.length);
            length = other.length;
        }
    }

    /** A SEA as told, and what follows from its shape and its WIND alone. */
    private static final class Sea {
        int width;
        int height;
        int windSide;
        int windStrength;
        int nets;
        final int[] laws = new int[COASTS * LAW_PARTS];
        int shoals;
        final int[] shoalCell = new int[TOLD_SHOALS];
        final int[] shoalFish = new int[TOLD_SHOALS];
        final int[] shoalDrift = new int[TOLD_SHOALS];
        int boats;
        final int[] boatCell = new int[MOST_BOATS];
        final int[] boatVoice = new int[MOST_BOATS];
        final int[] boatCoast = new int[MOST_BOATS];
        int deaf;

        void clear() {
            width = 6;
            height = 6;
            windSide = 0;
            windStrength = 0;
            nets = 4;
            for (int c = 0; c < COASTS; c++) {
                laws[LAW_PARTS * c + SYLLABLES] = 3;
                laws[LAW_PARTS * c + WITNESSES] = 1;
                laws[LAW_PARTS * c + NEAR] = 4;
                laws[LAW_PARTS * c + HOLD] = 6;
            }
            shoals = 0;
            boats = 0;
            deaf = 0;
        }

        void copyFrom(Sea other) {
            width = other.width;
            height = other.height;
            windSide = other.windSide;
            windStrength = other.windStrength;
            nets = other.nets;
            System.arraycopy(other.laws, 0, laws, 0, laws.length);
            shoals = other.shoals;
            System.arraycopy(other.shoalCell, 0, shoalCell, 0, TOLD_SHOALS);
            System.arraycopy(other.shoalFish, 0, shoalFish, 0, TOLD_SHOALS);
            System.arraycopy(other.shoalDrift, 0, shoalDrift, 0, TOLD_SHOALS);
            boats = other.boats;
            System.arraycopy(other.boatCell, 0, boatCell, 0, MOST_BOATS);
            System.arraycopy(other.boatVoice, 0, boatVoice, 0, MOST_BOATS);
            System.arraycopy(other.boatCoast, 0, boatCoast, 0, MOST_BOATS);
            deaf = other.deaf;
        }

        void addShoal(int cell, int fish, int drift) {
            if (shoals < TOLD_SHOALS) {
                shoalCell[shoals] = cell;
                shoalFish[shoals] = fish;
                shoalDrift[shoals] = drift;
                shoals++;
            }
        }

        void addBoat(int cell, int voice, int coast) {
            if (boats < MOST_BOATS) {
                boatCell[boats] = cell;
                boatVoice[boats] = voice;
                boatCoast[boats] = coast;
                boats++;
            }
        }

        int cells() {
            return width * height;
        }

        boolean hasCell(int cell) {
            return cell >= 0 && cell < cells();
        }

        boolean hasShoal(int shoal) {
            return shoal >= 0 && shoal < shoals;
        }

        boolean hasBoat(int boat) {
            return boat >= 0 && boat < boats;
        }

        /** Whether all CELLS and BOATS that were told of are there. */
        boolean isWhole() {
            for (int s = 0; s < shoals; s++) {
                if (!hasCell(shoalCell[s])) {
                    return false;
                }
            }
            for (int b = 0; b < boats; b++) {
                if (!hasCell(boatCell[b])) {
                    return false;
                }
            }
            return deaf >> boats == 0;
        }

        int lawOf(int boat, int part) {
            return laws[LAW_PARTS * boatCoast[boat] + part];
        }

        int rowOf(int cell) {
            return width < 1 ? 0 : cell / width;
        }

        int columnOf(int cell) {
            return width < 1 ? 0 : cell % width;
        }

        /** How many rows of a BOAT lie between two CELLS at least. */
        int rowsBetween(int from, int to) {
            return Math.abs(rowOf(to) - rowOf(from)) + Math.abs(columnOf(to) - columnOf(from));
        }

        /** FAR: no way round saves a step against the WIND, as all CELLS are open. */
        int cost(int from, int to) {
            if (width < 1) {
                return 0;
            }
            int south = to / width - from / width;
            int east = to % width - from % width;
            int against;
            switch (windSide) {
                case 0: against = south; break;
                case 1: against = -east; break;
                case 2: against = -south; break;
                default: against = east; break;
            }
            int steps = Math.abs(south) + Math.abs(east);
            return against > 0 ? steps + against * windStrength : steps;
        }

        /** The CELL beside one on a side, NONE at the edge. */
        int beside(int cell, int side) {
            int row = rowOf(cell);
            int column = columnOf(cell);
            switch (side) {
                case 0: return row > 0 ? cell - width : NONE;
                case 1: return column < width - 1 ? cell + 1 : NONE;
                case 2: return row < height - 1 ? cell + width : NONE;
                case 3: return column > 0 ? cell - 1 : NONE;
                default: return NONE;
            }
        }

        int drifted(int cell, int drift) {
            int next = beside(cell, drift);
            return next == NONE ? cell : next;
        }

        /** BOATS (bits) that HEAR a BOAT which speaks from a CELL with a VOICE, all others being in their cells. */
        int hearers(int boat, int from, int voice, int[] cells) {
            int bits = 0;
            for (int b = 0; b < boats; b++) {
                boolean couldHear = b != boat && (deaf >> b & 1) == 0;
                if (couldHear && cost(from, cells[b]) <= voice) {
                    bits |= 1 << b;
                }
            }
            return bits;
        }

        int hearersAsTold(int boat) {
            return hearers(boat, boatCell[boat], boatVoice[boat], boatCell);
        }

        /** SHOALS (bits) at hour 0 that are not too far for a BOAT's law from a CELL. */
        int nearShoals(int boat, int from) {
            int bits = 0;
            for (int s = 0; s < shoals; s++) {
                if (cost(from, shoalCell[s]) <= lawOf(boat, NEAR)) {
                    bits |= 1 << s;
                }
            }
            return bits;
        }
    }

    /** A DAY as told. */
    private static final class Day {
        int deeds;
        final int[] kinds = new int[MOST_DEEDS];
        final int[] numbers = new int[MOST_DEEDS * DEED_NUMBERS];

        void clear() {
            deeds = 0;
        }

        void copyFrom(Day other) {
            deeds = other.deeds;
            System.arraycopy(other.kinds, 0, kinds, 0, MOST_DEEDS);
            System.arraycopy(other.numbers, 0, numbers, 0, numbers.length);
        }

        void addDeed(int kind, int[] told, int howMany) {
            if (deeds < MOST_DEEDS) {
                kinds[deeds] = kind;
                for (int i = 0; i < DEED_NUMBERS; i++) {
                    numbers[DEED_NUMBERS * deeds + i] = i < howMany && i < told.length ? told[i] : NONE;
                }
                deeds++;
            }
        }

        int numberOf(int k, int i) {
            return numbers[DEED_NUMBERS * k + i];
        }
    }

    /** A DISPUTE as told. */
    private static final class Dispute {
        int sayings;
        final int[] from = new int[MOST_SAYINGS];
        final int[] to = new int[MOST_SAYINGS];
        int aheads;
        final int[] first = new int[MOST_AHEADS];
        final int[] second = new int[MOST_AHEADS];

        void clear() {
            sayings = 0;
            aheads = 0;
        }

        void copyFrom(Dispute other) {
            sayings = other.sayings;
            System.arraycopy(other.from, 0, from, 0, MOST_SAYINGS);
            System.arraycopy(other.to, 0, to, 0, MOST_SAYINGS);
            aheads = other.aheads;
            System.arraycopy(other.first, 0, first, 0, MOST_AHEADS);
            System.arraycopy(other.second, 0, second, 0, MOST_AHEADS);
        }

        void addSaying(int hourFrom, int hourTo) {
            if (sayings < MOST_SAYINGS) {
                from[sayings] = hourFrom;
                to[sayings] = hourTo;
                sayings++;
            }
        }

        void addAhead(int one, int other) {
            if (aheads < MOST_AHEADS) {
                first[aheads] = one;
                second[aheads] = other;
                aheads++;
            }
        }

        /** Whether there are SAYINGS, and all that were told of. */
        boolean isWhole() {
            for (int k = 0; k < aheads; k++) {
                if (first[k] >= sayings || second[k] >= sayings) {
                    return false;
                }
            }
            return sayings > 0;
        }

        /** The told numbers by the document's whats: 20 FROM, 30 TO, 40 and 60 the two of an AHEAD. */
        int numberOf(int what) {
            if (what >= 20 && what < 20 + sayings) {
                return from[what - 20];
            }
            if (what >= 30 && what < 30 + sayings) {
                return to[what - 30];
            }
            if (what >= 40 && what < 40 + aheads) {
                return first[what - 40];
            }
            return what >= 60 && what < 60 + aheads ? second[what - 60] : NO_SUCH;
        }
    }

    /** All that is told: what an image holds. */
    private static final class Told {
        final Tape tape = new Tape();
        final int[] numbers = new int[SORTS];
        final Sea[] seas = {new Sea(), new Sea()};
        final Day[] days = {new Day(), new Day()};
        final Dispute[] disputes = {new Dispute(), new Dispute()};
        int fault;
        int place = NONE;

        void copyFrom(Told other) {
            tape.copyFrom(other.tape);
            System.arraycopy(other.numbers, 0, numbers, 0, SORTS);
            for (int i = 0; i < MOST_OF_A_SORT; i++) {
                seas[i].copyFrom(other.seas[i]);
                days[i].copyFrom(other.days[i]);
                disputes[i].copyFrom(other.disputes[i]);
            }
            fault = other.fault;
            place = other.place;
        }

        Sea findSea(int sea) {
            return sea < 0 || sea >= numbers[SEAS] ? null : seas[sea];
        }

        Day findDay(int day) {
            return day < 0 || day >= numbers[DAYS] ? null : days[day];
        }

        Dispute findDispute(int dispute) {
            return dispute < 0 || dispute >= numbers[DISPUTES] ? null : disputes[dispute];
        }

        /** The number of a further one of a sort (at NONE), or of the one in whose place a text comes. */
        int numberFor(int sort, int at) {
            if (sort < 0 || sort >= SORTS) {
                return NO_SUCH;
            }
            if (at == NONE) {
                return numbers[sort] < MOST_OF_A_SORT ? numbers[sort] : NO_SUCH;
            }
            return at < 0 || at >= numbers[sort] ? NO_SUCH : at;
        }

        /** Every text() takes the tape, also one that has no place for a text and reads none. */
        void takeTape(int faultOfText, int placeOfFault) {
            tape.length = 0;
            fault = faultOfText;
            place = placeOfFault;
        }

        void keep(Reader reader, int sort, int number) {
            if (sort == SEAS) {
                seas[number].copyFrom(reader.sea);
            } else if (sort == DAYS) {
                days[number].copyFrom(reader.day);
            } else {
                disputes[number].copyFrom(reader.dispute);
            }
            numbers[sort] = Math.max(numbers[sort], number + 1);
        }
    }

    /** Reads a tape as a text of a sort: into its own sea, day or dispute, so that a FAULT spoils nothing. */
    private static final class Reader {
        private static final int SIZE_LINE = 0;
        private static final int WIND_LINE = 1;
        private static final int NETS_LINE = 2;
        private static final int COAST_LINE = 3;
        private static final int SHOAL_LINE = 4;
        private static final int BOAT_LINE = 5;
        private static final int DEAF_LINE = 6;
        private static final int ROW_LINE = 7;
        private static final int WAIT_LINE = 12;
        private static final int SAID_LINE = 13;
        private static final int AHEAD_LINE = 14;

        /** The first line of each sort, and one behind the last line of all. */
        private static final int[] LINES_FROM = {SIZE_LINE, ROW_LINE, SAID_LINE, AHEAD_LINE + 1};
        private static final int[] NUMBERS_OF_LINE = {2, 2, 1, 5, 3, 3, 1, 2, 3, 2, 2, 2, 0, 2, 2};
        private static final int MOST_NUMBERS = 5;
        private static final int[] LEAST_NUMBER = {
            2, 2, 0, 0, 0, // size
            0, 0, 0, 0, 0, // wind
            1, 0, 0, 0, 0, // nets
            0, 1, 0, 0, 1, // coast
            0, 1, 0, 0, 0, // shoal
            0, 0, 0, 0, 0, // boat
            0, 0, 0, 0, 0, // deaf
            0, 0, 0, 0, 0, // row
            0, 0, 1, 0, 0, // claim
            0, 1, 0, 0, 0, // all
            0, 0, 0, 0, 0, // split
            0, 0, 0, 0, 0, // net
            0, 0, 0, 0, 0, // wait
            0, 0, 0, 0, 0, // said
            0, 0, 0, 0, 0, // ahead
        };
        private static final int[] MOST_NUMBER = {
            8, 8, 0, 0, 0, // size
            3, 3, 0, 0, 0, // wind
            9, 0, 0, 0, 0, // nets
            2, 20, 5, 20, 30, // coast
            63, 99, 4, 0, 0, // shoal
            63, 20, 2, 0, 0, // boat
            5, 0, 0, 0, 0, // deaf
            5, 3, 0, 0, 0, // row
            5, 5, 20, 0, 0, // claim
            5, 20, 0, 0, 0, // all
            5, 5, 0, 0, 0, // split
            5, 5, 0, 0, 0, // net
            0, 0, 0, 0, 0, // wait
            99, 99, 0, 0, 0, // said
            8, 8, 0, 0, 0, // ahead
        };

        private static final int END_TOKEN = 0;
        private static final int WORD_TOKEN = 1;
        private static final int NUMBER_TOKEN = 2;
        private static final int STOP_TOKEN = 3;
        private static final int NO_TOKEN = 4;

        final Sea sea = new Sea();
        final Day day = new Day();
        final Dispute dispute = new Dispute();
        int fault;
        int place;

        private final int[] numbers = new int[MOST_NUMBERS];
        private final int[] places = new int[MOST_NUMBERS];
        private int token;
        private int tokenStart;
        private int tokenEnd;

        void read(Tape tape, int sort) {
            sea.clear();
            day.clear();
            dispute.clear();
            fault = 0;
            place = NONE;
            tokenEnd = 0;
            boolean goesOn = true;
            for (int line = 0; goesOn && line <= MOST_BYTES; line++) {
                goesOn = readLine(tape, sort);
            }
            boolean whole = sort == SEAS ? sea.isWhole() : sort == DAYS || dispute.isWhole();
            if (!whole) {
                note(4, tape.length);
            }
        }

        /** False at the end, and where no text goes on. */
        private boolean readLine(Tape tape, int sort) {
            nextToken(tape);
            if (token == END_TOKEN) {
                return false;
            }
            int start = tokenStart;
            int line = token == WORD_TOKEN ? lineOf(tape, sort) : NONE;
            if (line == NONE) {
                return breakOff();
            }
            for (int i = 0; i < NUMBERS_OF_LINE[line]; i++) {
                nextToken(tape);
                if (token != NUMBER_TOKEN) {
                    return breakOff();
                }
                numbers[i] = numberOnTape(tape);
                places[i] = tokenStart;
            }
            nextToken(tape);
            if (token != STOP_TOKEN) {
                return breakOff();
            }
            checkLine(line, start);
            if (fault == 0) {
                takeLine(line);
            }
            return true;
        }

        /** A byte or token with which no text goes on goes before all faults that were noted. */
        private boolean breakOff() {
            fault = 1;
            place = tokenStart;
            return false;
        }

        /** The first fault by place stays, as lines are read by their places. */
        private void note(int newFault, int newPlace) {
            if (fault == 0) {
                fault = newFault;
                place = newPlace;
            }
        }

        private void nextToken(Tape tape) {
            int at = tokenEnd;
            while (at < tape.length && isBlank(tape.byteAt(at))) {
                at++;
            }
            tokenStart = at;
            int first = tape.byteAt(at);
            if (at >= tape.length) {
                token = END_TOKEN;
            } else if (isLetter(first)) {
                token = WORD_TOKEN;
                while (at < tape.length && isLetter(tape.byteAt(at))) {
                    at++;
                }
            } else if (isDigit(first)) {
                while (at < tape.length && isDigit(tape.byteAt(at))) {
                    at++;
                }
                token = at - tokenStart <= 2 ? NUMBER_TOKEN : NO_TOKEN;
            } else {
                token = first == ';' ? STOP_TOKEN : NO_TOKEN;
                at++;
            }
            tokenEnd = at;
        }

        private static boolean isBlank(int sign) {
            return sign == 10 || sign == 32;
        }

        private static boolean isLetter(int sign) {
            return sign >= 'a' && sign <= 'z';
        }

        private static boolean isDigit(int sign) {
            return sign >= '0' && sign <= '9';
        }

        private int numberOnTape(Tape tape) {
            int number = 0;
            for (int i = tokenStart; i < tokenEnd; i++) {
                number = 10 * number + tape.byteAt(i) - '0';
            }
            return number;
        }

        private int lineOf(Tape tape, int sort) {
            for (int line = LINES_FROM[sort]; line < LINES_FROM[sort + 1]; line++) {
                if (isOnTape(tape, wordOf(line))) {
                    return line;
                }
            }
            return NONE;
        }

        private boolean isOnTape(Tape tape, String word) {
            if (word.length() != tokenEnd - tokenStart) {
                return false;
            }
            for (int i = 0; i < word.length(); i++) {
                if (tape.byteAt(tokenStart + i) != word.charAt(i)) {
                    return false;
                }
            }
            return true;
        }

        private static String wordOf(int line) {
            switch (line) {
                case SIZE_LINE: return "size";
                case WIND_LINE: return "wind";
                case NETS_LINE: return "nets";
                case COAST_LINE: return "coast";
                case SHOAL_LINE: return "shoal";
                case BOAT_LINE: return "boat";
                case DEAF_LINE: return "deaf";
                case ROW_LINE + ROW_DEED: return "row";
                case ROW_LINE + CLAIM_DEED: return "claim";
                case ROW_LINE + ALL_DEED: return "all";
                case ROW_LINE + SPLIT_DEED: return "split";
                case ROW_LINE + NET_DEED: return "net";
                case ROW_LINE + WAIT_DEED: return "wait";
                case SAID_LINE: return "said";
                default: return "ahead";
            }
        }

        private void checkLine(int line, int start) {
            if (isOneTooMany(line)) {
                note(3, start);
            }
            for (int i = 0; i < NUMBERS_OF_LINE[line]; i++) {
                int entry = MOST_NUMBERS * line + i;
                if (numbers[i] < LEAST_NUMBER[entry] || numbers[i] > MOST_NUMBER[entry]) {
                    note(2, places[i]);
                }
            }
            boolean toAheadOfFrom = line == SAID_LINE && numbers[1] < numbers[0];
            boolean aheadOfItself = line == AHEAD_LINE && numbers[1] == numbers[0];
            if (toAheadOfFrom || aheadOfItself) {
                note(2, places[1]);
            }
        }

        private boolean isOneTooMany(int line) {
            switch (line) {
                case SHOAL_LINE: return sea.shoals >= TOLD_SHOALS;
                case BOAT_LINE: return sea.boats >= MOST_BOATS;
                case SAID_LINE: return dispute.sayings >= MOST_SAYINGS;
                case AHEAD_LINE: return dispute.aheads >= MOST_AHEADS;
                default: return line >= ROW_LINE && line <= WAIT_LINE && day.deeds >= MOST_DEEDS;
            }
        }

        private void takeLine(int line) {
            switch (line) {
                case SIZE_LINE:
                    sea.width = numbers[0];
                    sea.height = numbers[1];
                    break;
                case WIND_LINE:
                    sea.windSide = numbers[0];
                    sea.windStrength = numbers[1];
                    break;
                case NETS_LINE:
                    sea.nets = numbers[0];
                    break;
                case COAST_LINE:
                    System.arraycopy(numbers, 1, sea.laws, LAW_PARTS * numbers[0], LAW_PARTS);
                    break;
                case SHOAL_LINE:
                    sea.addShoal(numbers[0], numbers[1], numbers[2]);
                    break;
                case BOAT_LINE:
                    sea.addBoat(numbers[0], numbers[1], numbers[2]);
                    break;
                case DEAF_LINE:
                    sea.deaf |= 1 << numbers[0];
                    break;
                case SAID_LINE:
                    dispute.addSaying(numbers[0], numbers[1]);
                    break;
                case AHEAD_LINE:
                    dispute.addAhead(numbers[0], numbers[1]);
                    break;
                default:
                    day.addDeed(line - ROW_LINE, numbers, NUMBERS_OF_LINE[line]);
                    break;
            }
        }
    }

    /** The SHOALS of a DAY in a STATE. */
    private static final class Shoals {
        final int[] cell = new int[ALL_SHOALS];
        final int[] fish = new int[ALL_SHOALS];
        final int[] drift = new int[ALL_SHOALS];
        final int[] syllables = new int[ALL_SHOALS];
        /** The last hour in which the holder HOLDS it. */
        final int[] lastHour = new int[ALL_SHOALS];
        private final int[] holder = new int[ALL_SHOALS];
        int there;
        /** How many numbers were given, as they are not given again. */
        private int given;

        void begin(Sea sea) {
            given = 0;
            there = 0;
            for (int s = 0; s < sea.shoals; s++) {
                add(sea.shoalCell[s], sea.shoalFish[s], sea.shoalDrift[s]);
            }
        }

        private void add(int newCell, int newFish, int newDrift) {
            if (given < ALL_SHOALS) {
                cell[given] = newCell;
                fish[given] = newFish;
                drift[given] = newDrift;
                holder[given] = NONE;
                syllables[given] = 0;
                lastHour[given] = NONE;
                there |= 1 << given;
                given++;
            }
        }

        boolean isThere(int shoal) {
            return shoal >= 0 && shoal < ALL_SHOALS && (there >> shoal & 1) == 1;
        }

        int holderAt(int shoal, int hour) {
            return lastHour[shoal] >= hour ? holder[shoal] : NONE;
        }

        int heldBy(int boat, int hour) {
            int bits = 0;
            for (int s = 0; s < ALL_SHOALS; s++) {
                if (isThere(s) && holderAt(s, hour) == boat) {
                    bits |= 1 << s;
                }
            }
            return bits;
        }

        void hold(int shoal, int boat, int withSyllables, int upToHour) {
            holder[shoal] = boat;
            syllables[shoal] = withSyllables;
            lastHour[shoal] = upToHour;
        }

        boolean canSplit(int shoal) {
            return fish[shoal] >= 2 && given < ALL_SHOALS;
        }

        void halve(int shoal) {
            int half = fish[shoal] / 2;
            int back = drift[shoal] == NO_DRIFT ? NO_DRIFT : (drift[shoal] + 2) % SIDES;
            fish[shoal] -= half;
            add(cell[shoal], half, back);
        }

        void remove(int shoal) {
            there &= ~(1 << shoal);
        }

        void driftOn(Sea sea) {
            for (int s = 0; s < ALL_SHOALS; s++) {
                if (isThere(s)) {
                    cell[s] = sea.drifted(cell[s], drift[s]);
                }
            }
        }

        int fishThere() {
            int all = 0;
            for (int s = 0; s < ALL_SHOALS; s++) {
                all += isThere(s) ? fish[s] : 0;
            }
            return all;
        }
    }

    /** A DAY on a SEA, DEED by DEED. */
    private static final class Run {
        Sea sea;
        Day day;
        final Shoals shoals = new Shoals();
        final int[] boatCell = new int[MOST_BOATS];
        final int[] boatFish = new int[MOST_BOATS];
        final int[] boatLawful = new int[MOST_BOATS];
        /** How many DEEDS are done, which is the hour too. */
        int hour;
        int namedTwice;

        /** Records of the latest DEED alone. */
        int heard;
        int claimedNow;
        int netterFish;
        int netHolder;
        int holderFish;

        private int seed;
        private int gullsBelow;
        private final int[] coastFish = new int[COASTS];

        void begin(Sea ofSea, Day ofDay, int ofSeed, int ofGulls) {
            sea = ofSea;
            day = ofDay;
            shoals.begin(ofSea);
            for (int b = 0; b < MOST_BOATS; b++) {
                boatCell[b] = ofSea.boatCell[b];
                boatFish[b] = 0;
                boatLawful[b] = 0;
            }
            hour = 0;
            namedTwice = 0;
            seed = ofSeed;
            gullsBelow = ofGulls;
        }

        /** Up to so many DEEDS in all, or up to STOP. */
        void go(int deeds) {
            int most = Math.min(deeds, day.deeds);
            boolean canBe = true;
            while (canBe && hour < most) {
                canBe = doDeed();
                if (canBe) {
                    shoals.driftOn(sea);
                    hour++;
                }
            }
        }

        private boolean doDeed() {
            int kind = day.kinds[hour];
            if (kind == WAIT_DEED) {
                return true;
            }
            int boat = day.numberOf(hour, 0);
            int second = day.numberOf(hour, 1);
            if (!sea.hasBoat(boat)) {
                return false;
            }
            if (kind == ROW_DEED) {
                return rowBoat(boat, second);
            }
            if (kind == ALL_DEED) {
                claimShoals(boat, shoals.there, second);
                return true;
            }
            if (!shoals.isThere(second)) {
                return false;
            }
            if (kind == CLAIM_DEED) {
                claimShoals(boat, 1 << second, day.numberOf(hour, 2));
                return true;
            }
            return kind == SPLIT_DEED ? splitShoal(boat, second) : netShoal(boat, second);
        }

        private boolean rowBoat(int boat, int side) {
            int next = sea.beside(boatCell[boat], side);
            if (next == NONE) {
                return false;
            }
            boatCell[boat] = next;
            return true;
        }

        private void claimShoals(int boat, int bits, int syllables) {
            heard = sea.hearers(boat, boatCell[boat], sea.boatVoice[boat], boatCell);
            claimedNow = 0;
            boolean enough = syllables >= sea.lawOf(boat, SYLLABLES);
            for (int s = 0; s < ALL_SHOALS; s++) {
                if ((bits >> s & 1) == 0) {
                    continue;
                }
                int lacks = lacking(boat, s, heardDespiteGulls());
                if (enough && lacks == 0) {
                    shoals.hold(s, boat, syllables, hour + sea.lawOf(boat, HOLD));
                    boatLawful[boat]++;
                    claimedNow |= 1 << s;
                }
                if (enough && lacks == LACKS_FREEDOM) {
                    namedTwice |= 1 << s;
                }
            }
        }

        int hearersNow(int boat) {
            return sea.hearers(boat, boatCell[boat], sea.boatVoice[boat], boatCell);
        }

        /** Without gulls nothing is drawn, as no answer shows what would have been. */
        private int heardDespiteGulls() {
            if (gullsBelow < 1) {
                return heard;
            }
            int still = heard;
            for (int b = 0; b < MOST_BOATS; b++) {
                if ((heard >> b & 1) == 1 && drawBelow(GULL_NUMBERS) < gullsBelow) {
                    still &= ~(1 << b);
                }
            }
            return still;
        }

        private int drawBelow(int n) {
            seed = seed * 1103515245 + 12345;
            return n < 1 ? 0 : (seed >>> 16) % n;
        }

        /** What a claim with SYLLABLES enough lacks to be LAWFUL, before such witnesses (bits). */
        int lacking(int boat, int shoal, int witnesses) {
            int bits = 0;
            int holder = shoals.holderAt(shoal, hour);
            if (holder != NONE && holder != boat) {
                bits |= LACKS_FREEDOM;
            }
            if (Integer.bitCount(witnesses) < sea.lawOf(boat, WITNESSES)) {
                bits |= LACKS_WITNESSES;
            }
            if (sea.cost(boatCell[boat], shoals.cell[shoal]) > sea.lawOf(boat, NEAR)) {
                bits |= LACKS_NEARNESS;
            }
            return bits;
        }

        int claimable(int boat) {
            int witnesses = hearersNow(boat);
            int bits = 0;
            for (int s = 0; s < ALL_SHOALS; s++) {
                if (shoals.isThere(s) && lacking(boat, s, witnesses) == 0) {
                    bits |= 1 << s;
                }
            }
            return bits;
        }

        private boolean splitShoal(int boat, int shoal) {
            if (shoals.holderAt(shoal, hour) != boat || !shoals.canSplit(shoal)) {
                return false;
            }
            shoals.halve(shoal);
            return true;
        }

        private boolean netShoal(int boat, int shoal) {
            if (shoals.cell[shoal] != boatCell[boat]) {
                return false;
            }
            int fish = shoals.fish[shoal];
            netHolder = shoals.holderAt(shoal, hour);
            int toAnother = fishOfAnother(boat, shoal);
            netterFish = fish - toAnother;
            holderFish = netHolder == boat ? netterFish : toAnother;
            boatFish[boat] += netterFish;
            if (netHolder != NONE && netHolder != boat) {
                boatFish[netHolder] += toAnother;
            }
            shoals.remove(shoal);
            return true;
        }

        /** What the netter leaves to another BOAT that HOLDS the SHOAL; nothing if it or nobody HOLDS it. */
        private int fishOfAnother(int netter, int shoal) {
            if (netHolder == NONE || netHolder == netter) {
                return 0;
            }
            int syllables = shoals.syllables[shoal];
            int parts = syllables + sea.nets;
            return parts < 1 ? 0 : shoals.fish[shoal] * syllables / parts;
        }

        int lawfulClaims() {
            int all = 0;
            for (int b = 0; b < sea.boats; b++) {
                all += boatLawful[b];
            }
            return all;
        }

        int luck() {
            int richest = richestBoat();
            if (richest == NONE) {
                return 0;
            }
            int leastFish = boatFish[richest];
            for (int b = 0; b < sea.boats; b++) {
                leastFish = Math.min(leastFish, boatFish[b]);
            }
            return boatFish[richest] - leastFish;
        }

        int richestBoat() {
            int best = NONE;
            for (int b = 0; b < sea.boats; b++) {
                if (best == NONE || boatFish[b] > boatFish[best]) {
                    best = b;
                }
            }
            return best;
        }

        int richestCoast() {
            Arrays.fill(coastFish, 0);
            for (int b = 0; b < sea.boats; b++) {
                coastFish[sea.boatCoast[b]] += boatFish[b];
            }
            int best = 0;
            for (int c = 1; c < COASTS; c++) {
                if (coastFish[c] > coastFish[best]) {
                    best = c;
                }
            }
            return best;
        }
    }

    /** How words go among the BOATS of a SEA at hour 0. */
    private static final class Words {
        int bestStrength;
        int bestSide;
        int bestCouples;
        /** The SEA with another WIND. */
        private final Sea trial = new Sea();

        /** BOATS (bits) that HEAR one of those (bits). */
        private static int heardFromAny(Sea sea, int bits) {
            int heard = 0;
            for (int b = 0; b < sea.boats; b++) {
                if ((bits >> b & 1) == 1) {
                    heard |= sea.hearersAsTold(b);
                }
            }
            return heard;
        }

        /** WORD: how many pass it on at least, NONE if it never gets there. */
        int passers(Sea sea, int from, int to) {
            int reached = 1 << from;
            int newest = reached;
            for (int passed = 0; passed < MOST_BOATS; passed++) {
                newest = heardFromAny(sea, newest) & ~reached;
                if ((newest >> to & 1) == 1) {
                    return passed;
                }
                reached |= newest;
            }
            return NONE;
        }

        int reachedOthers(Sea sea, int from) {
            int reached = 1 << from;
            for (int passed = 0; passed < MOST_BOATS; passed++) {
                reached |= heardFromAny(sea, reached);
            }
            return Integer.bitCount(reached) - 1;
        }

        int loudest(Sea sea) {
            int best = NONE;
            int most = NONE;
            for (int b = 0; b < sea.boats; b++) {
                int hearers = Integer.bitCount(sea.hearersAsTold(b));
                if (hearers > most) {
                    most = hearers;
                    best = b;
                }
            }
            return best;
        }

        int leastVoice(Sea sea, int boat, int shoal) {
            int cell = sea.boatCell[boat];
            if ((sea.nearShoals(boat, cell) >> shoal & 1) == 0) {
                return NONE;
            }
            for (int voice = 0; voice <= LOUDEST_VOICE; voice++) {
                int witnesses = Integer.bitCount(sea.hearers(boat, cell, voice, sea.boatCell));
                if (witnesses >= sea.lawOf(boat, WITNESSES)) {
                    return voice;
                }
            }
            return NONE;
        }

        void findWind(Sea sea) {
            trial.copyFrom(sea);
            bestCouples = NONE;
            for (int strength = 0; strength <= STRONGEST_WIND; strength++) {
                int sides = strength == 0 ? 1 : SIDES;
                for (int side = 0; side < sides; side++) {
                    trial.windStrength = strength;
                    trial.windSide = side;
                    int couples = countCouples(trial);
                    if (couples > bestCouples) {
                        bestCouples = couples;
                        bestStrength = strength;
                        bestSide = side;
                    }
                }
            }
        }

        private static int countCouples(Sea sea) {
            int couples = 0;
            for (int b = 0; b < sea.boats; b++) {
                couples += Integer.bitCount(sea.hearersAsTold(b));
            }
            return couples;
        }
    }

    /** Where a BOAT, or two, had best be, and how soon one can claim. */
    private static final class Choices {
        int bestFirst;
        int bestSecond;
        int bestFish;

        /** Of each CELL (the second BOAT's behind the first one's): SHOALS (bits) near, witnesses but for the other BOAT. */
        private final int[] near = new int[2 * MOST_CELLS];
        private final int[] witnesses = new int[2 * MOST_CELLS];
        /** FISH of SHOALS (bits) together. */
        private final int[] fishTogether = new int[1 << TOLD_SHOALS];
        /** CELLS (bits) from which the claim is LAWFUL in the hour found. */
        private long goals;

        private void addFishTogether(Sea sea) {
            for (int bits = 0; bits < fishTogether.length; bits++) {
                int all = 0;
                for (int s = 0; s < sea.shoals; s++) {
                    all += (bits >> s & 1) * sea.shoalFish[s];
                }
                fishTogether[bits] = all;
            }
        }

        /** Looks from all CELLS with a BOAT's voice and law, leaving out another BOAT (or NONE) as witness. */
        private void lookFromCells(Sea sea, int boat, int leftOut, int offset) {
            int others = leftOut == NONE ? -1 : ~(1 << leftOut);
            int voice = sea.boatVoice[boat];
            for (int cell = 0; cell < sea.cells(); cell++) {
                near[offset + cell] = sea.nearShoals(boat, cell);
                int heard = sea.hearers(boat, cell, voice, sea.boatCell);
                witnesses[offset + cell] = Integer.bitCount(heard & others);
            }
        }

        void findBerth(Sea sea, int boat) {
            addFishTogether(sea);
            lookFromCells(sea, boat, NONE, 0);
            int needed = sea.lawOf(boat, WITNESSES);
            bestFish = NONE;
            for (int cell = 0; cell < sea.cells(); cell++) {
                int fish = witnesses[cell] >= needed ? fishTogether[near[cell]] : 0;
                if (fish > bestFish) {
                    bestFish = fish;
                    bestFirst = cell;
                }
            }
        }

        void findPair(Sea sea, int a, int b) {
            addFishTogether(sea);
            lookFromCells(sea, a, b, 0);
            lookFromCells(sea, b, a, MOST_CELLS);
            bestFish = NONE;
            for (int first = 0; first < sea.cells(); first++) {
                for (int second = 0; second < sea.cells(); second++) {
                    int ofA = claimableBeside(sea, a, b, first, second, 0);
                    int ofB = claimableBeside(sea, b, a, second, first, MOST_CELLS);
                    int fish = fishTogether[ofA | ofB];
                    if (fish > bestFish) {
                        bestFish = fish;
                        bestFirst = first;
                        bestSecond = second;
                    }
                }
            }
        }

        /** SHOALS (bits) a BOAT could claim from a CELL, the other BOAT being in its own. */
        private int claimableBeside(Sea sea, int boat, int other, int cell, int otherCell, int offset) {
            int heard = witnesses[offset + cell];
            boolean otherHears = (sea.deaf >> other & 1) == 0
                && sea.cost(cell, otherCell) <= sea.boatVoice[boat];
            if (otherHears) {
                heard++;
            }
            return heard >= sea.lawOf(boat, WITNESSES) ? near[offset + cell] : 0;
        }

        /** SOON: as nothing is in the way, a CELL is within reach if it is not too many rows away. */
        int fewestHours(Sea sea, int boat, int shoal) {
            lookFromCells(sea, boat, NONE, 0);
            int shoalCell = sea.shoalCell[shoal];
            for (int hour = 0; hour <= SOON_HOURS; hour++) {
                findGoals(sea, boat, shoalCell);
                if (isWithin(sea, sea.boatCell[boat], hour)) {
                    return hour;
                }
                shoalCell = sea.drifted(shoalCell, sea.shoalDrift[shoal]);
            }
            return NONE;
        }

        private void findGoals(Sea sea, int boat, int shoalCell) {
            goals = 0;
            for (int cell = 0; cell < sea.cells(); cell++) {
                boolean heard = witnesses[cell] >= sea.lawOf(boat, WITNESSES);
                if (heard && sea.cost(cell, shoalCell) <= sea.lawOf(boat, NEAR)) {
                    goals |= 1L << cell;
                }
            }
        }

        private boolean isWithin(Sea sea, int from, int rows) {
            for (int cell = 0; cell < sea.cells(); cell++) {
                if ((goals >> cell & 1) == 1 && sea.rowsBetween(from, cell) <= rows) {
                    return true;
                }
            }
            return false;
        }

        /** What the first way by rows does in an hour; to be asked behind fewestHours, whose goals it goes to. */
        int doneInHour(Sea sea, int boat, int asked, int needed) {
            int cell = sea.boatCell[boat];
            int done = WAITS;
            for (int hour = 0; hour <= asked; hour++) {
                done = firstRowTowards(sea, cell, needed - hour - 1);
                cell = sea.drifted(cell, done);
            }
            return done;
        }

        private int firstRowTowards(Sea sea, int cell, int hoursLeft) {
            for (int side = 0; side < SIDES; side++) {
                int next = sea.beside(cell, side);
                if (next != NONE && isWithin(sea, next, hoursLeft)) {
                    return side;
                }
            }
            return WAITS;
        }
    }

    /** ORDERS and HOURS of a DISPUTE. */
    private static final class Orders {
        final int[] earliest = new int[MOST_SAYINGS];
        final int[] latest = new int[MOST_SAYINGS];
        /** Of each SAYING those (bits) that an AHEAD puts ahead of it. */
        private final int[] before = new int[MOST_SAYINGS];
        private final int[] firstOrder = new int[MOST_SAYINGS];
        /** Of each set of SAYINGS (bits) as the earlier ones: how many orders, or the least cost. */
        private final int[] ofSet = new int[1 << MOST_SAYINGS];
        private final int[] costOfCouple = new int[MOST_SAYINGS * MOST_SAYINGS];

        private void findBefore(Dispute dispute) {
            Arrays.fill(before, 0);
            for (int k = 0; k < dispute.aheads; k++) {
                before[dispute.second[k]] |= 1 << dispute.first[k];
            }
        }

        /** Whether there is an ORDER; the least SAYING that can be next makes the first one by rows. */
        private boolean findFirstOrder(Dispute dispute) {
            findBefore(dispute);
            int placed = 0;
            for (int i = 0; i < dispute.sayings; i++) {
                int next = NONE;
                for (int s = 0; s < dispute.sayings && next == NONE; s++) {
                    if ((placed >> s & 1) == 0 && (before[s] & ~placed) == 0) {
                        next = s;
                    }
                }
                if (next == NONE) {
                    return false;
                }
                firstOrder[i] = next;
                placed |= 1 << next;
            }
            return true;
        }

        int inFirstOrder(Dispute dispute, int i) {
            return findFirstOrder(dispute) ? firstOrder[i] : NONE;
        }

        int howMany(Dispute dispute) {
            findBefore(dispute);
            int all = (1 << dispute.sayings) - 1;
            Arrays.fill(ofSet, 0);
            ofSet[0] = 1;
            for (int set = 0; set < all; set++) {
                for (int s = 0; s < dispute.sayings; s++) {
                    boolean canBeNext = (set >> s & 1) == 0 && (before[s] & ~set) == 0;
                    if (canBeNext) {
                        ofSet[set | 1 << s] += ofSet[set];
                    }
                }
            }
            return ofSet[all];
        }

        /** SURE are those that a chain of AHEADS puts ahead, and no others. */
        int sureCouples(Dispute dispute) {
            if (!findFirstOrder(dispute)) {
                return NONE;
            }
            int couples = 0;
            for (int i = 0; i < dispute.sayings; i++) {
                int saying = firstOrder[i];
                for (int j = 0; j < i; j++) {
                    if ((before[saying] >> firstOrder[j] & 1) == 1) {
                        before[saying] |= before[firstOrder[j]];
                    }
                }
                couples += Integer.bitCount(before[saying]);
            }
            return couples;
        }

        /** FIT; then the earliest and latest hour of each SAYING are found. */
        boolean findHours(Dispute dispute) {
            if (!findFirstOrder(dispute)) {
                return false;
            }
            int n = dispute.sayings;
            boolean fit = true;
            for (int i = 0; i < n; i++) {
                int saying = firstOrder[i];
                int hour = dispute.from[saying];
                for (int j = 0; j < i; j++) {
                    if ((before[saying] >> firstOrder[j] & 1) == 1) {
                        hour = Math.max(hour, earliest[firstOrder[j]] + 1);
                    }
                }
                earliest[saying] = hour;
                fit = fit && hour <= dispute.to[saying];
            }
            for (int i = n - 1; i >= 0; i--) {
                int saying = firstOrder[i];
                int hour = dispute.to[saying];
                for (int j = i + 1; j < n; j++) {
                    if ((before[firstOrder[j]] >> saying & 1) == 1) {
                        hour = Math.min(hour, latest[firstOrder[j]] - 1);
                    }
                }
                latest[saying] = hour;
            }
            return fit;
        }

        /** FIRST may be one with nothing ahead of it, if all others can be as late as its least hour. */
        int maybeFirst(Dispute dispute) {
            if (!findHours(dispute)) {
                return NONE;
            }
            int soonestLatest = latest[0];
            for (int s = 1; s < dispute.sayings; s++) {
                soonestLatest = Math.min(soonestLatest, latest[s]);
            }
            int bits = 0;
            for (int s = 0; s < dispute.sayings; s++) {
                if (before[s] == 0 && earliest[s] <= soonestLatest) {
                    bits |= 1 << s;
                }
            }
            return bits;
        }

        /**
         * FEWEST. An order costs the AHEADS that it breaks: each 1 in the high half, its bit in the low half, so that
         * the least cost is the fewest of them and, of several, the least number.
         */
        int fewestWithout(Dispute dispute) {
            Arrays.fill(costOfCouple, 0);
            for (int k = 0; k < dispute.aheads; k++) {
                costOfCouple[MOST_SAYINGS * dispute.first[k] + dispute.second[k]] += (1 << MOST_AHEADS) + (1 << k);
            }
            int all = (1 << dispute.sayings) - 1;
            Arrays.fill(ofSet, Integer.MAX_VALUE);
            ofSet[0] = 0;
            for (int set = 0; set < all; set++) {
                for (int s = 0; s < dispute.sayings; s++) {
                    if ((set >> s & 1) == 0) {
                        int larger = set | 1 << s;
                        ofSet[larger] = Math.min(ofSet[larger], ofSet[set] + costBehind(s, set));
                    }
                }
            }
            return ofSet[all] & (1 << MOST_AHEADS) - 1;
        }

        /** What it costs that a SAYING comes behind all of a set. */
        private int costBehind(int saying, int set) {
            int cost = 0;
            for (int s = 0; s < MOST_SAYINGS; s++) {
                if ((set >> s & 1) == 1) {
                    cost += costOfCouple[MOST_SAYINGS * saying + s];
                }
            }
            return cost;
        }
    }
}
