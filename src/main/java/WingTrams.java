import java.util.NoSuchElementException;

/** Owls as night trams over a city of roofs; README.md tells how to use it. */
public final class WingTrams {
    public static final int NONE = -1;

    private static final int TAPE = 700;
    private static final int ROOFS = 10;
    private static final int FLIGHTS = 18;
    private static final int OWLS = 5;
    private static final int WAY = 8;
    private static final int RIDERS = 8;
    private static final int HUNTS = 4;
    private static final int ACTS = 40;
    private static final int SIGHTINGS = 8;
    private static final int LATEST_DAWN = 600;
    private static final int LATEST_SIGHT = 600;
    private static final int LATEST_START = 300;
    private static final int MOST_GRAIN = 9;
    private static final int MOONS = 8;
    private static final int PRICES = 9;
    private static final int MOST_LURED = 3;
    private static final int MOST_LATE = 60;
    private static final int BARN_OWL = 1;
    private static final int NEVER = 2147483647;

    // What a token is: a sign is its own byte, words lie above all bytes of signs.
    private static final int END = 0;
    private static final int NUMBER = 1;
    private static final int NO_TOKEN = 2;
    private static final String SIGNS = ";()+-*/<=";
    private static final int WORD = 128;
    private static final String WORDS =
        "roof flight tawny barn white rider dawn hunts or and not mice grain kind stop moon wet hour";
    private static final int ROOF_WORD = 129;
    private static final int FLIGHT_WORD = 130;
    private static final int TAWNY_WORD = 131;
    private static final int BARN_WORD = 132;
    private static final int WHITE_WORD = 133;
    private static final int RIDER_WORD = 134;
    private static final int DAWN_WORD = 135;
    private static final int HUNTS_WORD = 136;
    private static final int OR_WORD = 137;
    private static final int AND_WORD = 138;
    private static final int NOT_WORD = 139;
    private static final int FIRST_VALUE = 140;
    private static final int LAST_VALUE = 146;
    private static final int VALUES = 7;
    private static final int MOST_DIGITS = 4;
    private static final int LARGEST_NUMBER = 9999;
    private static final int DEEPEST = 6;
    private static final int MOST_NOTS = 6;

    private static final int CANNOT_STAND = 1;
    private static final int TOO_MUCH = 2;
    private static final int NOT_TOLD = 3;
    private static final int NO_NEW_FLIGHT = 4;
    private static final int SECOND_DAWN = 5;
    private static final int NO_FLIGHT = 6;

    private static final int OBEY_ACT = 0;
    private static final int MOON_ACT = 1;
    private static final int WET_ACT = 2;
    private static final int NEST_ACT = 3;
    private static final int GRAIN_ACT = 4;
    private static final int START_ACT = 5;

    private static final int TEXT_REFUSED = 0;
    private static final int ACT_REFUSED = 1;
    private static final int SIGHT_REFUSED = 2;

    private final Row tape;
    private int tapeLength;
    private int faultPlace;
    private final Row refused;
    private final City city;
    private final City draft;
    private final Tokens tokens;
    private final Reader reader;
    private final State now;
    private final State picture;
    private boolean hasPicture;
    private final Sky trial;
    private final Night night;
    private final Rides rides;
    private final Beams lights;
    private final Row lured;
    private final Row luring;
    private boolean hasLured;
    private final Row seenBy;

    public WingTrams() {
        tape = new Row(TAPE);
        faultPlace = NONE;
        refused = new Row(3);
        city = new City();
        draft = new City();
        tokens = new Tokens();
        reader = new Reader(tokens, draft);
        now = new State();
        picture = new State();
        trial = new Sky();
        night = new Night(city);
        rides = new Rides(city, night);
        lights = new Beams(city);
        lured = new Row(ROOFS);
        luring = new Row(ROOFS);
        seenBy = new Row(ROOFS);
    }

    // ---- telling a city

    public int feed(int a, int b, int c, int d, int e) {
        if (tapeLength + 20 > TAPE) {
            return NONE;
        }
        putBytes(a);
        putBytes(b);
        putBytes(c);
        putBytes(d);
        putBytes(e);
        return tapeLength;
    }

    private void putBytes(int number) {
        for (int shift = 24; shift >= 0; shift -= 8) {
            tape.put(tapeLength, (number >>> shift) & 255);
            tapeLength++;
        }
    }

    public int city(int n) throws IllegalArgumentException {
        if (n < 0 || n > tapeLength) {
            throw new IllegalArgumentException("the tape has not so many bytes");
        }
        tokens.cut(tape, n);
        tapeLength = 0;
        int fault = reader.readCity();
        faultPlace = reader.place;
        if (fault != 0) {
            refuse(TEXT_REFUSED);
            return fault;
        }
        city.copy(draft);
        now.begin(city);
        hasPicture = false;
        hasLured = false;
        return 0;
    }

    public int fault() {
        return faultPlace;
    }

    // ---- what there is

    public int count(int what) throws NoSuchElementException {
        switch (what) {
            case 0: return city.roofs;
            case 1: return city.flights;
            case 2: return city.owls;
            case 3: return city.riders;
            case 4: return city.rules.count;
            case 5: return now.sky.rule;
            case 6: return city.dawn;
            case 7: return now.sky.moon;
            case 8: return now.sky.wet ? 1 : 0;
            case 9: return now.sky.nests;
            case 10: return homes(now.sky);
            case 11: return now.acts.count;
            case 12: return now.seen.count;
            case 13: return tapeLength;
            case 14: return refused.at(TEXT_REFUSED);
            case 15: return refused.at(ACT_REFUSED);
            case 16: return refused.at(SIGHT_REFUSED);
            default: throw new NoSuchElementException("no such count");
        }
    }

    public int roof(int roof, int what) throws NoSuchElementException {
        needRoof(roof);
        switch (what) {
            case 0: return now.sky.grain.at(roof);
            case 1: return 2 * now.sky.grain.at(roof);
            case 2:
                night.pass(now.sky);
                return night.mice.at(roof);
            case 3: return city.ridersOf(roof);
            case 4: return city.neighboursOf(roof);
            default: throw new NoSuchElementException("no such thing of a roof");
        }
    }

    public int flight(int roof, int other) throws NoSuchElementException {
        needRoof(roof);
        needRoof(other);
        return city.minutesBetween(roof, other);
    }

    public int owl(int owl, int what) throws NoSuchElementException {
        needOwl(owl);
        switch (what) {
            case 0: return city.kind.at(owl);
            case 1: return now.sky.start.at(owl);
            case 2: return city.length.at(owl);
            case 3:
                night.pass(now.sky);
                return night.caught.at(owl);
            case 4: return now.sky.nesting(owl) ? 1 : 0;
            case 5:
                night.pass(now.sky);
                return night.minutesTogether(owl);
            default: throw new NoSuchElementException("no such thing of an owl");
        }
    }

    public int stop(int owl, int i, int what) throws NoSuchElementException {
        needOwl(owl);
        if (i < 0 || i >= city.length.at(owl) || what < 0 || what > 2) {
            throw new NoSuchElementException("no such stop, or thing of a stop");
        }
        if (what == 0) {
            return city.way.at(owl * WAY + i);
        }
        if (now.sky.nesting(owl)) {
            return NONE;
        }
        night.pass(now.sky);
        return what == 1 ? night.comes.at(owl * WAY + i) : night.leaves.at(owl * WAY + i);
    }

    public int rider(int rider, int what) throws NoSuchElementException {
        needRider(rider);
        switch (what) {
            case 0: return city.from.at(rider);
            case 1: return city.home.at(rider);
            case 2: return city.since.at(rider);
            case 3: return city.fur.at(rider);
            default: throw new NoSuchElementException("no such thing of a rider");
        }
    }

    public int where(int owl, int minute) throws NoSuchElementException {
        needOwl(owl);
        night.pass(now.sky);
        return night.roofOf(owl, minute);
    }

    private void needRoof(int roof) {
        if (roof < 0 || roof >= city.roofs) {
            throw new NoSuchElementException("no such roof");
        }
    }

    private void needOwl(int owl) {
        if (owl < 0 || owl >= city.owls) {
            throw new NoSuchElementException("no such owl");
        }
    }

    private void needRider(int rider) {
        if (rider < 0 || rider >= city.riders) {
            throw new NoSuchElementException("no such rider");
        }
    }

    private int refuse(int status) {
        refused.put(status, refused.at(status) + 1);
        return NONE;
    }

    // ---- acts

    public boolean obey(int rule) {
        if (rule < NONE || rule >= city.rules.count) {
            refuse(ACT_REFUSED);
            return false;
        }
        now.acts.add(OBEY_ACT, 0, now.sky.rule);
        now.sky.rule = rule;
        return true;
    }

    public int moon(int moon) {
        if (moon < 0 || moon >= MOONS) {
            return refuse(ACT_REFUSED);
        }
        int before = now.sky.moon;
        now.acts.add(MOON_ACT, 0, before);
        now.sky.moon = moon;
        return before;
    }

    public boolean wet(boolean wet) {
        boolean before = now.sky.wet;
        now.acts.add(WET_ACT, 0, before ? 1 : 0);
        now.sky.wet = wet;
        return before;
    }

    public boolean nest(int owl, boolean nests) throws NoSuchElementException {
        needOwl(owl);
        if (now.sky.nesting(owl) == nests) {
            refuse(ACT_REFUSED);
            return false;
        }
        now.acts.add(NEST_ACT, 0, now.sky.nests);
        now.sky.nests ^= 1 << owl;
        return true;
    }

    public int grain(int roof, int grain) throws NoSuchElementException {
        needRoof(roof);
        if (grain < 0 || grain > MOST_GRAIN) {
            return refuse(ACT_REFUSED);
        }
        int before = now.sky.grain.at(roof);
        now.acts.add(GRAIN_ACT, roof, before);
        now.sky.grain.put(roof, grain);
        return before;
    }

    public int start(int owl, int minute) throws NoSuchElementException {
        needOwl(owl);
        if (minute < 0 || minute > LATEST_START) {
            return refuse(ACT_REFUSED);
        }
        int before = now.sky.start.at(owl);
        now.acts.add(START_ACT, owl, before);
        now.sky.start.put(owl, minute);
        return before;
    }

    public int undo() {
        return now.takeBack();
    }

    // ---- riders

    public int home(int rider) throws NoSuchElementException {
        needRider(rider);
        night.pass(now.sky);
        return rides.minuteHome(rider);
    }

    public int changes(int rider) throws NoSuchElementException {
        needRider(rider);
        night.pass(now.sky);
        int owls = rides.fewest(rider, false);
        return owls > 0 ? owls - 1 : owls;
    }

    public int cheapest(int rider) throws NoSuchElementException {
        needRider(rider);
        night.pass(now.sky);
        return rides.fewest(rider, true);
    }

    public int last(int rider) throws NoSuchElementException {
        needRider(rider);
        night.pass(now.sky);
        return rides.lastOwl(rider);
    }

    public int never() {
        int bits = 0;
        night.pass(now.sky);
        for (int rider = 0; rider < city.riders; rider++) {
            if (rides.minuteHome(rider) == NONE) {
                bits |= 1 << rider;
            }
        }
        return bits;
    }

    public int reach(int rider, int minute) throws NoSuchElementException {
        needRider(rider);
        night.pass(now.sky);
        return rides.roofsBy(rider, minute);
    }

    private int homes(Sky sky) {
        night.pass(sky);
        return rides.countHome();
    }

    // ---- grain that lures

    public int lure(int riders, int minute) throws IllegalArgumentException {
        if (riders < 0 || (riders >>> city.riders) != 0 || minute < 0) {
            throw new IllegalArgumentException("riders that there aren't, or a minute below 0");
        }
        int grains = fewestGrains(riders, Math.min(minute, city.dawn));
        if (grains != NONE) {
            lured.copy(luring);
            hasLured = true;
        }
        return grains;
    }

    public int more(int roof) throws NoSuchElementException {
        needRoof(roof);
        if (!hasLured) {
            throw new NoSuchElementException("no row is kept");
        }
        return lured.at(roof);
    }

    private int fewestGrains(int riders, int minute) {
        luring.fill(0);
        if (luresHome(riders, minute)) {
            return 0;
        }
        for (int grains = 1; grains <= MOST_LURED && city.roofs > 0; grains++) {
            luring.fill(0);
            luring.put(city.roofs - 1, grains);
            // There are at most 220 rows of three grains on ten roofs.
            for (int rows = 0; rows < 1000; rows++) {
                if (luresHome(riders, minute)) {
                    return grains;
                }
                if (!nextRow()) {
                    break;
                }
            }
        }
        return NONE;
    }

    /** The row that comes next among those of as many grains; false behind the last one. */
    private boolean nextRow() {
        for (int roof = city.roofs - 1; roof > 0; roof--) {
            int here = luring.at(roof);
            if (here > 0) {
                luring.put(roof, 0);
                luring.put(roof - 1, luring.at(roof - 1) + 1);
                luring.put(city.roofs - 1, here - 1);
                return true;
            }
        }
        return false;
    }

    private boolean luresHome(int riders, int minute) {
        trial.copy(now.sky);
        for (int roof = 0; roof < city.roofs; roof++) {
            int grain = trial.grain.at(roof) + luring.at(roof);
            if (luring.at(roof) > 0 && grain > MOST_GRAIN) {
                return false;
            }
            trial.grain.put(roof, grain);
        }
        night.pass(trial);
        return rides.allHomeBy(riders, minute);
    }

    // ---- beams, straps, worth

    public int beams(int many, int minutes, int what)
            throws NoSuchElementException, IllegalArgumentException {
        if (what < 0 || what > 1) {
            throw new NoSuchElementException("no such thing of beams");
        }
        if (many < 0 || many > ROOFS || minutes < 0 || minutes > 200) {
            throw new IllegalArgumentException("not so many beams, or minutes");
        }
        lights.choose(many, minutes);
        return what == 0 ? lights.most : lights.set;
    }

    public int straps(int many) throws IllegalArgumentException {
        if (many < 1 || many > RIDERS) {
            throw new IllegalArgumentException("not 1 to 8 straps");
        }
        night.pass(now.sky);
        return rides.countStrapped(many);
    }

    public int worth(int owl) throws NoSuchElementException {
        needOwl(owl);
        return worthOf(owl);
    }

    public int vital() {
        int bits = 0;
        for (int owl = 0; owl < city.owls; owl++) {
            if (worthOf(owl) > 0) {
                bits |= 1 << owl;
            }
        }
        return bits;
    }

    private int worthOf(int owl) {
        trial.copy(now.sky);
        trial.nests |= 1 << owl;
        return homes(now.sky) - homes(trial);
    }

    // ---- prints in the snow

    public int see(int owl, int minute, int roof) throws NoSuchElementException {
        needOwl(owl);
        if (now.seen.count >= SIGHTINGS || roof < NONE || roof >= city.roofs
                || minute < 0 || minute > LATEST_SIGHT) {
            return refuse(SIGHT_REFUSED);
        }
        now.seen.add(owl, minute, roof);
        return now.seen.count;
    }

    public void forget() {
        now.seen.count = 0;
    }

    public int fits() {
        return fitting();
    }

    public int watch(int minute) {
        int fitting = fitting();
        int best = NONE;
        int least = NEVER;
        seenBy.fill(0);
        for (int bit = 0; bit <= HUNTS; bit++) {
            if (((fitting >> bit) & 1) == 1) {
                passBy(bit);
                countSeen(minute);
            }
        }
        for (int roof = 0; roof < city.roofs; roof++) {
            int off = Math.abs(2 * seenBy.at(roof) - Integer.bitCount(fitting));
            if (off < least) {
                least = off;
                best = roof;
            }
        }
        return best;
    }

    private int fitting() {
        int bits = 0;
        for (int bit = 0; bit <= HUNTS; bit++) {
            if (bit < city.rules.count || bit == HUNTS) {
                passBy(bit);
                if (allSeenIsSo()) {
                    bits |= 1 << bit;
                }
            }
        }
        return bits;
    }

    private void passBy(int bit) {
        trial.copy(now.sky);
        trial.rule = bit == HUNTS ? NONE : bit;
        night.pass(trial);
    }

    private boolean allSeenIsSo() {
        for (int i = 0; i < now.seen.count; i++) {
            if (night.roofOf(now.seen.first.at(i), now.seen.second.at(i)) != now.seen.third.at(i)) {
                return false;
            }
        }
        return true;
    }

    private void countSeen(int minute) {
        int bits = 0;
        for (int owl = 0; owl < city.owls; owl++) {
            int roof = night.roofOf(owl, minute);
            if (roof >= 0 && ((bits >> roof) & 1) == 0) {
                bits |= 1 << roof;
                seenBy.put(roof, seenBy.at(roof) + 1);
            }
        }
    }

    // ---- bats

    public int bats(int what) throws NoSuchElementException {
        if (what < 0 || what > 1) {
            throw new NoSuchElementException("no such thing of bats");
        }
        int couples = 0;
        int first = NONE;
        for (int owls = 1; owls <= PRICES; owls++) {
            for (int bats = 1; bats <= PRICES; bats++) {
                if (rests(owls, bats)) {
                    couples++;
                    first = first == NONE ? 10 * owls + bats : first;
                }
            }
        }
        return what == 0 ? couples : first;
    }

    private boolean rests(int owls, int bats) {
        for (int other = 1; other <= PRICES; other++) {
            if (owlsGain(other, bats) > owlsGain(owls, bats)
                    || batsGain(owls, other) > batsGain(owls, bats)) {
                return false;
            }
        }
        return true;
    }

    private int owlsGain(int owls, int bats) {
        return owls <= bats ? (owls - 1) * city.ridersWith(owls) : 0;
    }

    private int batsGain(int owls, int bats) {
        return bats < owls ? (bats - 1) * city.ridersWith(bats) : 0;
    }

    // ---- other nights

    public int years(int seed, int n, int what)
            throws NoSuchElementException, IllegalArgumentException {
        if (what < 0 || what > 2) {
            throw new NoSuchElementException("no such thing of years");
        }
        if (n < 0 || n > 60) {
            throw new IllegalArgumentException("not 0 to 60 nights");
        }
        int together = 0;
        int fewest = n == 0 ? 0 : RIDERS;
        int full = 0;
        int drawn = seed;
        trial.copy(now.sky);
        for (int i = 0; i < n; i++) {
            drawn = drawn * 1103515245 + 12345;
            trial.moon = (trial.moon + 1) % MOONS;
            trial.wet = ((drawn >>> 16) & 0x7fff) % 4 == 0;
            int homes = homes(trial);
            together += homes;
            fewest = Math.min(fewest, homes);
            full += homes == city.riders ? 1 : 0;
        }
        return what == 0 ? together : what == 1 ? fewest : full;
    }

    public int late(int owl) throws NoSuchElementException {
        needOwl(owl);
        int homes = homes(now.sky);
        for (int later = MOST_LATE; later > 0; later--) {
            trial.copy(now.sky);
            trial.start.put(owl, trial.start.at(owl) + later);
            if (homes(trial) >= homes) {
                return later;
            }
        }
        return 0;
    }

    public int best() {
        int best = NONE;
        int most = NONE;
        trial.copy(now.sky);
        for (int rule = NONE; rule < city.rules.count; rule++) {
            trial.rule = rule;
            int homes = homes(trial);
            if (homes > most) {
                most = homes;
                best = rule;
            }
        }
        return best;
    }

    public int bright() {
        int best = 0;
        int most = NONE;
        trial.copy(now.sky);
        for (int moon = 0; moon < MOONS; moon++) {
            trial.moon = moon;
            int homes = homes(trial);
            if (homes > most) {
                most = homes;
                best = moon;
            }
        }
        return best;
    }

    public int hunter() {
        int best = NONE;
        int most = NONE;
        night.pass(now.sky);
        for (int owl = 0; owl < city.owls; owl++) {
            if (night.caught.at(owl) > most) {
                most = night.caught.at(owl);
                best = owl;
            }
        }
        return best;
    }

    // ---- the image

    public void image() {
        picture.copy(now);
        hasPicture = true;
    }

    public boolean restore() {
        if (hasPicture) {
            now.copy(picture);
        }
        return hasPicture;
    }

    /** Numbers side by side: what lies outside reads as 0 and is never put. */
    private static final class Row {
        private final int[] cells;

        Row(int length) {
            cells = new int[length < 0 ? 0 : length];
        }

        int at(int i) {
            return i >= 0 && i < cells.length ? cells[i] : 0;
        }

        void put(int i, int value) {
            if (i >= 0 && i < cells.length) {
                cells[i] = value;
            }
        }

        void fill(int value) {
            for (int i = 0; i < cells.length; i++) {
                cells[i] = value;
            }
        }

        void copy(Row other) {
            for (int i = 0; i < cells.length && i < other.cells.length; i++) {
                cells[i] = other.cells[i];
            }
        }
    }

    /** The city as its text tells it. */
    private static final class City {
        int roofs;
        int flights;
        int owls;
        int riders;
        int dawn;
        final Row grain;
        final Row minutes;
        final Row kind;
        final Row start;
        final Row length;
        final Row way;
        final Row from;
        final Row home;
        final Row since;
        final Row fur;
        final Rules rules;

        City() {
            dawn = 360;
            grain = new Row(ROOFS);
            minutes = new Row(ROOFS * ROOFS);
            kind = new Row(OWLS);
            start = new Row(OWLS);
            length = new Row(OWLS);
            way = new Row(OWLS * WAY);
            from = new Row(RIDERS);
            home = new Row(RIDERS);
            since = new Row(RIDERS);
            fur = new Row(RIDERS);
            rules = new Rules();
        }

        void clear() {
            roofs = 0;
            flights = 0;
            owls = 0;
            riders = 0;
            dawn = 360;
            minutes.fill(0);
            rules.clear();
        }

        void copy(City other) {
            roofs = other.roofs;
            flights = other.flights;
            owls = other.owls;
            riders = other.riders;
            dawn = other.dawn;
            grain.copy(other.grain);
            minutes.copy(other.minutes);
            kind.copy(other.kind);
            start.copy(other.start);
            length.copy(other.length);
            way.copy(other.way);
            from.copy(other.from);
            home.copy(other.home);
            since.copy(other.since);
            fur.copy(other.fur);
            rules.copy(other.rules);
        }

        void addFlight(int roof, int other, int many) {
            minutes.put(roof * ROOFS + other, many);
            minutes.put(other * ROOFS + roof, many);
            flights++;
        }

        int minutesBetween(int roof, int other) {
            int many = minutes.at(roof * ROOFS + other);
            return many == 0 ? NONE : many;
        }

        int neighboursOf(int roof) {
            int many = 0;
            for (int other = 0; other < roofs; other++) {
                many += minutesBetween(roof, other) == NONE ? 0 : 1;
            }
            return many;
        }

        int ridersOf(int roof) {
            int bits = 0;
            for (int rider = 0; rider < riders; rider++) {
                bits |= home.at(rider) == roof ? 1 << rider : 0;
            }
            return bits;
        }

        int ridersWith(int price) {
            int many = 0;
            for (int rider = 0; rider < riders; rider++) {
                many += fur.at(rider) >= price ? 1 : 0;
            }
            return many;
        }
    }

    /**
     * The rules of hunts, operators behind what they join: a number stands for itself, what is
     * below 0 for the token of that number without its sign.
     */
    private static final class Rules {
        int count;
        private int steps;
        private final Row code;
        private final Row ends;
        private final Row stack;

        Rules() {
            code = new Row(TAPE);
            ends = new Row(HUNTS);
            // No rule holds more at once: 6 nested expressions with 5 kinds of operators each.
            stack = new Row(64);
        }

        void clear() {
            count = 0;
            steps = 0;
        }

        void copy(Rules other) {
            count = other.count;
            steps = other.steps;
            code.copy(other.code);
            ends.copy(other.ends);
        }

        void emit(int step) {
            code.put(steps, step);
            steps++;
        }

        void close() {
            ends.put(count, steps);
            count++;
        }

        int valueOf(int rule, Row values) {
            int top = 0;
            int end = ends.at(rule);
            for (int i = rule == 0 ? 0 : ends.at(rule - 1); i < end; i++) {
                int step = code.at(i);
                if (step >= 0) {
                    stack.put(top, step);
                    top++;
                } else if (-step >= FIRST_VALUE) {
                    stack.put(top, values.at(-step - FIRST_VALUE));
                    top++;
                } else if (-step == NOT_WORD) {
                    stack.put(top - 1, stack.at(top - 1) == 0 ? 1 : 0);
                } else {
                    top--;
                    stack.put(top - 1, joined(-step, stack.at(top - 1), stack.at(top)));
                }
            }
            return stack.at(0);
        }

        private static int joined(int operator, int left, int right) {
            switch (operator) {
                case '+': return left + right;
                case '-': return left - right;
                case '*': return left * right;
                case '/': return right == 0 ? 0 : left / right;
                case '<': return left < right ? 1 : 0;
                case '=': return left == right ? 1 : 0;
                case AND_WORD: return left != 0 && right != 0 ? 1 : 0;
                default: return left != 0 || right != 0 ? 1 : 0;
            }
        }
    }

    /** A text as tokens, END behind them. */
    private static final class Tokens {
        final Row codes;
        final Row places;
        final Row numbers;
        private int count;

        Tokens() {
            codes = new Row(TAPE + 1);
            places = new Row(TAPE + 1);
            numbers = new Row(TAPE + 1);
        }

        void cut(Row text, int length) {
            int next = 0;
            count = 0;
            for (int i = 0; i < length; i++) {
                int sign = text.at(i);
                if (i < next || sign == 32 || sign == 10) {
                    continue;
                }
                if (isLetter(sign)) {
                    next = endOfWord(text, i, length);
                    add(wordCode(text, i, next), i, 0);
                } else if (isDigit(sign)) {
                    next = endOfNumber(text, i, length);
                    add(NUMBER, i, numberAt(text, i, next));
                } else {
                    add(SIGNS.indexOf((char) sign) >= 0 ? sign : NO_TOKEN, i, 0);
                }
            }
            add(END, length, 0);
        }

        private void add(int code, int place, int number) {
            codes.put(count, code);
            places.put(count, place);
            numbers.put(count, number);
            count++;
        }

        private static boolean isLetter(int sign) {
            return sign >= 'a' && sign <= 'z';
        }

        private static boolean isDigit(int sign) {
            return sign >= '0' && sign <= '9';
        }

        private static int endOfWord(Row text, int from, int length) {
            for (int i = from; i < length; i++) {
                if (!isLetter(text.at(i))) {
                    return i;
                }
            }
            return length;
        }

        private static int endOfNumber(Row text, int from, int length) {
            for (int i = from; i < length; i++) {
                if (!isDigit(text.at(i))) {
                    return i;
                }
            }
            return length;
        }

        /** A number with too many digits is one above the largest. */
        private static int numberAt(Row text, int from, int to) {
            int number = 0;
            if (to - from > MOST_DIGITS) {
                return LARGEST_NUMBER + 1;
            }
            for (int i = from; i < to; i++) {
                number = number * 10 + text.at(i) - '0';
            }
            return number;
        }

        private static int wordCode(Row text, int from, int to) {
            int code = WORD + 1;
            int at = from;
            boolean same = true;
            for (int i = 0; i < WORDS.length(); i++) {
                char sign = WORDS.charAt(i);
                if (sign != ' ') {
                    same = same && at < to && text.at(at) == sign;
                    at++;
                } else if (same && at == to) {
                    return code;
                } else {
                    code++;
                    at = from;
                    same = true;
                }
            }
            return same && at == to ? code : WORD;
        }
    }

    /** Tells a city by the tokens of a text; each reading method answers whether it could. */
    private static final class Reader {
        private final Tokens tokens;
        private final City city;
        private int at;
        private int fault;
        int place;
        private boolean dawnTold;

        Reader(Tokens tokens, City city) {
            this.tokens = tokens;
            this.city = city;
        }

        int readCity() {
            city.clear();
            at = 0;
            fault = 0;
            place = NONE;
            dawnTold = false;
            for (int lines = 0; lines < TAPE && code() != END; lines++) {
                if (!readLine() || !takeSign(';')) {
                    return fault;
                }
            }
            return fault;
        }

        private int code() {
            return tokens.codes.at(at);
        }

        private boolean fail(int number) {
            fault = number;
            place = tokens.places.at(at);
            return false;
        }

        private boolean takeSign(int sign) {
            if (code() != sign) {
                return fail(CANNOT_STAND);
            }
            at++;
            return true;
        }

        private boolean readLine() {
            int word = code();
            switch (word) {
                case ROOF_WORD: return readRoof();
                case FLIGHT_WORD: return readFlight();
                case TAWNY_WORD:
                case BARN_WORD:
                case WHITE_WORD: return readOwl(word - TAWNY_WORD);
                case RIDER_WORD: return readRider();
                case DAWN_WORD: return readDawn();
                case HUNTS_WORD: return readHunts();
                default: return fail(CANNOT_STAND);
            }
        }

        private boolean readRoof() {
            if (city.roofs >= ROOFS) {
                return fail(TOO_MUCH);
            }
            at++;
            int grain = takeNumber(0, MOST_GRAIN);
            city.grain.put(city.roofs, grain);
            city.roofs++;
            return grain != NONE;
        }

        private boolean readFlight() {
            if (city.flights >= FLIGHTS) {
                return fail(TOO_MUCH);
            }
            at++;
            int roof = roofHere();
            if (roof == NONE) {
                return false;
            }
            at++;
            int other = roofHere();
            if (other == NONE) {
                return false;
            }
            if (other == roof || city.minutesBetween(roof, other) != NONE) {
                return fail(NO_NEW_FLIGHT);
            }
            at++;
            int minutes = takeNumber(1, 60);
            if (minutes == NONE) {
                return false;
            }
            city.addFlight(roof, other, minutes);
            return true;
        }

        private boolean readOwl(int kind) {
            if (city.owls >= OWLS) {
                return fail(TOO_MUCH);
            }
            at++;
            int minute = takeNumber(0, LATEST_START);
            if (minute == NONE || !readWay(city.owls)) {
                return false;
            }
            city.kind.put(city.owls, kind);
            city.start.put(city.owls, minute);
            city.owls++;
            return true;
        }

        private boolean readWay(int owl) {
            int ahead = NONE;
            for (int i = 0; i <= WAY; i++) {
                if (i > 0 && code() != NUMBER) {
                    city.length.put(owl, i);
                    return true;
                }
                if (i == WAY) {
                    return fail(TOO_MUCH);
                }
                int roof = roofHere();
                if (roof == NONE) {
                    return false;
                }
                if (i > 0 && city.minutesBetween(ahead, roof) == NONE) {
                    return fail(NO_FLIGHT);
                }
                city.way.put(owl * WAY + i, roof);
                ahead = roof;
                at++;
            }
            return false;
        }

        private boolean readRider() {
            if (city.riders >= RIDERS) {
                return fail(TOO_MUCH);
            }
            at++;
            int from = roofHere();
            if (from == NONE) {
                return false;
            }
            at++;
            int home = roofHere();
            if (home == NONE) {
                return false;
            }
            at++;
            int since = takeNumber(0, 400);
            int fur = since == NONE ? NONE : takeNumber(0, 9);
            if (fur == NONE) {
                return false;
            }
            city.from.put(city.riders, from);
            city.home.put(city.riders, home);
            city.since.put(city.riders, since);
            city.fur.put(city.riders, fur);
            city.riders++;
            return true;
        }

        private boolean readDawn() {
            if (dawnTold) {
                return fail(SECOND_DAWN);
            }
            at++;
            dawnTold = true;
            city.dawn = takeNumber(60, LATEST_DAWN);
            return city.dawn != NONE;
        }

        private int takeNumber(int least, int most) {
            if (code() != NUMBER) {
                fail(CANNOT_STAND);
                return NONE;
            }
            int number = tokens.numbers.at(at);
            if (number < least || number > most) {
                fail(TOO_MUCH);
                return NONE;
            }
            at++;
            return number;
        }

        /** The roof that stands here isn't passed: a later fault may have to name its place. */
        private int roofHere() {
            int roof = tokens.numbers.at(at);
            if (code() != NUMBER) {
                fail(CANNOT_STAND);
                return NONE;
            }
            if (roof > LARGEST_NUMBER) {
                fail(TOO_MUCH);
                return NONE;
            }
            if (roof >= city.roofs) {
                fail(NOT_TOLD);
                return NONE;
            }
            return roof;
        }

        private boolean readHunts() {
            if (city.rules.count >= HUNTS) {
                return fail(TOO_MUCH);
            }
            at++;
            if (!readExpr(0)) {
                return false;
            }
            city.rules.close();
            return true;
        }

        private boolean readExpr(int depth) {
            if (depth >= DEEPEST) {
                boolean begins = code() == NUMBER || code() == '(' || code() >= WORD;
                return fail(begins ? TOO_MUCH : CANNOT_STAND);
            }
            if (!readAnd(depth)) {
                return false;
            }
            for (int i = 0; i < TAPE && code() == OR_WORD; i++) {
                at++;
                if (!readAnd(depth)) {
                    return false;
                }
                city.rules.emit(-OR_WORD);
            }
            return true;
        }

        private boolean readAnd(int depth) {
            if (!readNot(depth)) {
                return false;
            }
            for (int i = 0; i < TAPE && code() == AND_WORD; i++) {
                at++;
                if (!readNot(depth)) {
                    return false;
                }
                city.rules.emit(-AND_WORD);
            }
            return true;
        }

        private boolean readNot(int depth) {
            int nots = 0;
            for (int i = 0; i <= MOST_NOTS && code() == NOT_WORD; i++) {
                if (i == MOST_NOTS) {
                    return fail(TOO_MUCH);
                }
                nots++;
                at++;
            }
            if (!readTest(depth)) {
                return false;
            }
            for (int i = 0; i < nots; i++) {
                city.rules.emit(-NOT_WORD);
            }
            return true;
        }

        private boolean readTest(int depth) {
            if (!readSum(depth)) {
                return false;
            }
            int sign = code();
            if (sign == '<' || sign == '=') {
                at++;
                if (!readSum(depth)) {
                    return false;
                }
                city.rules.emit(-sign);
            }
            return true;
        }

        private boolean readSum(int depth) {
            if (!readProduct(depth)) {
                return false;
            }
            for (int i = 0; i < TAPE && (code() == '+' || code() == '-'); i++) {
                int sign = code();
                at++;
                if (!readProduct(depth)) {
                    return false;
                }
                city.rules.emit(-sign);
            }
            return true;
        }

        private boolean readProduct(int depth) {
            if (!readPart(depth)) {
                return false;
            }
            for (int i = 0; i < TAPE && (code() == '*' || code() == '/'); i++) {
                int sign = code();
                at++;
                if (!readPart(depth)) {
                    return false;
                }
                city.rules.emit(-sign);
            }
            return true;
        }

        private boolean readPart(int depth) {
            int code = code();
            if (code == '(') {
                at++;
                return readExpr(depth + 1) && takeSign(')');
            }
            if (code == NUMBER) {
                int number = takeNumber(0, LARGEST_NUMBER);
                city.rules.emit(number);
                return number != NONE;
            }
            if (code < WORD) {
                return fail(CANNOT_STAND);
            }
            if (code < FIRST_VALUE || code > LAST_VALUE) {
                return fail(NOT_TOLD);
            }
            city.rules.emit(-code);
            at++;
            return true;
        }
    }

    /** What makes one night unlike another. */
    private static final class Sky {
        int rule;
        int moon;
        boolean wet;
        int nests;
        final Row grain;
        final Row start;

        Sky() {
            rule = NONE;
            grain = new Row(ROOFS);
            start = new Row(OWLS);
        }

        void begin(City city) {
            rule = city.rules.count > 0 ? 0 : NONE;
            moon = 0;
            wet = false;
            nests = 0;
            grain.copy(city.grain);
            start.copy(city.start);
        }

        void copy(Sky other) {
            rule = other.rule;
            moon = other.moon;
            wet = other.wet;
            nests = other.nests;
            grain.copy(other.grain);
            start.copy(other.start);
        }

        boolean nesting(int owl) {
            return ((nests >> owl) & 1) == 1;
        }
    }

    /** Triples in their order; where there is room for no more, the first one gives way. */
    private static final class Log {
        int count;
        private final int room;
        final Row first;
        final Row second;
        final Row third;

        Log(int room) {
            this.room = room;
            first = new Row(room);
            second = new Row(room);
            third = new Row(room);
        }

        void add(int one, int two, int three) {
            if (count >= room) {
                dropFirst();
            }
            first.put(count, one);
            second.put(count, two);
            third.put(count, three);
            count++;
        }

        private void dropFirst() {
            for (int i = 1; i < count; i++) {
                first.put(i - 1, first.at(i));
                second.put(i - 1, second.at(i));
                third.put(i - 1, third.at(i));
            }
            count--;
        }

        void copy(Log other) {
            count = other.count;
            first.copy(other.first);
            second.copy(other.second);
            third.copy(other.third);
        }
    }

    /** All that an image keeps. */
    private static final class State {
        final Sky sky;
        final Log acts;
        final Log seen;

        State() {
            sky = new Sky();
            acts = new Log(ACTS);
            seen = new Log(SIGHTINGS);
        }

        void begin(City city) {
            sky.begin(city);
            acts.count = 0;
            seen.count = 0;
        }

        void copy(State other) {
            sky.copy(other.sky);
            acts.copy(other.acts);
            seen.copy(other.seen);
        }

        int takeBack() {
            if (acts.count == 0) {
                return NONE;
            }
            acts.count--;
            int which = acts.second.at(acts.count);
            int before = acts.third.at(acts.count);
            switch (acts.first.at(acts.count)) {
                case OBEY_ACT: sky.rule = before; break;
                case MOON_ACT: sky.moon = before; break;
                case WET_ACT: sky.wet = before == 1; break;
                case NEST_ACT: sky.nests = before; break;
                case GRAIN_ACT: sky.grain.put(which, before); break;
                default: sky.start.put(which, before); break;
            }
            return acts.count;
        }
    }

    /** One night of the owls; a cell is the stop of an owl, owl by owl. */
    private static final class Night {
        private final City city;
        final Row comes;
        final Row leaves;
        final Row mice;
        final Row caught;
        /** How many stops an owl has come to: none, if it nests. */
        final Row reached;
        /** The cells as the owls come to them. */
        final Row order;
        int comings;
        private final Row due;
        private final Row values;
        private final Row marks;

        Night(City city) {
            this.city = city;
            comes = new Row(OWLS * WAY);
            leaves = new Row(OWLS * WAY);
            mice = new Row(ROOFS);
            caught = new Row(OWLS);
            reached = new Row(OWLS);
            order = new Row(OWLS * WAY);
            due = new Row(OWLS);
            values = new Row(VALUES);
            marks = new Row(LATEST_DAWN + 1);
        }

        void pass(Sky sky) {
            comings = 0;
            for (int roof = 0; roof < city.roofs; roof++) {
                mice.put(roof, 2 * sky.grain.at(roof));
            }
            for (int owl = 0; owl < city.owls; owl++) {
                caught.put(owl, 0);
                reached.put(owl, 0);
                due.put(owl, sky.nesting(owl) ? NEVER : sky.start.at(owl));
            }
            for (int i = 0; i < OWLS * WAY; i++) {
                int owl = nextOwl();
                if (owl == NONE) {
                    return;
                }
                come(owl, sky);
            }
        }

        private int nextOwl() {
            int next = NONE;
            int soonest = NEVER;
            for (int owl = 0; owl < city.owls; owl++) {
                if (due.at(owl) < soonest) {
                    soonest = due.at(owl);
                    next = owl;
                }
            }
            return next;
        }

        private void come(int owl, Sky sky) {
            int i = reached.at(owl);
            int cell = owl * WAY + i;
            int roof = city.way.at(cell);
            int minute = due.at(owl);
            int hunted = minutesHunted(owl, i, minute, sky);
            comes.put(cell, minute);
            leaves.put(cell, minute + hunted);
            order.put(comings, cell);
            comings++;
            if (hunted > 0 && mice.at(roof) > 0) {
                mice.put(roof, mice.at(roof) - 1);
                caught.put(owl, caught.at(owl) + 1);
            }
            reached.put(owl, i + 1);
            boolean goesOn = i + 1 < city.length.at(owl);
            due.put(owl, goesOn ? minute + hunted + minutesFlown(owl, i, sky) : NEVER);
        }

        private int minutesHunted(int owl, int i, int minute, Sky sky) {
            int roof = city.way.at(owl * WAY + i);
            if (sky.rule == NONE) {
                return mice.at(roof) > 0 ? 3 : 2;
            }
            values.put(0, mice.at(roof));
            values.put(1, sky.grain.at(roof));
            values.put(2, city.kind.at(owl));
            values.put(3, i);
            values.put(4, sky.moon);
            values.put(5, sky.wet ? 1 : 0);
            values.put(6, minute / 60);
            return Math.max(0, Math.min(30, city.rules.valueOf(sky.rule, values)));
        }

        private int minutesFlown(int owl, int i, Sky sky) {
            int cell = owl * WAY + i;
            int minutes = city.minutesBetween(city.way.at(cell), city.way.at(cell + 1));
            if (city.kind.at(owl) == BARN_OWL && sky.moon >= MOONS / 2) {
                minutes = (minutes + 1) / 2;
            }
            return sky.wet ? 2 * minutes : minutes;
        }

        private int lastMinuteOn(int cell) {
            boolean stays = cell % WAY == city.length.at(cell / WAY) - 1;
            return stays ? NEVER : leaves.at(cell);
        }

        int roofOf(int owl, int minute) {
            for (int i = 0; i < reached.at(owl); i++) {
                int cell = owl * WAY + i;
                if (comes.at(cell) <= minute && minute <= lastMinuteOn(cell)) {
                    return city.way.at(cell);
                }
            }
            return NONE;
        }

        int minutesTogether(int owl) {
            int together = 0;
            marks.fill(0);
            for (int other = 0; other < city.owls; other++) {
                for (int i = 0; i < reached.at(owl) && other != owl; i++) {
                    for (int j = 0; j < reached.at(other); j++) {
                        markBoth(owl * WAY + i, other * WAY + j);
                    }
                }
            }
            for (int minute = 0; minute <= LATEST_DAWN; minute++) {
                together += marks.at(minute);
            }
            return together;
        }

        private void markBoth(int cell, int other) {
            if (city.way.at(cell) != city.way.at(other)) {
                return;
            }
            int from = Math.max(comes.at(cell), comes.at(other));
            int to = Math.min(lastMinuteOn(cell), lastMinuteOn(other));
            for (int minute = from; minute <= to && minute <= city.dawn; minute++) {
                marks.put(minute, 1);
            }
        }
    }

    /** What riders can do in the night that has passed last. */
    private static final class Rides {
        /** Each owl is worth one ride at the most, so nobody pays more than five white owls. */
        private static final int MOST_SPENT = 15;

        private final City city;
        private final Night night;
        private final Row arrival;
        private final Row riding;
        private final Row soonest;
        private final Row load;

        Rides(City city, Night night) {
            this.city = city;
            this.night = night;
            arrival = new Row(ROOFS);
            riding = new Row(OWLS);
            soonest = new Row((MOST_SPENT + 1) * ROOFS);
            load = new Row(OWLS * WAY);
        }

        /**
         * One walk along all comings is enough: an owl leaves a stop ahead of the minute in which
         * it comes to the next one, so all who get there in time have come by then.
         */
        private void arrive(int rider) {
            arrival.fill(NEVER);
            riding.fill(0);
            arrival.put(city.from.at(rider), city.since.at(rider));
            for (int i = 0; i < night.comings; i++) {
                int cell = night.order.at(i);
                if (cell % WAY == 0) {
                    continue;
                }
                int owl = cell / WAY;
                int roof = city.way.at(cell);
                if (arrival.at(city.way.at(cell - 1)) <= night.leaves.at(cell - 1)) {
                    riding.put(owl, 1);
                }
                if (riding.at(owl) == 1 && night.comes.at(cell) < arrival.at(roof)) {
                    arrival.put(roof, night.comes.at(cell));
                }
            }
        }

        int minuteHome(int rider) {
            arrive(rider);
            int minute = arrival.at(city.home.at(rider));
            return minute <= city.dawn ? minute : NONE;
        }

        int countHome() {
            int many = 0;
            for (int rider = 0; rider < city.riders; rider++) {
                many += minuteHome(rider) == NONE ? 0 : 1;
            }
            return many;
        }

        boolean allHomeBy(int riders, int minute) {
            for (int rider = 0; rider < city.riders; rider++) {
                if (((riders >> rider) & 1) == 1) {
                    int home = minuteHome(rider);
                    if (home == NONE || home > minute) {
                        return false;
                    }
                }
            }
            return true;
        }

        int roofsBy(int rider, int minute) {
            int bits = 0;
            arrive(rider);
            for (int roof = 0; roof < city.roofs; roof++) {
                boolean gets = arrival.at(roof) != NEVER && arrival.at(roof) <= minute;
                bits |= gets ? 1 << roof : 0;
            }
            return bits;
        }

        int lastOwl(int rider) {
            int minute = minuteHome(rider);
            int home = city.home.at(rider);
            if (minute == NONE || city.from.at(rider) == home) {
                return NONE;
            }
            for (int owl = 0; owl < city.owls; owl++) {
                if (bringsTo(home, owl, minute)) {
                    return owl;
                }
            }
            return NONE;
        }

        private boolean bringsTo(int home, int owl, int minute) {
            boolean on = false;
            for (int i = 0; i < night.reached.at(owl); i++) {
                int cell = owl * WAY + i;
                int roof = city.way.at(cell);
                if (on && roof == home && night.comes.at(cell) == minute) {
                    return true;
                }
                on = on || arrival.at(roof) <= night.leaves.at(cell);
            }
            return false;
        }

        /** The fewest owls, or fares, by which a rider is home by dawn; a row of roofs for each sum. */
        int fewest(int rider, boolean fares) {
            soonest.fill(NEVER);
            soonest.put(city.from.at(rider), city.since.at(rider));
            for (int spent = 0; spent <= MOST_SPENT; spent++) {
                for (int owl = 0; owl < city.owls; owl++) {
                    int price = fares ? city.kind.at(owl) + 1 : 1;
                    if (price <= spent) {
                        rideAlong(owl, spent - price, spent);
                    }
                }
                if (soonest.at(spent * ROOFS + city.home.at(rider)) <= city.dawn) {
                    return spent;
                }
            }
            return NONE;
        }

        private void rideAlong(int owl, int ahead, int spent) {
            boolean on = false;
            for (int i = 0; i < night.reached.at(owl); i++) {
                int cell = owl * WAY + i;
                int roof = city.way.at(cell);
                if (on && night.comes.at(cell) < soonest.at(spent * ROOFS + roof)) {
                    soonest.put(spent * ROOFS + roof, night.comes.at(cell));
                }
                on = on || soonest.at(ahead * ROOFS + roof) <= night.leaves.at(cell);
            }
        }

        /** The load of a cell is how many are on the owl from that stop to the next one. */
        int countStrapped(int straps) {
            int many = 0;
            load.fill(0);
            for (int rider = 0; rider < city.riders; rider++) {
                if (city.from.at(rider) == city.home.at(rider)) {
                    many += city.since.at(rider) <= city.dawn ? 1 : 0;
                } else {
                    many += takesStrap(rider, straps) ? 1 : 0;
                }
            }
            return many;
        }

        private boolean takesStrap(int rider, int straps) {
            int soon = city.dawn + 1;
            int on = NONE;
            int off = NONE;
            for (int cell = 0; cell < city.owls * WAY; cell++) {
                if (cell % WAY < night.reached.at(cell / WAY)
                        && city.way.at(cell) == city.home.at(rider) && night.comes.at(cell) < soon) {
                    int from = cellToGetOn(rider, cell);
                    if (from != NONE && hasStrap(from, cell, straps)) {
                        soon = night.comes.at(cell);
                        on = from;
                        off = cell;
                    }
                }
            }
            for (int cell = on; cell < off; cell++) {
                load.put(cell, load.at(cell) + 1);
            }
            return on != NONE;
        }

        private int cellToGetOn(int rider, int off) {
            for (int cell = off - 1; cell >= off - off % WAY; cell--) {
                if (city.way.at(cell) == city.from.at(rider)
                        && city.since.at(rider) <= night.leaves.at(cell)) {
                    return cell;
                }
            }
            return NONE;
        }

        private boolean hasStrap(int on, int off, int straps) {
            for (int cell = on; cell < off; cell++) {
                if (load.at(cell) >= straps) {
                    return false;
                }
            }
            return true;
        }
    }

    /** The roofs by which most homes are near. */
    private static final class Beams {
        /** Above the minutes of any way over nine flights, so that a sum of two can't wrap. */
        private static final int FAR = 10000;

        private final City city;
        private final Row apart;
        private final Row near;
        int most;
        int set;

        Beams(City city) {
            this.city = city;
            apart = new Row(ROOFS * ROOFS);
            near = new Row(ROOFS);
        }

        void choose(int many, int minutes) {
            most = NONE;
            set = NONE;
            measure();
            for (int roof = 0; roof < city.roofs; roof++) {
                near.put(roof, ridersNear(roof, minutes));
            }
            for (int bits = 0; bits < 1 << city.roofs; bits++) {
                if (Integer.bitCount(bits) == many) {
                    int riders = Integer.bitCount(ridersOfSet(bits));
                    if (riders > most) {
                        most = riders;
                        set = bits;
                    }
                }
            }
        }

        private void measure() {
            for (int roof = 0; roof < city.roofs; roof++) {
                for (int other = 0; other < city.roofs; other++) {
                    int minutes = city.minutesBetween(roof, other);
                    int far = minutes == NONE ? FAR : minutes;
                    apart.put(roof * ROOFS + other, roof == other ? 0 : far);
                }
            }
            for (int by = 0; by < city.roofs; by++) {
                shorten(by);
            }
        }

        private void shorten(int by) {
            for (int roof = 0; roof < city.roofs; roof++) {
                for (int other = 0; other < city.roofs; other++) {
                    int around = apart.at(roof * ROOFS + by) + apart.at(by * ROOFS + other);
                    if (around < apart.at(roof * ROOFS + other)) {
                        apart.put(roof * ROOFS + other, around);
                    }
                }
            }
        }

        private int ridersNear(int roof, int minutes) {
            int bits = 0;
            for (int rider = 0; rider < city.riders; rider++) {
                bits |= apart.at(roof * ROOFS + city.home.at(rider)) <= minutes ? 1 << rider : 0;
            }
            return bits;
        }

        private int ridersOfSet(int roofs) {
            int bits = 0;
            for (int roof = 0; roof < city.roofs; roof++) {
                bits |= ((roofs >> roof) & 1) == 1 ? near.at(roof) : 0;
            }
            return bits;
        }
    }
}
