import java.util.ArrayList;
import java.util.Arrays;
import java.util.HashSet;
import java.util.List;
import java.util.NoSuchElementException;
import java.util.Set;
import java.util.function.BiPredicate;

/** A second program by the same document, as plain as can be: slow, with copies of all there is. */
final class Oracle {
    static final int NEVER = 1 << 28;

    private interface Rule {
        int value(int[] values);
    }

    private record Flight(int one, int other, int minutes) {
    }

    private record Owl(int kind, int minute, List<Integer> way) {
    }

    private record Rider(int from, int home, int since, int fur) {
    }

    private static final class Fault extends RuntimeException {
        private static final long serialVersionUID = 1L;
        final int number;
        final int place;

        Fault(int number, int place) {
            this.number = number;
            this.place = place;
        }
    }

    private static final class Told {
        final List<Integer> grains = new ArrayList<>();
        final List<Flight> flights = new ArrayList<>();
        final List<Owl> owls = new ArrayList<>();
        final List<Rider> riders = new ArrayList<>();
        final List<Rule> rules = new ArrayList<>();
        int dawn = 0;

        int minutes(int one, int other) {
            for (Flight f : flights) {
                if (f.one == one && f.other == other || f.one == other && f.other == one) {
                    return f.minutes;
                }
            }
            return -1;
        }
    }

    private static final class Conditions {
        int rule = -1;
        int moon = 0;
        boolean wet = false;
        boolean[] nests = new boolean[5];
        int[] grain = new int[10];
        int[] minute = new int[5];

        Conditions twin() {
            Conditions t = new Conditions();
            t.rule = rule;
            t.moon = moon;
            t.wet = wet;
            t.nests = nests.clone();
            t.grain = grain.clone();
            t.minute = minute.clone();
            return t;
        }
    }

    private record Sighting(int owl, int minute, int roof) {
    }

    /** One night, minute by minute. */
    private final class Passed {
        final int[][] comes = new int[5][8];
        final int[][] leaves = new int[5][8];
        final int[] mice = new int[10];
        final int[] caught = new int[5];
        final Conditions by;

        Passed(Conditions by) {
            this.by = by;
            for (int r = 0; r < told.grains.size(); r++) {
                mice[r] = by.grain[r] * 2;
            }
            int[] next = new int[5];
            int[] due = by.minute.clone();
            for (int minute = 0; minute < 3000; minute++) {
                for (int o = 0; o < told.owls.size(); o++) {
                    List<Integer> way = told.owls.get(o).way;
                    if (by.nests[o] || next[o] == way.size() || due[o] != minute) {
                        continue;
                    }
                    int i = next[o]++;
                    int kind = told.owls.get(o).kind;
                    int roof = way.get(i);
                    int hunt = mice[roof] > 0 ? 3 : 2;
                    if (by.rule >= 0) {
                        int[] values = {mice[roof], by.grain[roof], kind, i, by.moon, by.wet ? 1 : 0, minute / 60};
                        hunt = Math.min(30, Math.max(0, told.rules.get(by.rule).value(values)));
                    }
                    if (hunt >= 1 && mice[roof] > 0) {
                        mice[roof]--;
                        caught[o]++;
                    }
                    comes[o][i] = minute;
                    leaves[o][i] = minute + hunt;
                    if (i + 1 < way.size()) {
                        int flown = told.minutes(roof, way.get(i + 1));
                        if (kind == 1 && by.moon >= 4) {
                            flown = flown % 2 == 0 ? flown / 2 : flown / 2 + 1;
                        }
                        due[o] = minute + hunt + (by.wet ? flown + flown : flown);
                    }
                }
            }
        }

        int where(int o, int minute) {
            List<Integer> way = told.owls.get(o).way;
            if (by.nests[o]) {
                return -1;
            }
            for (int i = 0; i < way.size(); i++) {
                boolean over = minute > leaves[o][i] && i < way.size() - 1;
                if (minute >= comes[o][i] && !over) {
                    return way.get(i);
                }
            }
            return -1;
        }

        boolean flies(int o) {
            return !by.nests[o];
        }

        /** The soonest minutes on all roofs, changing until nothing gets sooner. */
        int[] soonest(Rider rider) {
            int[] soonest = new int[10];
            Arrays.fill(soonest, NEVER);
            soonest[rider.from] = rider.since;
            boolean sooner = true;
            while (sooner) {
                sooner = false;
                for (int[] ride : rides()) {
                    if (soonest[ride[1]] <= ride[2] && ride[4] < soonest[ride[3]]) {
                        soonest[ride[3]] = ride[4];
                        sooner = true;
                    }
                }
            }
            return soonest;
        }

        /** All rides: owl, roof to get on, the latest minute there, roof to get off, the minute there. */
        List<int[]> rides() {
            List<int[]> rides = new ArrayList<>();
            for (int o = 0; o < told.owls.size(); o++) {
                List<Integer> way = told.owls.get(o).way;
                for (int i = 0; flies(o) && i < way.size(); i++) {
                    for (int j = i + 1; j < way.size(); j++) {
                        rides.add(new int[] {o, way.get(i), leaves[o][i], way.get(j), comes[o][j], i, j});
                    }
                }
            }
            return rides;
        }

        int home(Rider rider) {
            int minute = soonest(rider)[rider.home];
            return minute <= dawn() ? minute : -1;
        }

        int homes() {
            int many = 0;
            for (Rider rider : told.riders) {
                many += home(rider) >= 0 ? 1 : 0;
            }
            return many;
        }

        /** The least sum of prices, trying every order of owls. */
        int least(Rider rider, int[] prices) {
            least = NEVER;
            tried = new HashSet<>();
            go(rider.from, rider.since, 0, 0, rider.home, prices);
            return least == NEVER ? -1 : least;
        }

        private int least;
        private Set<List<Integer>> tried;

        private void go(int roof, int minute, int used, int sum, int home, int[] prices) {
            if (minute > dawn() || sum >= least || !tried.add(List.of(roof, minute, used))) {
                return;
            }
            if (roof == home) {
                least = sum;
                return;
            }
            for (int[] ride : rides()) {
                if ((used >> ride[0] & 1) == 0 && ride[1] == roof && minute <= ride[2]) {
                    go(ride[3], ride[4], used | 1 << ride[0], sum + prices[told.owls.get(ride[0]).kind], home, prices);
                }
            }
        }
    }

    private byte[] tape = new byte[0];
    private int place = -1;
    private final int[] status = new int[3];
    private Told told = new Told();
    private Conditions now = new Conditions();
    private List<Conditions> acts = new ArrayList<>();
    private List<Sighting> seen = new ArrayList<>();
    private int[] row;
    private Conditions imageNow;
    private List<Conditions> imageActs;
    private List<Sighting> imageSeen;

    private int dawn() {
        return told.dawn == 0 ? 360 : told.dawn;
    }

    private static void need(boolean there) {
        if (!there) {
            throw new NoSuchElementException();
        }
    }

    private static void argue(boolean right) {
        if (!right) {
            throw new IllegalArgumentException();
        }
    }

    private void needRoof(int roof) {
        need(roof >= 0 && roof < told.grains.size());
    }

    private void needOwl(int owl) {
        need(owl >= 0 && owl < told.owls.size());
    }

    private Rider needRider(int rider) {
        need(rider >= 0 && rider < told.riders.size());
        return told.riders.get(rider);
    }

    int feed(int a, int b, int c, int d, int e) {
        if (tape.length > 680) {
            return -1;
        }
        byte[] longer = Arrays.copyOf(tape, tape.length + 20);
        java.nio.ByteBuffer.wrap(longer, tape.length, 20).putInt(a).putInt(b).putInt(c).putInt(d).putInt(e);
        tape = longer;
        return tape.length;
    }

    int city(int n) {
        argue(n >= 0 && n <= tape.length);
        String text = new String(tape, 0, n, java.nio.charset.StandardCharsets.ISO_8859_1);
        tape = new byte[0];
        try {
            Told next = new Text(text).told();
            told = next;
            place = -1;
        } catch (Fault f) {
            place = f.place;
            status[0]++;
            return f.number;
        }
        now = new Conditions();
        now.rule = told.rules.isEmpty() ? -1 : 0;
        for (int r = 0; r < told.grains.size(); r++) {
            now.grain[r] = told.grains.get(r);
        }
        for (int o = 0; o < told.owls.size(); o++) {
            now.minute[o] = told.owls.get(o).minute;
        }
        acts = new ArrayList<>();
        seen = new ArrayList<>();
        row = null;
        imageNow = null;
        return 0;
    }

    int fault() {
        return place;
    }

    int count(int what) {
        need(what >= 0 && what <= 16);
        int nests = 0;
        for (int o = 0; o < 5; o++) {
            nests += now.nests[o] ? 1 << o : 0;
        }
        int[] all = {told.grains.size(), told.flights.size(), told.owls.size(), told.riders.size(), told.rules.size(),
            now.rule, dawn(), now.moon, now.wet ? 1 : 0, nests, what == 10 ? new Passed(now).homes() : 0, acts.size(),
            seen.size(), tape.length, status[0], status[1], status[2]};
        return all[what];
    }

    int roof(int roof, int what) {
        needRoof(roof);
        need(what >= 0 && what <= 4);
        if (what == 2) {
            return new Passed(now).mice[roof];
        }
        int bits = 0;
        for (int r = 0; r < told.riders.size(); r++) {
            bits |= told.riders.get(r).home == roof ? 1 << r : 0;
        }
        int flights = 0;
        for (Flight f : told.flights) {
            flights += f.one == roof || f.other == roof ? 1 : 0;
        }
        return new int[] {now.grain[roof], 2 * now.grain[roof], 0, bits, flights}[what];
    }

    int flight(int roof, int other) {
        needRoof(roof);
        needRoof(other);
        return told.minutes(roof, other);
    }

    int owl(int owl, int what) {
        needOwl(owl);
        need(what >= 0 && what <= 5);
        Owl o = told.owls.get(owl);
        if (what == 3) {
            return new Passed(now).caught[owl];
        }
        int together = 0;
        if (what == 5) {
            Passed night = new Passed(now);
            for (int m = 0; m <= dawn(); m++) {
                boolean meets = false;
                for (int other = 0; other < told.owls.size(); other++) {
                    meets |= other != owl && night.where(owl, m) >= 0 && night.where(owl, m) == night.where(other, m);
                }
                together += meets ? 1 : 0;
            }
        }
        return new int[] {o.kind, now.minute[owl], o.way.size(), 0, now.nests[owl] ? 1 : 0, together}[what];
    }

    int stop(int owl, int i, int what) {
        needOwl(owl);
        need(i >= 0 && i < told.owls.get(owl).way.size() && what >= 0 && what <= 2);
        if (what == 0) {
            return told.owls.get(owl).way.get(i);
        }
        Passed night = new Passed(now);
        return now.nests[owl] ? -1 : what == 1 ? night.comes[owl][i] : night.leaves[owl][i];
    }

    int rider(int rider, int what) {
        Rider r = needRider(rider);
        need(what >= 0 && what <= 3);
        return new int[] {r.from, r.home, r.since, r.fur}[what];
    }

    int where(int owl, int minute) {
        needOwl(owl);
        return new Passed(now).where(owl, minute);
    }

    private void act() {
        acts.add(now.twin());
        if (acts.size() > 40) {
            acts.remove(0);
        }
    }

    private boolean allowed(boolean right) {
        if (right) {
            act();
        } else {
            status[1]++;
        }
        return right;
    }

    boolean obey(int rule) {
        if (!allowed(rule >= -1 && rule < told.rules.size())) {
            return false;
        }
        now.rule = rule;
        return true;
    }

    int moon(int moon) {
        int before = now.moon;
        if (!allowed(moon >= 0 && moon <= 7)) {
            return -1;
        }
        now.moon = moon;
        return before;
    }

    boolean wet(boolean wet) {
        boolean before = now.wet;
        act();
        now.wet = wet;
        return before;
    }

    boolean nest(int owl, boolean nests) {
        needOwl(owl);
        if (!allowed(now.nests[owl] != nests)) {
            return false;
        }
        now.nests[owl] = nests;
        return true;
    }

    int grain(int roof, int grain) {
        needRoof(roof);
        int before = now.grain[roof];
        if (!allowed(grain >= 0 && grain <= 9)) {
            return -1;
        }
        now.grain[roof] = grain;
        return before;
    }

    int start(int owl, int minute) {
        needOwl(owl);
        int before = now.minute[owl];
        if (!allowed(minute >= 0 && minute <= 300)) {
            return -1;
        }
        now.minute[owl] = minute;
        return before;
    }

    int undo() {
        if (acts.isEmpty()) {
            return -1;
        }
        now = acts.remove(acts.size() - 1).twin();
        return acts.size();
    }

    int home(int rider) {
        return new Passed(now).home(needRider(rider));
    }

    int changes(int rider) {
        int owls = new Passed(now).least(needRider(rider), new int[] {1, 1, 1});
        return owls < 1 ? owls : owls - 1;
    }

    int cheapest(int rider) {
        return new Passed(now).least(needRider(rider), new int[] {1, 2, 3});
    }

    int last(int rider) {
        Rider r = needRider(rider);
        Passed night = new Passed(now);
        int home = night.home(r);
        int[] soonest = night.soonest(r);
        int least = 5;
        for (int[] ride : night.rides()) {
            if (ride[3] == r.home && ride[4] == home && soonest[ride[1]] <= ride[2]) {
                least = Math.min(least, ride[0]);
            }
        }
        return home < 0 || r.from == r.home || least == 5 ? -1 : least;
    }

    int never() {
        int bits = 0;
        Passed night = new Passed(now);
        for (int r = 0; r < told.riders.size(); r++) {
            bits |= night.home(told.riders.get(r)) < 0 ? 1 << r : 0;
        }
        return bits;
    }

    int lure(int riders, int minute) {
        argue(riders >= 0 && riders < 1 << told.riders.size() && minute >= 0);
        for (int grains = 0; grains <= 3; grains++) {
            List<int[]> rows = new ArrayList<>();
            rowsOf(grains, 0, new int[told.grains.size()], rows);
            for (int[] tried : rows) {
                if (lures(riders, minute, tried)) {
                    row = tried;
                    return grains;
                }
            }
        }
        return -1;
    }

    private void rowsOf(int grains, int roof, int[] start, List<int[]> rows) {
        if (roof == start.length) {
            if (grains == 0) {
                rows.add(start.clone());
            }
            return;
        }
        for (int g = 0; g <= grains && g + now.grain[roof] <= 9; g++) {
            start[roof] = g;
            rowsOf(grains - g, roof + 1, start, rows);
        }
        start[roof] = 0;
    }

    private boolean lures(int riders, int minute, int[] tried) {
        Conditions other = now.twin();
        for (int r = 0; r < tried.length; r++) {
            other.grain[r] += tried[r];
        }
        Passed night = new Passed(other);
        for (int r = 0; r < told.riders.size(); r++) {
            int home = night.home(told.riders.get(r));
            if ((riders >> r & 1) == 1 && (home < 0 || home > minute)) {
                return false;
            }
        }
        return true;
    }

    int more(int roof) {
        needRoof(roof);
        need(row != null);
        return row[roof];
    }

    int beams(int many, int minutes, int what) {
        need(what == 0 || what == 1);
        argue(many >= 0 && many <= 10 && minutes >= 0 && minutes <= 200);
        int most = -1;
        int set = -1;
        for (int bits = 0; bits < 1 << told.grains.size(); bits++) {
            if (Integer.bitCount(bits) == many) {
                int near = 0;
                for (Rider rider : told.riders) {
                    near += isNear(bits, rider.home, minutes) ? 1 : 0;
                }
                if (near > most) {
                    most = near;
                    set = bits;
                }
            }
        }
        return what == 0 ? most : set;
    }

    /** Whether a way of flights from the home comes to one of the set: tried by how far it goes. */
    private boolean isNear(int set, int home, int minutes) {
        int[] far = new int[10];
        Arrays.fill(far, NEVER);
        far[home] = 0;
        for (int again = 0; again < 10; again++) {
            for (Flight f : told.flights) {
                far[f.one] = Math.min(far[f.one], far[f.other] + f.minutes);
                far[f.other] = Math.min(far[f.other], far[f.one] + f.minutes);
            }
        }
        for (int roof = 0; roof < 10; roof++) {
            if ((set >> roof & 1) == 1 && far[roof] <= minutes) {
                return true;
            }
        }
        return false;
    }

    int straps(int many) {
        argue(many >= 1 && many <= 8);
        Passed night = new Passed(now);
        List<int[]> taken = new ArrayList<>();
        int homes = 0;
        for (Rider rider : told.riders) {
            if (rider.from == rider.home) {
                homes += rider.since <= dawn() ? 1 : 0;
                continue;
            }
            int[] best = null;
            for (int[] ride : night.rides()) {
                boolean right = ride[1] == rider.from && ride[3] == rider.home && rider.since <= ride[2];
                for (int[] other : night.rides()) {
                    // A later stop ahead of that at which he gets off is the one to get on at.
                    right &= !(other[0] == ride[0] && other[6] == ride[6] && other[5] > ride[5]
                        && other[1] == rider.from && rider.since <= other[2]);
                }
                for (int part = ride[5]; part < ride[6]; part++) {
                    int on = 0;
                    for (int[] t : taken) {
                        on += t[0] == ride[0] && t[5] <= part && part < t[6] ? 1 : 0;
                    }
                    right &= on < many;
                }
                if (right && ride[4] <= dawn() && (best == null || ride[4] < best[4])) {
                    best = ride;
                }
            }
            if (best != null) {
                taken.add(best);
                homes++;
            }
        }
        return homes;
    }

    int worth(int owl) {
        needOwl(owl);
        Conditions other = now.twin();
        other.nests[owl] = true;
        return new Passed(now).homes() - new Passed(other).homes();
    }

    int vital() {
        int bits = 0;
        for (int o = 0; o < told.owls.size(); o++) {
            bits |= worth(o) > 0 ? 1 << o : 0;
        }
        return bits;
    }

    int see(int owl, int minute, int roof) {
        needOwl(owl);
        if (seen.size() == 8 || roof < -1 || roof >= told.grains.size() || minute < 0 || minute > 600) {
            status[2]++;
            return -1;
        }
        seen.add(new Sighting(owl, minute, roof));
        return seen.size();
    }

    void forget() {
        seen = new ArrayList<>();
    }

    private Passed by(int bit) {
        Conditions other = now.twin();
        other.rule = bit == 4 ? -1 : bit;
        return new Passed(other);
    }

    int fits() {
        int bits = 0;
        for (int bit = 0; bit <= 4; bit++) {
            if (bit == 4 || bit < told.rules.size()) {
                Passed night = by(bit);
                bits |= seen.stream().allMatch(s -> night.where(s.owl, s.minute) == s.roof) ? 1 << bit : 0;
            }
        }
        return bits;
    }

    int watch(int minute) {
        int fits = fits();
        int best = -1;
        int least = NEVER;
        for (int roof = 0; roof < told.grains.size(); roof++) {
            int many = 0;
            for (int bit = 0; bit <= 4; bit++) {
                boolean on = false;
                if ((fits >> bit & 1) == 1) {
                    Passed night = by(bit);
                    for (int o = 0; o < told.owls.size(); o++) {
                        on |= night.where(o, minute) == roof;
                    }
                }
                many += on ? 1 : 0;
            }
            int off = Math.abs(2 * many - Integer.bitCount(fits));
            if (off < least) {
                least = off;
                best = roof;
            }
        }
        return best;
    }

    int bats(int what) {
        need(what == 0 || what == 1);
        int many = 0;
        int first = -1;
        for (int couple = 11; couple <= 99; couple++) {
            if (couple % 10 == 0) {
                continue;
            }
            boolean rests = true;
            int[] gains = gains(couple / 10, couple % 10);
            for (int price = 1; price <= 9; price++) {
                rests &= gains(price, couple % 10)[0] <= gains[0] && gains(couple / 10, price)[1] <= gains[1];
            }
            first = rests && first < 0 ? couple : first;
            many += rests ? 1 : 0;
        }
        return what == 0 ? many : first;
    }

    private int[] gains(int owls, int bats) {
        int[] gains = new int[2];
        for (Rider rider : told.riders) {
            int price = Math.min(owls, bats);
            if (rider.fur >= price) {
                gains[owls == price ? 0 : 1] += price - 1;
            }
        }
        return gains;
    }

    int years(int seed, int n, int what) {
        need(what >= 0 && what <= 2);
        argue(n >= 0 && n <= 60);
        int[] sums = {0, n == 0 ? 0 : 100, 0};
        long drawn = seed;
        for (int night = 1; night <= n; night++) {
            drawn = (drawn * 1103515245L + 12345L) & 0xffffffffL;
            Conditions other = now.twin();
            other.moon = (now.moon + night) % 8;
            other.wet = (drawn / 65536 % 32768) % 4 == 0;
            int homes = new Passed(other).homes();
            sums[0] += homes;
            sums[1] = Math.min(sums[1], homes);
            sums[2] += homes == told.riders.size() ? 1 : 0;
        }
        return sums[what];
    }

    int reach(int rider, int minute) {
        Rider r = needRider(rider);
        int[] soonest = new Passed(now).soonest(r);
        int bits = 0;
        for (int roof = 0; roof < told.grains.size(); roof++) {
            bits |= soonest[roof] < NEVER && soonest[roof] <= minute ? 1 << roof : 0;
        }
        return bits;
    }

    private int bestOf(int from, int to, BiPredicate<Conditions, Integer> set) {
        int best = from;
        int most = -1;
        for (int i = from; i <= to; i++) {
            Conditions other = now.twin();
            set.test(other, i);
            int homes = new Passed(other).homes();
            if (homes > most) {
                most = homes;
                best = i;
            }
        }
        return best;
    }

    int late(int owl) {
        needOwl(owl);
        int homes = new Passed(now).homes();
        int latest = 0;
        for (int later = 0; later <= 60; later++) {
            Conditions other = now.twin();
            other.minute[owl] += later;
            latest = new Passed(other).homes() >= homes ? later : latest;
        }
        return latest;
    }

    int best() {
        return bestOf(-1, told.rules.size() - 1, (c, i) -> (c.rule = i) == i);
    }

    int bright() {
        return bestOf(0, 7, (c, i) -> (c.moon = i) == i);
    }

    int hunter() {
        Passed night = new Passed(now);
        int best = told.owls.isEmpty() ? -1 : 0;
        for (int o = 1; o < told.owls.size(); o++) {
            best = night.caught[o] > night.caught[best] ? o : best;
        }
        return best;
    }

    void image() {
        imageNow = now.twin();
        imageActs = new ArrayList<>(acts);
        imageSeen = new ArrayList<>(seen);
    }

    boolean restore() {
        if (imageNow == null) {
            return false;
        }
        now = imageNow.twin();
        acts = new ArrayList<>();
        for (Conditions c : imageActs) {
            acts.add(c.twin());
        }
        seen = new ArrayList<>(imageSeen);
        return true;
    }

    /** The text: tokens are told one by one as texts, "" at the end, faults are thrown. */
    private static final class Text {
        private static final List<String> VALUES = List.of("mice", "grain", "kind", "stop", "moon", "wet", "hour");
        private final String text;
        private final Told told = new Told();
        private int from;
        private String token;

        Text(String text) {
            this.text = text;
            token = "";
            next();
        }

        private void next() {
            from += token.length();
            while (from < text.length() && (text.charAt(from) == ' ' || text.charAt(from) == '\n')) {
                from++;
            }
            java.util.regex.Matcher m =
                java.util.regex.Pattern.compile("[a-z]+|[0-9]+|(?s:.)").matcher(text).region(from, text.length());
            token = m.lookingAt() ? m.group() : "";
        }

        private Fault fault(int number) {
            return new Fault(number, token.isEmpty() ? text.length() : from);
        }

        private void check(boolean right, int number) {
            if (!right) {
                throw fault(number);
            }
        }

        private boolean isNumber() {
            return token.matches("[0-9]+");
        }

        private boolean isWord() {
            return token.matches("[a-z]+");
        }

        private int number(int least, int most) {
            check(isNumber(), 1);
            check(token.length() <= 4, 2);
            int number = Integer.parseInt(token);
            check(number >= least && number <= most, 2);
            next();
            return number;
        }

        private int roof() {
            check(isNumber(), 1);
            check(token.length() <= 4, 2);
            check(Integer.parseInt(token) < told.grains.size(), 3);
            return Integer.parseInt(token);
        }

        private int roofPassed() {
            int roof = roof();
            next();
            return roof;
        }

        Told told() {
            while (!token.isEmpty()) {
                String word = token;
                int place = from;
                check(List.of("roof", "flight", "tawny", "barn", "white", "rider", "dawn", "hunts").contains(word), 1);
                next();
                line(word, place);
                check(token.equals(";"), 1);
                next();
            }
            return told;
        }

        private void most(int many, int most, int place) {
            if (many >= most) {
                throw new Fault(2, place);
            }
        }

        private void line(String word, int place) {
            switch (word) {
                case "roof" -> {
                    most(told.grains.size(), 10, place);
                    told.grains.add(number(0, 9));
                }
                case "flight" -> {
                    most(told.flights.size(), 18, place);
                    int one = roofPassed();
                    int other = roof();
                    check(one != other && told.minutes(one, other) < 0, 4);
                    next();
                    told.flights.add(new Flight(one, other, number(1, 60)));
                }
                case "rider" -> {
                    most(told.riders.size(), 8, place);
                    told.riders.add(new Rider(roofPassed(), roofPassed(), number(0, 400), number(0, 9)));
                }
                case "dawn" -> {
                    if (told.dawn != 0) {
                        throw new Fault(5, place);
                    }
                    told.dawn = number(60, 600);
                }
                case "hunts" -> {
                    most(told.rules.size(), 4, place);
                    told.rules.add(or(0));
                }
                default -> owl(List.of("tawny", "barn", "white").indexOf(word), place);
            }
        }

        private void owl(int kind, int place) {
            most(told.owls.size(), 5, place);
            int minute = number(0, 300);
            List<Integer> way = new ArrayList<>();
            way.add(roofPassed());
            while (isNumber()) {
                check(way.size() < 8, 2);
                int roof = roof();
                check(told.minutes(way.get(way.size() - 1), roof) > 0, 6);
                way.add(roof);
                next();
            }
            told.owls.add(new Owl(kind, minute, way));
        }

        private Rule or(int within) {
            if (within == 6) {
                check(isNumber() || isWord() || token.equals("("), 1);
                throw fault(2);
            }
            Rule left = and(within);
            while (token.equals("or")) {
                next();
                Rule one = left;
                Rule other = and(within);
                left = v -> one.value(v) != 0 | other.value(v) != 0 ? 1 : 0;
            }
            return left;
        }

        private Rule and(int within) {
            Rule left = not(within, 1);
            while (token.equals("and")) {
                next();
                Rule one = left;
                Rule other = not(within, 1);
                left = v -> one.value(v) != 0 & other.value(v) != 0 ? 1 : 0;
            }
            return left;
        }

        private Rule not(int within, int nots) {
            if (token.equals("not")) {
                check(nots < 7, 2);
                next();
                Rule part = not(within, nots + 1);
                return v -> part.value(v) == 0 ? 1 : 0;
            }
            Rule left = sum(within);
            if (token.equals("<")) {
                next();
                Rule right = sum(within);
                return v -> left.value(v) < right.value(v) ? 1 : 0;
            }
            if (token.equals("=")) {
                next();
                Rule right = sum(within);
                return v -> left.value(v) == right.value(v) ? 1 : 0;
            }
            return left;
        }

        private Rule sum(int within) {
            Rule left = product(within);
            while (token.equals("+") || token.equals("-")) {
                int sign = token.equals("+") ? 1 : -1;
                next();
                Rule one = left;
                Rule other = product(within);
                left = v -> one.value(v) + sign * other.value(v);
            }
            return left;
        }

        private Rule product(int within) {
            Rule left = part(within);
            while (token.equals("*") || token.equals("/")) {
                boolean times = token.equals("*");
                next();
                Rule one = left;
                Rule other = part(within);
                left = v -> {
                    long a = one.value(v);
                    long b = other.value(v);
                    return (int) (times ? a * b : b == 0 ? 0 : a / b);
                };
            }
            return left;
        }

        private Rule part(int within) {
            if (token.equals("(")) {
                next();
                Rule rule = or(within + 1);
                check(token.equals(")"), 1);
                next();
                return rule;
            }
            if (isWord()) {
                int value = VALUES.indexOf(token);
                check(value >= 0, 3);
                next();
                return v -> v[value];
            }
            int number = number(0, 9999);
            return v -> number;
        }
    }
}
