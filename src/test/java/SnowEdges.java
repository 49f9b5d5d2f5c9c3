/** Terms 4 and promises 30 to 35 and 37 to 40: snow, bats, years, being late, the best of all. */
final class SnowEdges {
    private static final int MOST = Integer.MAX_VALUE;
    private static final int LEAST = Integer.MIN_VALUE;
    /** The owl comes to roof 1 at 10 by the rule 0, at 15 by 1, at 40 by 2, at 12 without one. */
    private static final String SNOW = "roof 0;roof 0;flight 0 1 10;tawny 0 0 1;hunts 0;hunts 5;hunts 30;";
    /** By its owl the rider is home 12 minutes behind its start. */
    private static final String RIDE = "roof 0;roof 0;flight 0 1 10;hunts 2;rider 0 1 0 0;";
    /** One rider is home in a dry night alone, the other one is there already. */
    private static final String DRY = "roof 0;roof 0;flight 0 1 40;hunts 0;tawny 0 0 1;dawn 60;rider 0 1 0 0;"
        + "rider 1 1 0 0;";
    /** Seeds, and how many of their first 1, 10, 59 and 60 nights are dry. */
    private static final int[][] SEEDS = {{5, 1, 5, 42, 43}, {0, 0, 7, 43, 44}, {-1, 1, 8, 43, 43}, {-5, 0, 4, 40, 40},
        {123456, 1, 6, 35, 36}, {MOST, 1, 8, 43, 43}, {LEAST, 0, 7, 43, 44}};

    private SnowEdges() {
    }

    static void all() {
        seen();
        fits();
        bats();
        years();
        lateness();
        bests();
        Edges.terms(4, 4, "NONE = -1: There is none; never", () -> Check.same("NONE", -1, WingTrams.NONE));
    }

    private static void seen() {
        Edges.terms(4, 30, "SEEN (at most 8)", SnowEdges::eightSeen);
        Edges.terms(4, 32, "that an OWL was on a ROOF in a minute (0 to 600), or on none", SnowEdges::onNone);
        Edges.promise(30, "SEEN (ROOF NONE: on none): how many are", SnowEdges::howManySeen);
        Edges.promise(30, "NONE (STATUS 2): there are 8, no such ROOF, not 0 to 600", SnowEdges::notSeen);
        Edges.promise(30, "NoSuchElementException (ahead): no such OWL", SnowEdges::owlAhead);
        Edges.promise(31, "All that is SEEN is forgotten", SnowEdges::forgotten);
    }

    private static void eightSeen() {
        WingTrams x = Check.told(SNOW);
        for (int seen = 1; seen <= 8; seen++) {
            Check.same("seen", seen, seen < 8 ? x.see(0, 0, 0) : x.see(0, 10, 1));
        }
        Check.same("the eighth counts", 1, x.fits());
        Check.same("the ninth doesn't come", -1, x.see(0, 0, -1));
        Check.same("eight still", 8, x.count(12));
        Check.same("the eight", 1, x.fits());
    }

    private static void onNone() {
        WingTrams x = Check.told(SNOW);
        x.see(0, 0, 0);
        Check.same("in the first minute", 23, x.fits());
        x.see(0, 600, 1);
        Check.same("in the last minute", 23, x.fits());
        x.see(0, 11, -1);
        Check.same("on none", 2 + 16, x.fits());
        x.see(0, 0, -1);
        Check.same("on none where it is on one", 0, x.fits());
    }

    private static void howManySeen() {
        WingTrams x = Check.told(SNOW);
        Check.same("on the first roof", 1, x.see(0, 0, 0));
        Check.same("on the last roof", 2, x.see(0, 600, 1));
        Check.same("on none", 3, x.see(0, 1, WingTrams.NONE));
        Check.same("the same again", 4, x.see(0, 1, WingTrams.NONE));
        Check.same("none refused", 0, x.count(16));
        Check.same("no acts", 0, x.count(11));
    }

    private static void refused(WingTrams x, int minute, int roof) {
        int seen = x.count(12);
        int refused = x.count(16);
        Check.same("refused " + minute + " " + roof, -1, x.see(0, minute, roof));
        Check.same("counted", refused + 1, x.count(16));
        Check.same("none comes", seen, x.count(12));
        Check.same("counted there alone", 0, x.count(14) + x.count(15));
    }

    private static void notSeen() {
        WingTrams x = Check.told(SNOW);
        for (int minute : new int[] {-1, 601, MOST, LEAST}) {
            refused(x, minute, 0);
        }
        for (int roof : new int[] {-2, 2, 9, MOST, LEAST}) {
            refused(x, 5, roof);
        }
        Check.same("what is refused doesn't count", 23, x.fits());
        for (int i = 0; i < 8; i++) {
            x.see(0, 0, 0);
        }
        refused(x, 0, 0);
        refused(x, 601, 2);
        Check.same("seen still", 23, x.fits());
    }

    private static void owlAhead() {
        WingTrams x = Check.told(SNOW);
        Edges.noSuch("owl", owl -> x.see(owl, 0, 0), -1, 1, MOST);
        Edges.noSuch("owl, ahead of the rest", owl -> x.see(owl, 601, 2), -1, 1);
        for (int i = 0; i < 8; i++) {
            x.see(0, 0, 0);
        }
        Edges.noSuch("owl, ahead of eight", owl -> x.see(owl, 0, 0), -1, 1);
        Check.same("none counted", 0, x.count(16));
    }

    private static void forgotten() {
        WingTrams x = Check.told(SNOW);
        x.forget();
        Check.same("none yet", 0, x.count(12));
        for (int i = 0; i < 9; i++) {
            x.see(0, 0, -1);
        }
        Check.same("none fits", 0, x.fits());
        x.forget();
        Check.same("none", 0, x.count(12));
        Check.same("all fit", 23, x.fits());
        Check.same("refused still", 1, x.count(16));
        Check.same("the first again", 1, x.see(0, 0, 0));
        new WingTrams().forget();
    }

    private static void fits() {
        Edges.terms(4, 32, "FITS: rules of HUNTS by which (in force, all else as it is) all SEEN is so, as bits (bit 4: none)",
            SnowEdges::bitsThatFit);
        Edges.promise(32, "FITS, as bits.", SnowEdges::fitsWithoutSeen);
        Edges.terms(4, 33, "(twice how many less all of FITS, without sign, is least; of like ones the least)",
            SnowEdges::nearestToHalf);
        Edges.terms(4, 33, "some OWL is in it", SnowEdges::someOwl);
        Edges.terms(4, 33, "none without ROOFS", SnowEdges::watchOfNone);
        Edges.promise(33, "WATCH; NONE: there are no ROOFS", SnowEdges::watchAnyMinute);
    }

    private static void bitsThatFit() {
        WingTrams x = Check.told(SNOW);
        x.see(0, 12, 1);
        Check.same("by 0 and none", 17, x.fits());
        x.obey(2);
        Check.same("whichever is in force", 17, x.fits());
        x.see(0, 10, 1);
        Check.same("all of it", 1, x.fits());
        x.forget();
        x.see(0, 5, 0);
        Check.same("without none", 6, x.fits());
        x.start(0, 5);
        Check.same("all else as it is", 23, x.fits());
        x.nest(0, true);
        Check.same("none, if it nests", 0, x.fits());
        x.forget();
        x.see(0, 5, -1);
        Check.same("it is on none", 23, x.fits());
        x.nest(0, false);
        Check.same("not that it flies", 0, x.fits());
        Check.same("in force still", 2, x.count(5));
    }

    private static void fitsWithoutSeen() {
        Check.same("without hunts", 16, new WingTrams().fits());
        Check.same("one", 17, Check.told("hunts 1;").fits());
        Check.same("four", 31, Check.told("hunts 1;hunts 1;hunts 1;hunts 1;").fits());
    }

    /** By three rules and none: in 12 it is on roof 0 by one, on roof 1 by two. */
    private static void nearestToHalf() {
        WingTrams x = Check.told(SNOW);
        Check.same("half of four", 1, x.watch(12));
        Check.same("three of four, or none", 0, x.watch(2));
        Check.same("one of four, or three", 0, x.watch(20));
        Check.same("all of four, or none", 0, x.watch(0));
        Check.same("none of four, or all", 0, x.watch(40));
        x.see(0, 12, 1);
        Check.same("one of two", 1, x.watch(10));
        x.see(0, 0, -1);
        Check.same("of none", 0, x.watch(10));
        // By one rule and none.
        WingTrams y = Check.told("roof 0;roof 0;roof 0;flight 0 1 10;hunts 0;tawny 0 0 1;");
        Check.same("one of two", 1, y.watch(11));
        Check.same("one of two", 0, y.watch(1));
        Check.same("none of two", 0, y.watch(9));
    }

    private static void someOwl() {
        String city = "roof 0;roof 0;roof 0;flight 0 1 10;flight 2 1 10;hunts 0;hunts 5;hunts 30;";
        Check.same("two owls count once", 0, Check.told(city + "tawny 0 0 1;tawny 0 2 1;").watch(11));
        Check.same("the last of five", 1, Check.told(city + "tawny 0 2;".repeat(4) + "tawny 0 0 1;").watch(12));
        WingTrams x = Check.told(city + "tawny 0 0 1;");
        x.nest(0, true);
        Check.same("not one that nests", 0, x.watch(12));
        WingTrams y = Check.told("roof 0;".repeat(10) + "flight 8 9 10;hunts 0;tawny 0 8 9;");
        Check.same("on the last of ten", 9, y.watch(10));
    }

    private static void watchOfNone() {
        Check.same("of a new object", -1, new WingTrams().watch(0));
        Check.same("of a city without roofs", -1, Check.told("hunts 1;").watch(0));
        Check.same("of one roof", 0, Check.told("roof 0;").watch(0));
    }

    private static void watchAnyMinute() {
        WingTrams x = Check.told(SNOW);
        for (int minute : new int[] {LEAST, -1, 601, MOST}) {
            Check.same("minute " + minute, 0, x.watch(minute));
        }
        Check.same("in 12", 1, x.watch(12));
        Check.same("no roofs", -1, new WingTrams().watch(LEAST));
    }

    private static void couples(int due, int... furs) {
        StringBuilder text = new StringBuilder("roof 0;");
        for (int fur : furs) {
            text.append("rider 0 0 0 ").append(fur).append(';');
        }
        WingTrams x = Check.told(text.toString());
        Check.same(text + " couples", due, x.bats(0));
        Check.same(text + " the first", 11, x.bats(1));
    }

    private static void bats() {
        Edges.terms(4, 34, "they and the owls each ask a price of 1 to 9 FUR", SnowEdges::prices);
        Edges.terms(4, 34, "each RIDER who has as much takes the cheaper of both (of like ones the owls;"
            + " who hasn't as much takes none)",
            SnowEdges::asMuch);
        Edges.terms(4, 34, "a price less 1 is gained for each", SnowEdges::lessOne);
        Edges.terms(4, 34, "A couple RESTS, if neither gains more by another price", SnowEdges::resting);
        Edges.promise(34, "how many couples rest (what 0), the first (1; NONE: none)", SnowEdges::firstCouple);
        Edges.promise(34, "NoSuchElementException: another what", SnowEdges::wrongBats);
    }

    /** Nobody pays, so that every couple rests. */
    private static void prices() {
        couples(81);
        couples(81, 0);
        couples(81, 0, 0, 0, 0, 0, 0, 0, 0);
    }

    /** Who has 2 pays 2 and no more: the owls' 2 rests with what is above it, too. */
    private static void asMuch() {
        couples(10, 2);
        couples(10, 2, 1, 0);
        couples(3, 3);
        couples(6, 2, 2, 2, 9);
    }

    private static void lessOne() {
        couples(81, 1);
        couples(81, 1, 1, 1, 1, 1, 1, 1, 1);
        couples(10, 1, 2);
    }

    private static void resting() {
        couples(3, 9);
        couples(3, 8);
        couples(3, 9, 9, 9, 9, 9, 9, 9, 9);
        couples(3, 0, 1, 2, 3, 4, 5, 6, 7);
        // The owls' 2 doesn't rest with the bats' 9: by 9 they gain 8 of one, by 2 they gain 7.
        couples(9, 9, 2, 2, 2, 2, 2, 2);
    }

    private static void firstCouple() {
        WingTrams none = new WingTrams();
        Check.same("all", 81, none.bats(0));
        Check.same("the first of all", 11, none.bats(1));
        couples(3, 4, 1, 9);
    }

    private static void wrongBats() {
        WingTrams x = Check.told("roof 0;");
        Edges.noSuch("what", x::bats, -1, 2, MOST);
    }

    private static void years() {
        Edges.terms(4, 35, "n NIGHTS (0 to 60)", SnowEdges::sixtyNights);
        Edges.terms(4, 35, "in the first one the MOON is one more (0 behind 7) than now", SnowEdges::firstNight);
        Edges.terms(4, 35, "in each next one it is one more again", SnowEdges::nextNights);
        Edges.terms(4, 35, "in each a DRAW of 4 tells whether it is wet (0)", SnowEdges::drawsOfFour);
        Edges.terms(4, 35, "how many RIDERS can be HOME, together; the fewest in one; NIGHTS in which all can",
            SnowEdges::nightsOfAll);
        Edges.terms(4, 35, "(an int that wraps); a DRAW of n is its bits 16 to 30 MOD n then",
            SnowEdges::wrappingSeeds);
        Edges.promise(35, "how many RIDERS (what 0), the fewest (1; 0 without NIGHTS), NIGHTS (2)",
            SnowEdges::withoutNights);
        Edges.promise(35, "NoSuchElementException: another what", SnowEdges::wrongYears);
        Edges.promise(35, "IllegalArgumentException (behind that): n", SnowEdges::wrongNights);
    }

    private static void dryNights(int seed, int nights, int dry) {
        WingTrams x = Check.told(DRY);
        String what = nights + " nights of " + seed;
        Check.same(what, nights + dry, x.years(seed, nights, 0));
        Check.same("the fewest of " + what, nights == 0 ? 0 : dry == nights ? 2 : 1, x.years(seed, nights, 1));
        Check.same("all in " + what, dry, x.years(seed, nights, 2));
    }

    private static void sixtyNights() {
        int[] nights = {1, 10, 59, 60};
        for (int i = 0; i < nights.length; i++) {
            dryNights(5, nights[i], SEEDS[0][i + 1]);
        }
        dryNights(5, 0, 0);
    }

    /** The rider is home by one moon alone, dry or wet. */
    private static WingTrams byMoon(int moon) {
        return Check.told("roof 0;roof 0;flight 0 1 1;tawny 57 0 1;dawn 60;rider 0 1 0 0;hunts 30*(not moon="
            + moon + ");");
    }

    private static void firstNight() {
        for (int moon = 0; moon < 8; moon++) {
            WingTrams x = byMoon((moon + 1) % 8);
            x.moon(moon);
            Check.same("behind " + moon, 1, x.years(5, 1, 0));
            Check.same("it stays", moon, x.count(7));
            WingTrams y = byMoon(moon);
            y.moon(moon);
            Check.same("not " + moon + " once more", 0, y.years(5, 1, 0));
        }
    }

    private static void nextNights() {
        WingTrams x = byMoon(0);
        Check.same("not yet", 0, x.years(5, 7, 0));
        Check.same("behind 7", 1, x.years(5, 8, 0));
        Check.same("once more", 2, x.years(5, 16, 0));
        Check.same("seven times", 7, x.years(5, 60, 0));
        Check.same("eight times", 8, byMoon(4).years(5, 60, 0));
    }

    /** The seed 5 draws 3, 1, 0, 1, 1, 0, 0, 3, the seed 99 0, 1, 0, 0. */
    private static void drawsOfFour() {
        int[] dry = {0, 1, 2, 2, 3, 4, 4, 4, 5};
        for (int nights = 0; nights < dry.length; nights++) {
            dryNights(5, nights, dry[nights]);
        }
        int[] other = {0, 0, 1, 1, 1};
        for (int nights = 0; nights < other.length; nights++) {
            dryNights(99, nights, other[nights]);
        }
        WingTrams x = Check.told(DRY);
        x.wet(true);
        Check.same("wet now or not", 2, x.years(5, 1, 0));
        Check.same("it stays", 1, x.count(8));
        Check.same("no acts", 1, x.count(11));
    }

    private static void nightsOfAll() {
        WingTrams x = Check.told(DRY.replace("rider 1 1 0 0", "rider 1 0 0 0"));
        Check.same("together", 5, x.years(5, 10, 0));
        Check.same("none in one", 0, x.years(5, 10, 1));
        Check.same("not all in any", 0, x.years(5, 10, 2));
        WingTrams y = Check.told("roof 0;" + "rider 0 0 0 0;".repeat(8));
        Check.same("eight in each", 480, y.years(5, 60, 0));
        Check.same("eight in one", 8, y.years(5, 60, 1));
        Check.same("all in each", 60, y.years(5, 60, 2));
        WingTrams none = new WingTrams();
        Check.same("nobody", 0, none.years(5, 60, 0) + none.years(5, 60, 1));
        Check.same("all of nobody", 60, none.years(5, 60, 2));
    }

    private static void wrappingSeeds() {
        int[] nights = {1, 10, 59, 60};
        for (int[] seed : SEEDS) {
            for (int i = 0; i < nights.length; i++) {
                dryNights(seed[0], nights[i], seed[i + 1]);
            }
        }
    }

    private static void withoutNights() {
        WingTrams x = Check.told(DRY);
        for (int[] seed : SEEDS) {
            for (int what = 0; what < 3; what++) {
                Check.same("no nights, " + what, 0, x.years(seed[0], 0, what));
            }
        }
        Check.same("one night", 2, x.years(5, 1, 1));
    }

    private static void wrongYears() {
        WingTrams x = Check.told(DRY);
        Edges.noSuch("what", what -> x.years(5, 1, what), -1, 3, MOST);
        Edges.noSuch("what, ahead of n", what -> x.years(5, 61, what), -1, 3);
    }

    private static void wrongNights() {
        WingTrams x = Check.told(DRY);
        for (int what = 0; what < 3; what++) {
            int of = what;
            Edges.illegal("nights", n -> x.years(5, n, of), -1, 61, MOST);
        }
        Check.same("most", 43, x.years(5, 60, 2));
    }

    private static void lateness() {
        Edges.terms(4, 37, "LATE: the greatest number of minutes (0 to 60) by which an OWL could be later at its first ROOF",
            SnowEdges::minutesLate);
        Edges.terms(4, 37, "its MINUTE may be above 300 so", SnowEdges::above300);
        Edges.terms(4, 37, "so that as many RIDERS or more can be HOME as now", SnowEdges::asManyOrMore);
        Edges.promise(37, "LATE.", SnowEdges::lateOfNests);
    }

    private static void minutesLate() {
        for (int start = 270; start <= 290; start++) {
            WingTrams x = Check.told(RIDE + "tawny " + start + " 0 1;dawn 350;");
            Check.same("from " + start, Math.min(60, 338 - start), x.late(0));
        }
        Check.same("0", 0, Check.told(RIDE + "tawny 48 0 1;dawn 60;").late(0));
        Check.same("1", 1, Check.told(RIDE + "tawny 47 0 1;dawn 60;").late(0));
        Check.same("59", 59, Check.told(RIDE + "tawny 0 0 1;dawn 71;").late(0));
        Check.same("60", 60, Check.told(RIDE + "tawny 0 0 1;dawn 72;").late(0));
        Check.same("no more than 60", 60, Check.told(RIDE + "tawny 0 0 1;dawn 600;").late(0));
        // From 55 to 59 on it comes behind dawn, from 60 on it is there sooner, in another hour.
        Check.same("the greatest", 30, Check.told(RIDE.replace("hunts 2", "hunts 30*(hour=0)") + "tawny 54 0 1;"
            + "dawn 94;").late(0));
    }

    private static void above300() {
        Check.same("312 at the latest", 0, Check.told(RIDE + "tawny 300 0 1;dawn 312;").late(0));
        Check.same("313 at the latest", 1, Check.told(RIDE + "tawny 300 0 1;dawn 313;").late(0));
        Check.same("371 at the latest", 59, Check.told(RIDE + "tawny 300 0 1;dawn 371;").late(0));
        WingTrams x = Check.told(RIDE + "tawny 300 0 1;dawn 373;");
        Check.same("373 at the latest", 60, x.late(0));
        Check.same("its minute stays", 300, x.owl(0, 1));
        Check.same("no acts", 0, x.count(11));
    }

    private static void asManyOrMore() {
        String city = RIDE + "tawny 0 0 1;dawn 60;";
        Check.same("as many", 48, Check.told(city).late(0));
        Check.same("one more from 8 on", 48, Check.told(city + "rider 0 1 10 0;").late(0));
        Check.same("as many by another one", 60, Check.told(city + "tawny 20 0 1;").late(0));
        Check.same("one less from 11 on", 10, Check.told(city + "roof 0;flight 1 2 10;tawny 20 1 2;"
            + "rider 0 2 0 0;").late(0));
    }

    private static void lateOfNests() {
        WingTrams x = Check.told(RIDE + "tawny 48 0 1;tawny 0 1;dawn 60;");
        Check.same("whoever takes nobody", 60, x.late(1));
        Check.same("0", 0, x.late(0));
        x.nest(0, true);
        Check.same("it nests", 60, x.late(0));
        Check.same("nobody is home now", 60, x.late(1));
    }

    private static void bests() {
        Edges.terms(4, 38, "(of like ones none ahead of HUNTS in their order)", SnowEdges::likeRules);
        Edges.promise(38, "THE BEST rule; NONE: none is", SnowEdges::bestOrNone);
        Edges.terms(4, 39, "THE BEST MOON: likewise (of like ones the least)", SnowEdges::likeMoons);
        Edges.promise(39, "THE BEST MOON.", SnowEdges::leastAndMostMoon);
        Edges.terms(4, 40, "THE HUNTER: the OWL that catches most MICE (of like ones the least; none without OWLS)",
            SnowEdges::likeHunters);
        Edges.promise(40, "THE HUNTER; NONE: none", SnowEdges::noHunter);
    }

    /** Without a rule the owl comes at 62. */
    private static String rules(int dawn) {
        return "roof 0;roof 0;flight 0 1 10;tawny 50 0 1;rider 0 1 0 0;dawn " + dawn + ";";
    }

    private static void likeRules() {
        Check.same("none ahead of all", -1, Check.told(rules(62) + "hunts 0;hunts 1;").best());
        Check.same("the first of all", 0, Check.told(rules(61) + "hunts 0;hunts 1;").best());
        Check.same("the second of three", 1, Check.told(rules(61) + "hunts 9;hunts 1;hunts 0;").best());
        Check.same("the last of four", 3, Check.told(rules(60) + "hunts 9;hunts 2;hunts 1;hunts 0;").best());
        Check.same("none of them helps", -1, Check.told(rules(60) + "hunts 9;hunts 1;").best());
    }

    private static void bestOrNone() {
        Check.same("no hunts", -1, Check.told(rules(62)).best());
        Check.same("nothing at all", -1, new WingTrams().best());
        WingTrams x = Check.told(rules(61) + "hunts 9;hunts 1;");
        x.obey(0);
        Check.same("whichever is in force", 1, x.best());
        Check.same("in force still", 0, x.count(5));
        Check.same("no acts by asking", 1, x.count(11));
    }

    private static String moons(String rule) {
        return "roof 0;roof 0;flight 0 1 20;tawny 40 0 1;dawn 60;rider 0 1 0 0;hunts 30*(" + rule + ");";
    }

    private static void likeMoons() {
        Check.same("of all the least", 0, Check.told(moons("0")).bright());
        Check.same("of none the least", 0, Check.told(moons("1")).bright());
        Check.same("of two the least", 3, Check.told(moons("not (moon=3 or moon=6)")).bright());
        Check.same("of barn owls", 4, Check.told(moons("0").replace("tawny 40", "barn 50")).bright());
    }

    private static void leastAndMostMoon() {
        Check.same("0", 0, Check.told(moons("not moon=0")).bright());
        WingTrams x = Check.told(moons("not moon=7"));
        Check.same("7", 7, x.bright());
        Check.same("it stays", 0, x.count(7));
        x.moon(3);
        Check.same("whichever it is", 7, x.bright());
        Check.same("no acts by asking", 1, x.count(11));
        Check.same("no moon behind 7", 0, Check.told(moons("moon<8")).bright());
        Check.same("nothing at all", 0, new WingTrams().bright());
    }

    private static void likeHunters() {
        WingTrams x = Check.told("roof 1;roof 9;flight 0 1 5;tawny 0 0;tawny 0 0;tawny 0 1 0;tawny 0 1;hunts 1;");
        Check.same("of like ones the least", 0, x.hunter());
        x.grain(0, 9);
        Check.same("most", 2, x.hunter());
        x.nest(2, true);
        Check.same("of like ones the least", 0, x.hunter());
        x.nest(0, true);
        Check.same("the next one", 1, x.hunter());
        x.nest(1, true);
        Check.same("the last one", 3, x.hunter());
        x.nest(3, true);
        Check.same("all of them catch none", 0, x.hunter());
    }

    private static void noHunter() {
        Check.same("nothing at all", -1, new WingTrams().hunter());
        Check.same("no owls", -1, Check.told("roof 9;").hunter());
        Check.same("one that catches none", 0, Check.told("roof 0;tawny 0 0;").hunter());
    }
}
