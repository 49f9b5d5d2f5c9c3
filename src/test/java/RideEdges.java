/** Terms 2 and 3 of riders, promises 19 to 29 and 36: who gets home, by grain, straps and beams. */
final class RideEdges {
    private static final int MOST = Integer.MAX_VALUE;
    private static final String LINE = "roof 0;roof 0;roof 0;flight 0 1 10;flight 1 2 10;hunts 2;";
    /** Its owl is on roof 0 from 0 to 2, on roof 1 from 12 to 14, on roof 2 from 24 on. */
    private static final String ALONG = LINE + "tawny 0 0 1 2;";
    /** Its owl comes to roof 2 at 40, and 2 minutes sooner for each grain on roof 0 or 1. */
    private static final String LURE = "roof 0;roof 0;roof 0;flight 0 1 10;flight 1 2 10;tawny 0 0 1 2;"
        + "rider 0 2 0 0;rider 0 1 0 0;rider 2 2 30 0;hunts 10-mice;";
    private static final String PAIR = "roof 0;roof 0;flight 0 1 10;hunts 2;";
    private static final String BOTH = "rider 0 1 0 0;rider 0 1 0 0;";
    /** One of two owls comes to roof 1 as the third one leaves it, one later. */
    private static final String ONE_IN_TIME = LINE + "rider 0 2 0 0;tawny 2 0 1;tawny 5 0 1;tawny 12 1 2;";
    /** An owl comes to roof 1 as the other one leaves it, and once more. */
    private static final String TWICE_IN_TIME = LINE + "rider 0 2 0 0;tawny 2 0 1 0 1;tawny 12 1 2;";

    /** Two owls leave no mouse to the third one, which stays too long so to take the rider home. */
    private static final String WORTH_LESS = "roof 1;roof 0;flight 0 1 10;dawn 60;tawny 0 0;tawny 0 0;tawny 25 0 1;"
        + "rider 0 1 0 0;hunts 1+(mice=0)*29;";

    private RideEdges() {
    }

    static void all() {
        gettingHome();
        faresAndLastOwls();
        lures();
        beams();
        straps();
        worths();
        reaches();
    }

    private static void homes(String what, String city, int... due) {
        WingTrams x = Check.told(city);
        for (int rider = 0; rider < due.length; rider++) {
            Check.same(what + ", rider " + rider, due[rider], x.home(rider));
        }
    }

    private static void gettingHome() {
        Edges.terms(2, 19, "A RIDER can get on an OWL at a ROOF of its WAY at which he is by the minute in which it LEAVES it",
            RideEdges::gettingOn);
        Edges.terms(2, 19, "(not at its last one)", RideEdges::notAtTheLast);
        Edges.terms(2, 19, "off at any later one of it as it COMES there", RideEdges::gettingOff);
        Edges.terms(2, 19, "HOME: the soonest minute in which he can be there", RideEdges::soonest);
        Edges.terms(2, 19, "(in which he waits, if he is there already)", RideEdges::waiting);
        Edges.terms(2, 19, "changing as often as he likes", RideEdges::changing);
        Edges.terms(2, 19, "DAWN at the latest; never else", RideEdges::byDawn);
        Edges.terms(2, 20, "CHANGES: the fewest OWLS less 1 by which he can be HOME by DAWN", RideEdges::fewestOwls);
        Edges.terms(2, 20, "(0, if he is there already)", RideEdges::noChange);
        Edges.promise(19, "HOME: the minute; NONE: never", RideEdges::homeOrNever);
        Edges.promise(20, "CHANGES; NONE: never", RideEdges::changesOrNever);
        Edges.promise(23, "Who can never be HOME, as bits", RideEdges::neverBits);
    }

    private static void gettingOn() {
        homes("as it leaves, and a minute later", ALONG + "rider 0 2 2 0;rider 0 2 3 0;rider 1 2 14 0;rider 1 2 15 0;",
            24, -1, 24, -1);
        homes("as it comes, and ahead of that", ALONG + "rider 1 2 12 0;rider 1 2 0 0;", 24, 24);
        // The second owl stays on roof 1 from 20 to 25; the first one comes there as it leaves, or later.
        String change = LINE.replace("hunts 2", "hunts 5") + "rider 0 2 0 0;tawny 20 1 2;";
        homes("by an owl that comes as it leaves", change + "white 10 0 1;", 35);
        homes("by an owl that comes a minute later", change + "white 11 0 1;", -1);
        homes("it leaves as it comes", LINE.replace("hunts 2", "hunts 0") + "tawny 9 0 1;rider 0 1 9 0;"
            + "rider 0 1 10 0;", 19, -1);
    }

    private static void notAtTheLast() {
        homes("it goes no further", LINE + "tawny 0 0;tawny 0 0 1;rider 1 0 0 0;rider 1 2 0 0;", -1, -1);
        homes("back at its first one", LINE + "tawny 0 0 1 0;rider 0 1 2 0;rider 0 1 3 0;rider 1 0 14 0;", 12, -1, 24);
    }

    private static void gettingOff() {
        homes("as it comes", ALONG + "rider 0 1 0 0;rider 0 2 0 0;rider 1 2 0 0;", 12, 24, 24);
        homes("not at one ahead", ALONG + "rider 1 0 0 0;rider 2 0 0 0;rider 2 1 0 0;", -1, -1, -1);
        homes("at the next time it comes", LINE + "tawny 0 0 1 0 1;rider 0 1 0 0;rider 0 1 3 0;rider 0 1 26 0;"
            + "rider 0 1 27 0;",
            12, 36, 36, -1);
    }

    private static void soonest() {
        homes("the sooner of two", ALONG + "flight 0 2 21;white 0 0 2;rider 0 2 0 0;", 23);
        homes("of like ones", ALONG + "flight 0 2 22;white 0 0 2;rider 0 2 0 0;", 24);
        homes("by a change", LINE + "flight 0 2 60;white 0 0 2;tawny 0 0 1;tawny 0 1;barn 12 1 2;rider 0 2 0 0;", 24);
    }

    private static void waiting() {
        homes("from his minute on", ALONG + "dawn 600;rider 1 1 0 0;rider 1 1 7 0;rider 1 1 400 0;", 0, 7, 400);
        homes("without owls", "roof 0;rider 0 0 5 0;", 5);
        homes("on the last of ten roofs", Most.owls() + "rider 9 9 50 0;rider 9 2 50 0;", 50, -1);
    }

    /** Five white owls side by side, each a minute behind the one ahead of it. */
    private static WingTrams fiveOwls() {
        StringBuilder text = new StringBuilder("roof 0;".repeat(6) + "hunts 0;rider 0 5 0 0;");
        for (int i = 0; i < 5; i++) {
            text.append("flight ").append(i).append(' ').append(i + 1).append(" 1;");
            text.append("white ").append(i).append(' ').append(i).append(' ').append(i + 1).append(';');
        }
        return Check.told(text.toString());
    }

    private static void changing() {
        WingTrams x = fiveOwls();
        Check.same("by five owls", 5, x.home(0));
        Check.same("four changes", 4, x.changes(0));
        Check.same("the last one", 4, x.last(0));
        x.start(4, 3);
        Check.same("one left too soon", -1, x.home(0));
        WingTrams y = Check.told(Most.owls() + "rider 0 9 0 0;rider 2 9 81 0;rider 2 9 82 0;");
        Check.same("by two of five", 101, y.home(0));
        Check.same("one change", 1, y.changes(0));
        Check.same("two fares", 2, y.cheapest(0));
        Check.same("the last one", 4, y.last(0));
        Check.same("by the fifth", 101, y.home(1));
        Check.same("no change", 0, y.changes(1));
        Check.same("one fare", 1, y.cheapest(1));
        Check.same("left too soon", -1, y.home(2));
    }

    private static void byDawn() {
        String city = PAIR + "dawn 60;rider 0 1 0 0;rider 1 1 60 0;rider 1 1 61 0;";
        homes("in DAWN", city + "tawny 48 0 1;", 60, 60, -1);
        homes("a minute behind", city + "tawny 49 0 1;", -1, 60, -1);
        homes("in the latest one", PAIR + "dawn 400;rider 1 1 400 0;", 400);
        homes("behind 360", PAIR + "rider 1 1 360 0;rider 1 1 361 0;", 360, -1);
    }

    /** The white owl comes at 60 or 61, the tawny ones, with a change, at 24. */
    private static void fewestOwls() {
        String city = LINE + "dawn 60;flight 0 2 50;tawny 0 0 1;tawny 12 1 2;rider 0 2 0 0;";
        WingTrams x = Check.told(city + "white 8 0 2;");
        Check.same("one owl, in DAWN", 0, x.changes(0));
        Check.same("two are sooner", 24, x.home(0));
        Check.same("two owls", 1, Check.told(city + "white 9 0 2;").changes(0));
        Check.same("by the sooner of two", 1, Check.told(ONE_IN_TIME).changes(0));
        Check.same("by the first time of two", 1, Check.told(TWICE_IN_TIME).changes(0));
    }

    private static void noChange() {
        WingTrams x = Check.told(ALONG + "dawn 60;rider 1 1 60 0;rider 1 1 0 0;rider 0 1 0 0;");
        Check.same("there in DAWN", 0, x.changes(0));
        Check.same("there from 0 on", 0, x.changes(1));
        Check.same("by one owl", 0, x.changes(2));
    }

    private static void homeOrNever() {
        WingTrams x = Check.told(ALONG + "rider 0 2 0 0;rider 2 0 0 0;");
        Check.same("the minute", 24, x.home(0));
        Check.same("never", -1, x.home(1));
        x.nest(0, true);
        Check.same("never, without owls", -1, x.home(0));
    }

    private static void changesOrNever() {
        WingTrams x = Check.told(ALONG + "dawn 60;rider 0 2 0 0;rider 2 0 0 0;rider 1 1 61 0;");
        Check.same("none", 0, x.changes(0));
        Check.same("never", -1, x.changes(1));
        Check.same("there behind DAWN", -1, x.changes(2));
        x.start(0, 37);
        Check.same("behind DAWN", -1, x.changes(0));
    }

    private static void neverBits() {
        Check.same("nobody is there", 0, Check.told(ALONG).never());
        Check.same("one is home", 0, Check.told(ALONG + "rider 0 2 0 0;").never());
        Check.same("all of eight", 255, Check.told(ALONG + "rider 2 0 0 0;".repeat(8)).never());
        Check.same("none of eight", 0, Check.told(ALONG + "rider 0 2 0 0;".repeat(8)).never());
        Check.same("the last one", 2, Check.told(ALONG + "rider 0 2 2 0;rider 0 2 3 0;").never());
        Check.same("behind DAWN", 1, Check.told(PAIR + "rider 1 1 361 0;rider 1 1 360 0;").never());
    }

    private static void faresAndLastOwls() {
        Edges.terms(3, 21, "a tawny owl takes 1 FUR for each ride from where one gets on to where one gets off, a barn owl 2,"
            + " a white one 3", RideEdges::fares);
        Edges.terms(3, 21, "CHEAPEST: the fewest FUR by which one can be HOME by DAWN", RideEdges::cheapest);
        Edges.terms(3, 21, "(0, if he is there already; whatever he has)", RideEdges::whateverHeHas);
        Edges.promise(21, "CHEAPEST; NONE: none", RideEdges::noFare);
        Edges.terms(3, 22, "the least one on which he can come HOME in that minute which is the soonest",
            RideEdges::lastOwls);
        Edges.terms(3, 22, "none (also if he is there already)", RideEdges::noLastOwl);
        Edges.promise(22, "THE LAST OWL; NONE: none", RideEdges::lastOrNone);
    }

    private static void fares() {
        String[] kinds = {"tawny", "barn", "white"};
        for (int kind = 0; kind < 3; kind++) {
            String city = LINE + "rider 0 2 0 9;";
            Check.same("one ride over two flights", kind + 1, Check.told(city + kinds[kind] + " 0 0 1 2;").cheapest(0));
            Check.same("two rides", kind + 2, Check.told(city + kinds[kind] + " 0 0 1;tawny 12 1 2;").cheapest(0));
        }
        Check.same("five white owls", 15, fiveOwls().cheapest(0));
    }

    /** The tawny owl comes at 60 or 61, the others at 24, for 2 and 3. */
    private static void cheapest() {
        String city = LINE + "dawn 60;flight 0 2 50;barn 0 0 1;white 12 1 2;rider 0 2 0 0;";
        Check.same("one tawny owl, in DAWN", 1, Check.told(city + "tawny 8 0 2;").cheapest(0));
        Check.same("two others", 5, Check.told(city + "tawny 9 0 2;").cheapest(0));
        Check.same("by the sooner of two", 2, Check.told(ONE_IN_TIME).cheapest(0));
        Check.same("by the first time of two", 2, Check.told(TWICE_IN_TIME).cheapest(0));
        Check.same("two for less than one", 2, Check.told(LINE + "white 0 0 1 2;tawny 0 0 1;tawny 12 1 2;"
            + "rider 0 2 0 0;").cheapest(0));
    }

    private static void whateverHeHas() {
        WingTrams x = Check.told(LINE + "dawn 60;white 0 0 1 2;rider 1 1 60 0;rider 1 1 0 9;rider 0 2 0 0;"
            + "rider 0 2 0 9;");
        int[] due = {0, 0, 3, 3};
        for (int rider = 0; rider < 4; rider++) {
            Check.same("rider " + rider, due[rider], x.cheapest(rider));
        }
    }

    private static void noFare() {
        WingTrams x = Check.told(ALONG + "dawn 60;rider 0 2 0 9;rider 2 0 0 9;rider 1 1 61 9;");
        Check.same("one", 1, x.cheapest(0));
        Check.same("none", -1, x.cheapest(1));
        Check.same("there behind DAWN", -1, x.cheapest(2));
        x.start(0, 37);
        Check.same("behind DAWN", -1, x.cheapest(0));
    }

    private static void lastOwls() {
        String city = LINE + "flight 0 2 22;rider 0 2 0 0;";
        Check.same("the least of like ones", 0, Check.told(city + "white 0 0 2;tawny 0 0 1 2;").last(0));
        Check.same("the least of like ones", 0, Check.told(city + "tawny 0 0 1 2;white 0 0 2;").last(0));
        Check.same("the sooner one", 1, Check.told(city + "white 1 0 2;tawny 0 0 1 2;").last(0));
        Check.same("not one that he can't be on", 1, Check.told(city + "barn 12 1 2;white 0 0 2;").last(0));
        Check.same("one that leaves as he comes", 1, Check.told(city + "tawny 0 0 1;barn 12 1 2;white 0 0 2;").last(0));
        Check.same("the first of five", 0, Check.told(city + "tawny 0 0 1 2;".repeat(5)).last(0));
        // The owl 0 comes to roof 1 at 36 in the city ahead alone, the owl 1 in both.
        WingTrams x = Check.told(LINE + "flight 0 2 22;rider 0 1 0 0;tawny 0 0 2 1;tawny 24 0 1;");
        Check.same("the least of like ones", 0, x.last(0));
        Check.tell(x, LINE + "flight 0 2 22;rider 0 1 0 0;tawny 0 0 2;tawny 24 0 1;");
        Check.same("no further than it goes", 1, x.last(0));
    }

    private static void noLastOwl() {
        WingTrams x = Check.told(ALONG + "tawny 0 1 0 1;dawn 60;rider 1 1 0 0;rider 1 1 60 0;rider 1 1 61 0;");
        for (int rider = 0; rider < 3; rider++) {
            Check.same("rider " + rider, -1, x.last(rider));
        }
    }

    private static void lastOrNone() {
        WingTrams x = Check.told(ALONG + "dawn 60;rider 0 2 0 0;rider 2 0 0 0;");
        Check.same("one", 0, x.last(0));
        Check.same("none", -1, x.last(1));
        x.start(0, 36);
        Check.same("in DAWN", 0, x.last(0));
        x.start(0, 37);
        Check.same("behind DAWN", -1, x.last(0));
    }

    private static void lured(WingTrams x, int riders, int minute, int due, int... row) {
        Check.same("lure " + riders + " by " + minute, due, x.lure(riders, minute));
        for (int roof = 0; roof < row.length; roof++) {
            Check.same("lure " + riders + " by " + minute + ", roof " + roof, row[roof], x.more(roof));
        }
    }

    private static void lures() {
        Edges.terms(3, 24, "the fewest GRAINS more (0 to 3, on any ROOFS, none above 9)", RideEdges::threeGrains);
        Edges.terms(3, 24, "none above 9", RideEdges::noneAboveNine);
        Edges.terms(3, 24, "so that all of them can be HOME by then", RideEdges::allOfThem);
        Edges.terms(3, 24, "(DAWN at the latest)", RideEdges::luredByDawn);
        Edges.terms(3, 25, "of like ones the first as a row of GRAINS more by ROOFS; none", RideEdges::firstRow);
        Edges.promise(24, "LURE: how many GRAINS; the row is kept", RideEdges::rowIsKept);
        Edges.promise(24, "NONE: none (what is kept stays)", RideEdges::keptStays);
        Edges.promise(24, "IllegalArgumentException: bits of RIDERS that there aren't, a minute below 0",
            RideEdges::wrongLures);
        Edges.promise(25, "GRAINS more on a ROOF by the row that is kept", RideEdges::rowOfTen);
        Edges.promise(25, "NoSuchElementException: also none is kept", RideEdges::noRow);
    }

    private static void threeGrains() {
        WingTrams x = Check.told(LURE);
        int[][] due = {{40, 0}, {39, 1}, {38, 1}, {37, 2}, {36, 2}, {35, 3}, {34, 3}, {33, -1}};
        for (int[] minute : due) {
            lured(x, 1, minute[0], minute[1]);
        }
        lured(x, 2, 14, 3, 3, 0, 0);
        lured(x, 2, 13, -1);
    }

    private static void noneAboveNine() {
        WingTrams x = Check.told(LURE.replace("10-mice", "30-mice"));
        x.grain(1, 8);
        lured(x, 1, 62, 1, 0, 1, 0);
        lured(x, 1, 60, 2, 1, 1, 0);
        lured(x, 1, 58, 3, 2, 1, 0);
        x.grain(1, 9);
        lured(x, 1, 60, 1, 1, 0, 0);
        x.grain(0, 9);
        lured(x, 1, 44, 0, 0, 0, 0);
        lured(x, 1, 43, -1);
    }

    private static void allOfThem() {
        WingTrams x = Check.told(LURE);
        lured(x, 2, 20, 0, 0, 0, 0);
        lured(x, 2, 19, 1, 1, 0, 0);
        lured(x, 3, 20, -1);
        lured(x, 3, 36, 2, 0, 2, 0);
        lured(x, 5, 30, -1);
        lured(x, 4, 30, 0, 0, 0, 0);
        lured(x, 4, 29, -1);
        lured(x, 7, 40, 0, 0, 0, 0);
        lured(x, 0, 0, 0, 0, 0, 0);
    }

    /** Without grain the owl comes to roof 2 at 80. */
    private static void luredByDawn() {
        String city = LURE.replace("10-mice", "30-mice");
        WingTrams x = Check.told(city + "dawn 76;");
        for (int minute : new int[] {MOST, 1000, 77, 76}) {
            lured(x, 1, minute, 2, 0, 2, 0);
        }
        lured(x, 1, 75, 3, 0, 3, 0);
        lured(Check.told(city + "dawn 74;"), 1, MOST, 3, 0, 3, 0);
        lured(Check.told(city + "dawn 73;"), 1, MOST, -1);
    }

    private static void firstRow() {
        WingTrams x = Check.told(LURE);
        lured(x, 1, 38, 1, 0, 1, 0);
        lured(x, 1, 36, 2, 0, 2, 0);
        lured(x, 1, 34, 3, 0, 3, 0);
        WingTrams y = Check.told(LURE.replace("0 0 1 2", "0 2 1 0").replace("rider 0 2", "rider 2 0"));
        lured(y, 1, 38, 1, 0, 0, 1);
        lured(y, 1, 34, 3, 0, 0, 3);
        // The last roof takes one grain more, the one ahead of it two.
        WingTrams z = Check.told(LURE.replace("0 0 1 2", "0 2 1 0").replace("rider 0 2", "rider 2 0").replace("10-",
            "30-"));
        z.grain(2, 8);
        lured(z, 1, 58, 3, 0, 2, 1);
    }

    private static void rowIsKept() {
        WingTrams x = Check.told(LURE);
        lured(x, 1, 36, 2, 0, 2, 0);
        x.home(0);
        x.grain(1, 9);
        x.undo();
        x.image();
        x.restore();
        Check.same("kept", 2, x.more(1));
        lured(x, 1, 40, 0, 0, 0, 0);
        Check.same("no act", 0, x.count(11));
        Check.same("grain stays", 0, x.roof(1, 0));
    }

    private static void keptStays() {
        WingTrams x = Check.told(LURE);
        lured(x, 2, 14, 3, 3, 0, 0);
        lured(x, 1, 33, -1, 3, 0, 0);
        lured(x, 7, 29, -1, 3, 0, 0);
        Edges.illegal("riders", riders -> x.lure(riders, 9), 8);
        Check.same("behind what throws, too", 3, x.more(0));
    }

    private static void wrongLures() {
        WingTrams x = Check.told(LURE);
        Edges.illegal("riders", riders -> x.lure(riders, 99), 8, 15, 256, -1, MOST);
        Edges.illegal("minute", minute -> x.lure(1, minute), -1);
        Edges.illegal("minute of nobody", minute -> x.lure(0, minute), -1);
        Check.same("all riders", 0, x.lure(7, 99));
        WingTrams eight = Check.told("roof 0;" + "rider 0 0 0 0;".repeat(8));
        Check.same("all of eight", 0, eight.lure(255, 0));
        Edges.illegal("riders of eight", riders -> eight.lure(riders, 0), 256, -1);
        WingTrams none = new WingTrams();
        Check.same("of none", 0, none.lure(0, 0));
        Edges.illegal("riders of none", riders -> none.lure(riders, 0), 1);
    }

    /** Three grains bring the owl home; the last roof of ten is its first. */
    private static void rowOfTen() {
        WingTrams x = Check.told("roof 0;".repeat(10) + "flight 9 0 10;tawny 0 9 0;rider 9 0 0 0;hunts 10-mice;");
        lured(x, 1, 14, 3, 0, 0, 0, 0, 0, 0, 0, 0, 0, 3);
        Edges.noSuch("more", roof -> x.more(roof), 10, -1, MOST);
    }

    private static void noRow() {
        WingTrams x = Check.told(LURE);
        Edges.noSuch("more", roof -> x.more(roof), 0, 1, 2, 3);
        lured(x, 1, 33, -1);
        Edges.noSuch("more, behind none", roof -> x.more(roof), 0);
        lured(x, 0, 0, 0, 0, 0, 0);
        Check.tell(x, LURE);
        Edges.noSuch("more, of another city", roof -> x.more(roof), 0);
        WingTrams none = new WingTrams();
        none.lure(0, 0);
        Edges.noSuch("more, without roofs", roof -> none.more(roof), 0);
    }

    private static void beamed(WingTrams x, int many, int minutes, int riders, int set) {
        Check.same("beams " + many + " by " + minutes, riders, x.beams(many, minutes, 0));
        Check.same("set of " + many + " by " + minutes, set, x.beams(many, minutes, 1));
    }

    private static void beams() {
        Edges.terms(3, 26, "of all sets of so many ROOFS (0 to 10)", RideEdges::setsOfRoofs);
        Edges.terms(3, 26, "no more than so many minutes of FLIGHTS (as told, one behind the other; 0 to 200)",
            RideEdges::soManyMinutes);
        Edges.terms(3, 26, "how many; the least as bits", RideEdges::leastBits);
        Edges.terms(3, 26, "none, if there are not so many ROOFS", RideEdges::notSoManyRoofs);
        Edges.promise(26, "how many RIDERS (what 0; NONE: none), the set as bits (1; NONE: none)",
            RideEdges::beamsOrNone);
        Edges.promise(26, "NoSuchElementException: another what", RideEdges::wrongBeams);
        Edges.promise(26, "IllegalArgumentException (behind that): how many, minutes", RideEdges::tooManyBeams);
    }

    private static String ten() {
        StringBuilder text = new StringBuilder("roof 0;".repeat(10));
        for (int roof = 2; roof < 10; roof++) {
            text.append("rider 0 ").append(roof).append(" 0 0;");
        }
        return text.toString();
    }

    private static void setsOfRoofs() {
        WingTrams x = Check.told(ten());
        beamed(x, 0, 0, 0, 0);
        beamed(x, 0, 200, 0, 0);
        beamed(x, 1, 0, 1, 4);
        beamed(x, 7, 0, 7, 508);
        beamed(x, 8, 0, 8, 1020);
        beamed(x, 9, 0, 8, 1021);
        beamed(x, 10, 0, 8, 1023);
        beamed(x, 10, 200, 8, 1023);
        beamed(new WingTrams(), 0, 0, 0, 0);
    }

    private static void soManyMinutes() {
        String far = "roof 0;".repeat(5) + "flight 0 1 60;flight 2 1 60;flight 2 3 60;flight 4 3 20;";
        WingTrams x = Check.told(far + "rider 0 0 0 0;rider 0 4 0 0;");
        beamed(x, 1, 0, 1, 1);
        beamed(x, 1, 200, 2, 1);
        beamed(x, 1, 199, 2, 2);
        beamed(x, 1, 120, 2, 4);
        beamed(x, 1, 119, 1, 1);
        beamed(x, 1, 19, 1, 1);
        x.wet(true);
        beamed(x, 1, 200, 2, 1);
        x.moon(7);
        beamed(x, 1, 119, 1, 1);
        // From roof 1 to roof 2 by roof 0.
        WingTrams w = Check.told("roof 0;roof 0;roof 0;roof 0;flight 1 0 10;flight 0 2 10;flight 1 3 20;"
            + "rider 0 2 0 0;rider 0 3 0 0;");
        beamed(w, 1, 20, 2, 2);
        beamed(w, 1, 19, 1, 1);
        // Two flights of 20 are a shorter way than the one of 50.
        WingTrams y = Check.told("roof 0;roof 0;roof 0;flight 0 1 20;flight 1 2 20;flight 0 2 50;rider 0 2 0 0;"
            + "rider 0 0 0 0;");
        beamed(y, 1, 40, 2, 1);
        beamed(y, 1, 39, 2, 2);
        beamed(y, 1, 19, 1, 1);
    }

    private static void leastBits() {
        String four = "roof 0;roof 0;roof 0;roof 0;";
        WingTrams x = Check.told(four + "rider 0 3 0 0;rider 0 3 0 0;rider 0 1 0 0;rider 0 2 0 0;");
        beamed(x, 1, 0, 2, 8);
        beamed(x, 2, 0, 3, 10);
        beamed(x, 3, 0, 4, 14);
        beamed(x, 4, 0, 4, 15);
        beamed(Check.told(four), 2, 0, 0, 3);
    }

    private static void notSoManyRoofs() {
        WingTrams x = Check.told("roof 0;roof 0;rider 0 1 0 0;");
        beamed(x, 2, 0, 1, 3);
        beamed(x, 3, 0, -1, -1);
        beamed(x, 10, 200, -1, -1);
        beamed(new WingTrams(), 1, 0, -1, -1);
    }

    private static void beamsOrNone() {
        WingTrams x = Check.told("roof 0;rider 0 0 0 0;");
        beamed(x, 1, 0, 1, 1);
        beamed(x, 2, 0, -1, -1);
        beamed(x, 0, 0, 0, 0);
        beamed(Check.told("roof 0;"), 1, 0, 0, 1);
    }

    private static void wrongBeams() {
        WingTrams x = Check.told("roof 0;");
        Edges.noSuch("what", what -> x.beams(1, 0, what), -1, 2, MOST);
        Edges.noSuch("what, ahead of how many", what -> x.beams(11, 0, what), -1, 2);
        Edges.noSuch("what, ahead of minutes", what -> x.beams(1, 201, what), -1, 2);
    }

    private static void tooManyBeams() {
        WingTrams x = Check.told(ten());
        for (int what = 0; what < 2; what++) {
            int of = what;
            Edges.illegal("how many", many -> x.beams(many, 0, of), -1, 11, MOST);
            Edges.illegal("minutes", minutes -> x.beams(1, minutes, of), -1, 201, MOST);
        }
        Check.same("most of both", 8, x.beams(10, 200, 0));
    }

    private static void straps() {
        Edges.terms(3, 27, "each OWL takes so many RIDERS (1 to 8) at a time", RideEdges::atATime);
        Edges.terms(3, 27, "RIDER by RIDER each takes, without a change, an OWL by which he is HOME by DAWN",
            RideEdges::riderByRider);
        Edges.terms(3, 27, "on at the last one ahead of that at which he can", RideEdges::onAtTheLast);
        Edges.terms(3, 27, "if less than so many are on it from each to the next of these", RideEdges::lessThanSoMany);
        Edges.terms(3, 27, "that by which he is HOME soonest (of like ones the least OWL); none else",
            RideEdges::soonestOwl);
        Edges.terms(3, 27, "(those who are there already, by DAWN, take none)", RideEdges::thereAlready);
        Edges.promise(27, "STRAPS: how many", RideEdges::howManyStrapped);
        Edges.promise(27, "IllegalArgumentException: not 1 to 8", RideEdges::wrongStraps);
    }

    private static void atATime() {
        WingTrams x = Check.told(PAIR + "tawny 0 0 1;" + "rider 0 1 0 0;".repeat(8));
        for (int many = 1; many <= 8; many++) {
            Check.same("straps " + many, many, x.straps(many));
        }
        WingTrams five = Check.told(Most.owls() + "rider 2 5 81 0;rider 5 9 0 0;rider 8 9 0 0;rider 2 9 0 0;");
        Check.same("a strap on the fifth", 2, five.straps(1));
        Check.same("two on the fifth", 3, five.straps(2));
        Check.same("three on the fifth", 4, five.straps(3));
        WingTrams y = Check.told(ALONG + "rider 0 1 0 0;rider 1 2 0 0;");
        Check.same("one off, one on", 2, y.straps(1));
        WingTrams z = Check.told(ALONG + "rider 1 2 0 0;rider 0 1 0 0;");
        Check.same("one on, one off", 2, z.straps(1));
    }

    private static void riderByRider() {
        Check.same("the first ones", 1, Check.told(ALONG + "rider 0 2 0 0;rider 0 1 0 0;rider 1 2 0 0;").straps(1));
        Check.same("in another order", 2, Check.told(ALONG + "rider 0 1 0 0;rider 1 2 0 0;rider 0 2 0 0;").straps(1));
        Check.same("no changes", 0, Check.told(LINE + "tawny 0 0 1;tawny 12 1 2;rider 0 2 0 0;").straps(8));
        String dawn = PAIR + "dawn 60;" + BOTH;
        Check.same("in DAWN", 2, Check.told(dawn + "tawny 48 0 1;").straps(8));
        Check.same("behind DAWN", 0, Check.told(dawn + "tawny 49 0 1;").straps(8));
        Check.same("the second time is behind DAWN", 1, Check.told(dawn + "tawny 34 0 1 0 1;").straps(1));
        Check.same("the second time is in DAWN", 2, Check.told(dawn + "tawny 24 0 1 0 1;").straps(1));
    }

    /** So the first flight stays free for the second rider. */
    private static void onAtTheLast() {
        Check.same("on at the second time", 2, Check.told(LINE + "tawny 0 0 1 0 1 2;rider 0 2 0 0;"
            + "rider 0 1 0 0;").straps(1));
        Check.same("in the minute it leaves", 1, Check.told(PAIR + "tawny 0 0 1;rider 0 1 2 0;").straps(1));
        Check.same("a minute later", 0, Check.told(PAIR + "tawny 0 0 1;rider 0 1 3 0;").straps(1));
        Check.same("not at its last one", 0, Check.told(PAIR + "tawny 0 0 1 0;rider 0 1 3 0;").straps(1));
        Check.same("behind owls that go nowhere", 1, Check.told(PAIR + "tawny 0 1;tawny 0 1;tawny 0 0 1;"
            + "rider 0 1 0 0;").straps(1));
    }

    private static void lessThanSoMany() {
        Check.same("full on the first flight", 1, Check.told(ALONG + "rider 0 1 0 0;rider 0 2 0 0;").straps(1));
        Check.same("full on the last flight", 1, Check.told(ALONG + "rider 1 2 0 0;rider 0 2 0 0;").straps(1));
        Check.same("two straps", 2, Check.told(ALONG + "rider 1 2 0 0;rider 0 2 0 0;").straps(2));
        Check.same("a later time", 2, Check.told(PAIR + "tawny 0 0 1 0 1;" + BOTH).straps(1));
        Check.same("full both times", 2, Check.told(PAIR + "tawny 0 0 1 0 1;" + BOTH + BOTH).straps(1));
        Check.same("full both times, of two", 4, Check.told(PAIR + "tawny 0 0 1 0 1;" + BOTH + BOTH + BOTH).straps(2));
    }

    private static void soonestOwl() {
        String riders = "rider 0 1 0 0;rider 0 2 0 0;";
        Check.same("the sooner one is the long way", 1, Check.told(LINE + "tawny 5 0 1;tawny 0 0 1 2;"
            + riders).straps(1));
        Check.same("the later one is", 2, Check.told(LINE + "tawny 0 0 1;tawny 5 0 1 2;" + riders).straps(1));
        Check.same("the least of like ones is", 1, Check.told(LINE + "tawny 0 0 1 2;tawny 0 0 1;" + riders).straps(1));
        Check.same("the other of like ones is", 2, Check.told(LINE + "tawny 0 0 1;tawny 0 0 1 2;" + riders).straps(1));
        Check.same("none", 0, Check.told(LINE + "tawny 0 1 2;" + riders).straps(8));
    }

    private static void thereAlready() {
        Check.same("they take none", 4, Check.told(PAIR + "tawny 0 0 1 0;rider 1 1 0 0;rider 0 0 0 0;"
            + "rider 0 1 0 0;rider 1 0 0 0;").straps(1));
        Check.same("in DAWN", 1, Check.told(PAIR + "dawn 60;rider 1 1 60 0;").straps(1));
        Check.same("behind DAWN", 0, Check.told(PAIR + "dawn 60;rider 1 1 61 0;").straps(1));
    }

    private static void howManyStrapped() {
        Check.same("no riders", 0, Check.told(ALONG).straps(8));
        Check.same("nothing at all", 0, new WingTrams().straps(1));
        WingTrams x = Check.told(PAIR + "tawny 0 0 1;" + "rider 0 1 0 0;".repeat(8));
        Check.same("all of eight", 8, x.straps(8));
        Check.same("one, asked again", 1, x.straps(1));
        x.nest(0, true);
        Check.same("it nests", 0, x.straps(8));
    }

    private static void wrongStraps() {
        WingTrams x = Check.told(PAIR + "tawny 0 0 1;" + BOTH);
        Edges.illegal("straps", x::straps, 0, -1, 9, MOST);
        Check.same("least", 1, x.straps(1));
        Check.same("most", 2, x.straps(8));
    }

    private static void worths() {
        Edges.terms(3, 28, "how many RIDERS can be HOME now less how many can, did it nest (0, if it does)",
            RideEdges::worth);
        Edges.terms(3, 29, "VITAL: OWLS that are WORTH more than 0, as bits", RideEdges::moreThanNone);
        Edges.promise(28, "WORTH.", RideEdges::leastAndMostWorth);
        Edges.promise(29, "VITAL, as bits.", RideEdges::vitalBits);
    }

    private static void worth() {
        WingTrams x = Check.told(PAIR + "tawny 0 0 1;tawny 0 0 1;" + BOTH);
        Check.same("the other takes them", 0, x.worth(0));
        x.nest(0, true);
        Check.same("it nests", 0, x.worth(0));
        Check.same("it takes them", 2, x.worth(1));
        Check.same("nobody nests by asking", 1, x.count(9));
        Check.same("no acts by asking", 1, x.count(11));
    }

    private static void moreThanNone() {
        WingTrams x = Check.told(WORTH_LESS);
        Check.same("less than 0", -1, x.worth(0));
        Check.same("0", 0, x.worth(2));
        Check.same("none of them", 0, x.vital());
        x.nest(0, true);
        Check.same("0", 0, x.worth(1));
        Check.same("1", 1, x.worth(2));
        Check.same("the one", 4, x.vital());
    }

    private static void leastAndMostWorth() {
        Check.same("all of eight", 8, Check.told(PAIR + "tawny 0 0 1;" + "rider 0 1 0 0;".repeat(8)).worth(0));
        Check.same("no riders", 0, Check.told(ALONG).worth(0));
        Check.same("who is there already", 0, Check.told(ALONG + "rider 1 1 0 0;").worth(0));
        WingTrams x = Check.told(PAIR + "dawn 60;tawny 48 0 1;rider 0 1 0 0;");
        Check.same("in DAWN", 1, x.worth(0));
        x.start(0, 49);
        Check.same("behind DAWN", 0, x.worth(0));
    }

    private static void vitalBits() {
        StringBuilder five = new StringBuilder("roof 0;".repeat(6) + "hunts 0;");
        for (int other = 1; other <= 5; other++) {
            five.append("flight 0 ").append(other).append(" 5;tawny 0 0 ").append(other).append(';');
            five.append("rider 0 ").append(other).append(" 0 0;");
        }
        WingTrams x = Check.told(five.toString());
        Check.same("all of five", 31, x.vital());
        x.nest(0, true);
        Check.same("not one that nests", 30, x.vital());
        Check.same("no owls", 0, Check.told("roof 0;rider 0 0 0 0;").vital());
        Check.same("nothing at all", 0, new WingTrams().vital());
    }

    private static void reaches() {
        Edges.terms(4, 36, "ROOFS on which he can be by then", RideEdges::byThen);
        Edges.terms(4, 36, "(not asking for DAWN; none ahead of his MINUTE), as bits", RideEdges::notAskingForDawn);
        Edges.promise(36, "REACH, as bits", RideEdges::reachBits);
    }

    private static void byThen() {
        WingTrams x = Check.told(ALONG + "rider 0 0 0 0;rider 0 0 3 0;rider 1 1 14 0;");
        int[][] due = {{0, 1, 0, 0}, {11, 1, 1, 0}, {12, 3, 1, 0}, {14, 3, 1, 2}, {23, 3, 1, 2}, {24, 7, 1, 6},
            {MOST, 7, 1, 6}};
        for (int[] minute : due) {
            for (int rider = 0; rider < 3; rider++) {
                Check.same("rider " + rider + " by " + minute[0], minute[rider + 1], x.reach(rider, minute[0]));
            }
        }
    }

    private static void notAskingForDawn() {
        WingTrams x = Check.told(ALONG + "dawn 60;rider 0 0 0 0;rider 2 2 400 0;");
        x.start(0, 300);
        Check.same("behind DAWN", 3, x.reach(0, 312));
        Check.same("behind DAWN", 7, x.reach(0, 324));
        Check.same("ahead of his minute", 0, x.reach(1, 399));
        Check.same("in his minute", 4, x.reach(1, 400));
        Check.same("ahead of the night", 0, x.reach(0, -1));
        Check.same("in its first minute", 1, x.reach(0, 0));
        Check.same("the least int", 0, x.reach(0, Integer.MIN_VALUE));
        Check.same("the greatest int", 4, x.reach(1, MOST));
    }

    private static void reachBits() {
        StringBuilder text = new StringBuilder("roof 0;".repeat(10) + "hunts 0;rider 9 0 0 0;");
        for (int roof = 0; roof < 9; roof++) {
            text.append("flight ").append(roof).append(' ').append(roof + 1).append(" 1;");
        }
        WingTrams x = Check.told(text + "tawny 0 9 8 7 6 5 4 3 2;tawny 0 2 1 0;tawny 7 2 1;tawny 9 2 1 0;");
        Check.same("the last alone", 512, x.reach(0, 0));
        Check.same("but one", 1022, x.reach(0, 9));
        Check.same("all of ten", 1023, x.reach(0, 11));
        x.nest(0, true);
        Check.same("the last alone", 512, x.reach(0, MOST));
        for (int owl = 0; owl < 5; owl++) {
            onOneOwl(owl);
        }
    }

    /** One of five owls is on roofs 0 and 1, the others on 2 and 3. */
    private static void onOneOwl(int which) {
        StringBuilder text = new StringBuilder("roof 0;roof 0;roof 0;roof 0;flight 0 1 1;flight 2 3 1;hunts 0;"
            + "rider 0 1 0 0;");
        for (int owl = 0; owl < 5; owl++) {
            text.append(owl == which ? "tawny 0 0 1 0 1 0 1 0 1;" : "tawny 0 2 3 2 3 2 3 2 3;");
        }
        WingTrams x = Check.told(text.toString());
        Check.same("on one owl", 3, x.reach(0, MOST));
        Check.same("home by it", which, x.last(0));
        Check.same("none but it", 1 << which, x.vital());
    }
}
