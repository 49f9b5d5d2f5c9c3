/** The sentences that name no boundary, so that all of the document has been quoted, from its first line on. */
final class PlainEdges {
    private static final String TWO = "roof 0;roof 0;";
    private static final String LINE = "roof 0;roof 0;roof 0;flight 0 1 10;flight 1 2 10;hunts 2;";
    /** Its owl comes to roof 1 at 20, to roof 2 at 40, without grain. */
    private static final String LURE = "roof 0;roof 0;roof 0;flight 0 1 10;flight 1 2 10;tawny 0 0 1 2;"
        + "rider 0 2 0 0;rider 0 1 0 0;rider 2 2 30 0;hunts 10-mice;";

    private PlainEdges() {
    }

    static void all() {
        Edges.intro(1, "An object is used for at most 512 calls after it has been made", PlainEdges::lastCall);
        texts();
        nights();
        plans();
        years();
    }

    private static void lastCall() {
        WingTrams x = new WingTrams();
        Check.feed(x, "roof 1;tawny 5 0;rider 0 0 9 0;roof 0;");
        Check.same("the fourth call", 0, x.city(38));
        for (int call = 5; call < 511; call++) {
            Check.same("call " + call, call == 5 ? 5 : (call - 1) % 300, x.start(0, call % 300));
        }
        Check.same("call 511", 40, x.count(11));
        Check.same("call 512", 39, x.undo());
    }

    private static void texts() {
        Edges.terms(1, 3, "In quotes is what stands there, [ ] perhaps, * any number of times, | one of some",
            PlainEdges::notation);
        Edges.terms(1, 10, "a ROOF, HOME (a ROOF)", PlainEdges::homesOfRiders);
        Edges.terms(1, 3, "LINE: ('roof' GRAIN | 'flight' ROOF ROOF MINUTES |", PlainEdges::roofsAndFlights);
        Edges.terms(1, 3, "'rider' ROOF HOME MINUTE FUR | 'dawn' NUMBER |", PlainEdges::ridersAndDawn);
        Edges.terms(1, 3, "2 one that can, but is too much", PlainEdges::thatCan);
        Edges.terms(1, 9, "VALUES of an OWL that comes to a ROOF", PlainEdges::valuesOfOwls);
        Edges.promise(8, "0 KIND", PlainEdges::kindsOfOwls);
    }

    private static void notation() {
        Check.hunts("3", 3);
        Check.hunts("3<4", 1);
        Check.hunts("3+3+3+3+3", 15);
        Check.same("no lines", 0, Check.told("").count(0));
        Check.same("nine lines", 9, Check.told("roof 1;".repeat(9)).count(0));
        Check.fault("hunts 1 < = 2;", 1, 10);
        Check.fault("'roof' 1;", 1, 0);
        Check.fault("roof [1];", 1, 5);
    }

    private static void numbersOf(WingTrams x, int rider, int... due) {
        for (int what = 0; what < 4; what++) {
            Check.same("rider " + rider + ", " + what, due[what], x.rider(rider, what));
        }
    }

    private static void homesOfRiders() {
        WingTrams x = Check.told(TWO + "roof 0;rider 0 2 7 1;rider 2 1 8 2;rider 1 1 9 3;");
        numbersOf(x, 0, 0, 2, 7, 1);
        numbersOf(x, 1, 2, 1, 8, 2);
        numbersOf(x, 2, 1, 1, 9, 3);
    }

    private static void roofsAndFlights() {
        WingTrams x = Check.told("roof 3;roof 5;roof 7;flight 2 0 9;");
        Check.same("the first roof", 3, x.roof(0, 0));
        Check.same("the second roof", 5, x.roof(1, 0));
        Check.same("the third roof", 7, x.roof(2, 0));
        Check.same("the flight", 9, x.flight(2, 0));
        Check.same("the flight back", 9, x.flight(0, 2));
        Check.same("no other one", -1, x.flight(0, 1));
        Check.fault("roof;", 1, 4);
        Check.fault(TWO + "flight;", 1, 20);
        Check.fault(TWO + "flight 0;", 1, 22);
        Check.fault(TWO + "flight 0 1;", 1, 24);
    }

    private static void ridersAndDawn() {
        WingTrams x = Check.told(TWO + "rider 1 0 400 9;dawn 77;");
        numbersOf(x, 0, 1, 0, 400, 9);
        Check.same("dawn", 77, x.count(6));
        Check.fault("dawn;", 1, 4);
        Check.fault(TWO + "rider;", 1, 19);
        Check.fault(TWO + "rider 0;", 1, 21);
        Check.fault(TWO + "rider 0 1;", 1, 23);
        Check.fault(TWO + "rider 0 1 0;", 1, 25);
    }

    /** What is too much has another fault where it can't stand. */
    private static void thatCan() {
        Check.fault("roof 10;", 2, 5);
        Check.fault("10 roof;", 1, 0);
        Check.fault("dawn 601 60;", 2, 5);
        Check.fault("dawn 60 601;", 1, 8);
        Check.fault("roof 0;".repeat(10) + "roof 0;", 2, 70);
        Check.fault("roof 0;".repeat(10) + "dawn roof;", 1, 75);
        Check.fault("hunts 1;".repeat(4) + "hunts 1;", 2, 32);
        Check.fault("hunts 1;".repeat(4) + "roof hunts;", 1, 37);
        Check.fault("hunts not not not not not not 1 not 1;", 1, 32);
        Check.fault("hunts ((((((;", 1, 12);
    }

    private static void valuesOfOwls() {
        WingTrams x = Check.told(TWO + "flight 0 1 10;white 0 0 1;tawny 0 1 0;hunts kind*10+stop*3;");
        int[][] leaves = {{20, 53}, {0, 13}};
        for (int owl = 0; owl < 2; owl++) {
            for (int i = 0; i < 2; i++) {
                Check.same("owl " + owl + ", stop " + i, leaves[owl][i], x.stop(owl, i, 2));
            }
        }
        WingTrams y = Check.told("roof 9;roof 2;flight 0 1 10;tawny 0 0 1;hunts grain+mice;");
        Check.same("of the first roof", 27, y.stop(0, 0, 2));
        Check.same("of the second roof", 37 + 6, y.stop(0, 1, 2));
    }

    private static void kindsOfOwls() {
        WingTrams x = Check.told("roof 0;white 0 0;barn 0 0;tawny 0 0;white 0 0;barn 0 0;");
        int[] due = {2, 1, 0, 2, 1};
        for (int owl = 0; owl < 5; owl++) {
            Check.same("owl " + owl, due[owl], x.owl(owl, 0));
        }
    }

    private static void nights() {
        Edges.terms(2, 9, "HUNTS there for as many minutes as the rule gives", PlainEdges::huntsByRule);
        Edges.terms(2, 9, "and LEAVES; the next ROOF it reaches by the FLIGHT's minutes behind that",
            PlainEdges::reachesTheNext);
        Edges.terms(2, 18, "the rule in force becomes another; the MOON does; it is wet or dry; an OWL nests or flies",
            PlainEdges::actsOfAllKinds);
    }

    private static void huntsByRule() {
        WingTrams x = Check.told(TWO + "flight 0 1 10;tawny 5 0 1;hunts 3;hunts 17;");
        Check.same("by the first", 8, x.stop(0, 0, 2));
        x.obey(1);
        Check.same("by the second", 22, x.stop(0, 0, 2));
        Check.same("on the next roof, too", 32 + 17, x.stop(0, 1, 2));
    }

    private static void reachesTheNext() {
        WingTrams x = Check.told("roof 0;roof 0;roof 0;flight 0 1 7;flight 2 1 9;tawny 5 0 1 2 1;hunts 4;");
        int[] due = {5, 16, 29, 42};
        for (int i = 0; i < 4; i++) {
            Check.same("stop " + i, due[i], x.stop(0, i, 1));
            Check.same("leaves " + i, due[i] + 4, x.stop(0, i, 2));
        }
    }

    private static void acted(WingTrams x, int acts, int rule, int moon, int wet, int nests) {
        int[] due = {rule, -1, moon, wet, nests, -1, acts};
        for (int what = 5; what < 12; what++) {
            if (what != 6 && what != 10) {
                Check.same("count " + what + " by acts " + acts, due[what - 5], x.count(what));
            }
        }
    }

    private static void actsOfAllKinds() {
        WingTrams x = Check.told("roof 0;tawny 0 0;tawny 0 0;hunts 1;hunts 2;");
        int[][] due = {{0, 0, 0, 0}, {1, 0, 0, 0}, {1, 5, 0, 0}, {1, 5, 1, 0}, {1, 5, 0, 0}, {1, 5, 0, 2}, {1, 5, 0, 0}};
        for (int acts = 0; acts <= 6; acts++) {
            switch (acts) {
                case 1: x.obey(1); break;
                case 2: x.moon(5); break;
                case 3: x.wet(true); break;
                case 4: x.wet(false); break;
                case 5: x.nest(1, true); break;
                case 6: x.nest(1, false); break;
                default: break;
            }
            acted(x, acts, due[acts][0], due[acts][1], due[acts][2], due[acts][3]);
        }
        for (int acts = 5; acts >= 0; acts--) {
            x.undo();
            acted(x, acts, due[acts][0], due[acts][1], due[acts][2], due[acts][3]);
        }
    }

    private static void plans() {
        Edges.terms(3, 24, "LURE for a set of RIDERS and a minute", PlainEdges::luredSets);
        Edges.terms(3, 25, "how many; which", PlainEdges::luredHowMany);
        Edges.terms(3, 26, "that from which most RIDERS' HOMES are", PlainEdges::mostHomes);
        Edges.terms(3, 26, "from one of the set", PlainEdges::fromOne);
        Edges.terms(3, 27, "getting off at a ROOF of its WAY that is his HOME", PlainEdges::offAtHome);
        Edges.terms(3, 27, "How many are HOME so", PlainEdges::strapped);
    }

    private static void luredSets() {
        WingTrams x = Check.told(LURE);
        int[][] due = {{0, 0, 0}, {2, 20, 0}, {2, 18, 1}, {1, 20, -1}, {3, 38, 1}, {3, 18, -1}, {4, 30, 0}, {5, 38, 1}};
        for (int[] lure : due) {
            Check.same("riders " + lure[0] + " by " + lure[1], lure[2], x.lure(lure[0], lure[1]));
        }
    }

    private static void luredHowMany() {
        WingTrams x = Check.told(LURE);
        Check.same("two", 2, x.lure(1, 36));
        Check.same("none on the first", 0, x.more(0));
        Check.same("both on the second", 2, x.more(1));
        Check.same("none on the third", 0, x.more(2));
        Check.same("one", 1, x.lure(2, 18));
        Check.same("on the first", 1, x.more(0));
        Check.same("none on the second", 0, x.more(1));
    }

    private static void beamed(String city, int many, int minutes, int riders, int set) {
        WingTrams x = Check.told(city);
        Check.same("riders near " + many + " of " + city, riders, x.beams(many, minutes, 0));
        Check.same("the set of " + many + " of " + city, set, x.beams(many, minutes, 1));
    }

    /** Riders are counted, not the roofs they live on. */
    private static void mostHomes() {
        String city = "roof 0;roof 0;roof 0;roof 0;flight 0 1 5;flight 0 2 5;";
        String others = "rider 0 1 0 0;rider 0 2 0 0;";
        beamed(city + others + "rider 0 3 0 0;rider 0 3 0 0;rider 0 3 0 0;", 1, 5, 3, 8);
        beamed(city + others + "rider 0 1 0 0;rider 0 3 0 0;rider 0 3 0 0;", 1, 5, 3, 1);
    }

    private static void fromOne() {
        String city = "roof 0;roof 0;roof 0;roof 0;flight 0 1 5;flight 2 3 5;";
        beamed(city + "rider 0 1 0 0;rider 0 3 0 0;", 2, 5, 2, 5);
        beamed(city + "rider 0 1 0 0;", 2, 5, 1, 3);
    }

    private static void offAtHome() {
        Check.same("not on its way", 1, Check.told(LINE + "tawny 0 0 1;rider 0 2 0 0;rider 0 1 0 0;").straps(1));
        Check.same("on its way, not the last one", 2, Check.told(LINE + "tawny 0 0 1 2;rider 0 1 0 0;"
            + "rider 1 2 0 0;").straps(1));
        Check.same("behind it", 0, Check.told(LINE + "tawny 0 0 1 2;rider 1 0 0 0;").straps(1));
    }

    private static void strapped() {
        Check.same("two of three", 2, Check.told(LINE + "tawny 0 0 1 2;rider 0 1 0 0;rider 2 0 0 0;"
            + "rider 1 1 5 0;").straps(1));
        Check.same("by changes none", 0, Check.told(LINE + "tawny 0 0 1;tawny 12 1 2;rider 0 2 0 0;").straps(1));
    }

    private static void years() {
        Edges.terms(4, 33, "WATCH in a minute: the ROOF on which by nearest to half of FITS", PlainEdges::watched);
        Edges.terms(4, 34, "how many; the first (10 by the owls', the bats')", PlainEdges::firstOfBats);
        Edges.terms(4, 35, "A seed becomes itself times 1103515245 and 12345", PlainEdges::seeds);
        Edges.terms(4, 37, "(all else as it is", PlainEdges::lateAlone);
        Edges.terms(4, 38, "THE BEST rule of HUNTS: by which most RIDERS can be HOME", PlainEdges::bestOfHunts);
    }

    /** The owl leaves roof 0 at 0, 5, 30 by rules and at 2 without one, and comes to roof 1 ten minutes later. */
    private static void watched() {
        WingTrams x = Check.told(TWO + "flight 0 1 10;tawny 0 0 1;hunts 0;hunts 5;hunts 30;");
        int[][] due = {{4, 0}, {12, 1}, {15, 0}, {35, 1}};
        for (int[] minute : due) {
            Check.same("minute " + minute[0], minute[1], x.watch(minute[0]));
        }
    }

    private static void firstOfBats() {
        int[][] due = {{3, 5}, {10, 2, 2}, {7, 2, 2, 2, 2, 9}, {4, 9, 2}, {5, 2, 2, 9}, {10, 2, 2, 3}};
        for (int[] furs : due) {
            StringBuilder text = new StringBuilder("roof 0;");
            for (int i = 1; i < furs.length; i++) {
                text.append("rider 0 0 0 ").append(furs[i]).append(';');
            }
            WingTrams x = Check.told(text.toString());
            Check.same("couples of " + text, furs[0], x.bats(0));
            Check.same("the first of " + text, 11, x.bats(1));
        }
    }

    /** The rider is home in a dry night alone; the draws are written out. */
    private static void seeds() {
        int[][] draws = {{0, 0, 0, 0, 1, 2, 3, 1, 1}, {1, 2, 2, 1, 3, 3, 3, 2, 3}, {2, 0, 1, 3, 2, 1, 3, 0, 1},
            {12345, 0, 0, 1, 2, 3, 1, 1, 2}, {5, 3, 1, 0, 1, 1, 0, 0, 3}};
        WingTrams x = Check.told(TWO + "flight 0 1 40;hunts 0;tawny 0 0 1;dawn 60;rider 0 1 0 0;");
        for (int[] draw : draws) {
            int dry = 0;
            for (int n = 1; n < draw.length; n++) {
                dry += draw[n] == 0 ? 0 : 1;
                Check.same("seed " + draw[0] + ", nights " + n, dry, x.years(draw[0], n, 0));
            }
        }
    }

    /** The first owl has to be on roof 1 by 14, the second one on roof 2 by 60. */
    private static void lateAlone() {
        WingTrams x = Check.told(LINE + "tawny 0 0 1;tawny 12 1 2;rider 0 2 0 0;dawn 60;");
        Check.same("the first", 2, x.late(0));
        Check.same("the second", 36, x.late(1));
        Check.same("its minute stays", 0, x.owl(0, 1));
        x.wet(true);
        x.start(1, 22);
        Check.same("the first, wet", 2, x.late(0));
        Check.same("the second, wet", 16, x.late(1));
    }

    /** Two of two are home if the owl hunts 5 to 10 minutes, one if it hunts less. */
    private static void bestOfHunts() {
        String city = TWO + "flight 0 1 10;tawny 40 0 1;rider 0 1 0 0;rider 0 1 45 0;dawn 60;";
        Check.same("two by the third", 2, Check.told(city + "hunts 30;hunts 0;hunts 7;").best());
        Check.same("one by none, too", -1, Check.told(city + "hunts 30;hunts 0;").best());
        WingTrams x = Check.told(city + "hunts 30;hunts 0;hunts 7;");
        x.wet(true);
        Check.same("one by the second, wet", 1, x.best());
    }
}
