/** Terms 2 and 3 as far as owls alone go, and promises 5 to 11: a night, and what there is. */
final class NightEdges {
    private static final String TWO = "roof 0;roof 0;";
    private static final String LINKED = TWO + "flight 0 1 10;";
    private static final int MOST = Integer.MAX_VALUE;

    private NightEdges() {
    }

    static void all() {
        atFirst();
        owlsOnTheirWays();
        values();
        onRoofs();
        counts();
        roofsAndFlights();
        owlsAndStops();
    }

    private static void atFirst() {
        Edges.terms(2, 5, "The MOON is 0 to 7 (0 at first)", NightEdges::firstMoon);
        Edges.terms(2, 5, "the night is dry at first, all OWLS fly, none nests", NightEdges::dryAtFirst);
        Edges.terms(2, 5, "the rule in force is 0, if there is one", NightEdges::firstRule);
        Edges.terms(2, 6, "at first there are as many MICE on a ROOF as twice its GRAIN", NightEdges::firstMice);
    }

    private static void firstMoon() {
        Check.same("of a new object", 0, new WingTrams().count(7));
        WingTrams x = Check.told("roof 0;tawny 0 0;hunts moon;");
        Check.same("of a city", 0, x.count(7));
        for (int moon = 7; moon >= 0; moon--) {
            x.moon(moon);
            Check.same("moon", moon, x.count(7));
            Check.same("in a rule", moon, x.stop(0, 0, 2));
        }
    }

    private static void dryAtFirst() {
        WingTrams x = Check.told(LINKED + "tawny 0 0 1;tawny 0 1;hunts 0;");
        Check.same("dry", 0, x.count(8));
        Check.same("a dry flight", 10, x.stop(0, 1, 1));
        Check.same("nests", 0, x.count(9));
        Check.same("the last owl flies", 0, x.owl(1, 4));
    }

    private static void firstRule() {
        Check.same("there is none", -1, Check.told("roof 0;").count(5));
        Check.same("one", 0, Check.told("hunts 5;").count(5));
        WingTrams x = Check.told("roof 0;tawny 0 0;hunts 5;hunts 6;");
        Check.same("the first of two", 0, x.count(5));
        Check.same("by it", 5, x.stop(0, 0, 2));
    }

    private static void firstMice() {
        WingTrams x = Check.told("roof 0;roof 9;");
        Check.same("none", 0, x.roof(0, 1));
        Check.same("most", 18, x.roof(1, 1));
        Check.same("nobody came", 18, x.roof(1, 2));
        x.grain(1, 1);
        Check.same("of another grain", 2, x.roof(1, 1));
    }

    private static void owlsOnTheirWays() {
        Edges.terms(2, 9, "An OWL COMES to the first ROOF of its WAY in its MINUTE", NightEdges::firstStops);
        Edges.terms(2, 9, "(kept to 0 to 30;", NightEdges::keptTo30);
        Edges.terms(2, 9, "without one 2, and 1 more if there are MICE)", NightEdges::withoutRule);
        Edges.terms(2, 8, "catches a MOUSE, if it hunts 1 minute or more and there are any (one less is there then)",
            NightEdges::catching);
        Edges.terms(2, 9, "twice as many, if it is wet", NightEdges::wetFlights);
        Edges.terms(2, 9, "of a barn owl half as many, cut up, if the MOON is 4 or more, ahead of that",
            NightEdges::barnOwls);
        Edges.terms(2, 11, "It stays on the last ROOF of its WAY from its COMING on (hunting there, too)",
            NightEdges::lastRoofs);
        Edges.terms(2, 8, "What COMES in one minute COMES in the order of OWLS", NightEdges::oneMinute);
        Edges.terms(2, 11, "(An OWL that nests isn't there at all.)", NightEdges::nesting);
    }

    private static void firstStops() {
        WingTrams x = Check.told("roof 0;tawny 0 0;tawny 300 0;");
        Check.same("soonest", 0, x.stop(0, 0, 1));
        Check.same("latest", 300, x.stop(1, 0, 1));
        x.start(0, 300);
        x.start(1, 0);
        Check.same("latest", 300, x.stop(0, 0, 1));
        Check.same("soonest", 0, x.stop(1, 0, 1));
    }

    private static void keptTo30() {
        String most = "(9999*9999*21+9999*4790+8416)";
        Check.hunts("29", 29);
        Check.hunts("30", 30);
        Check.hunts("31", 30);
        Check.hunts(most, 30);
        Check.hunts("1", 1);
        Check.hunts("0", 0);
        Check.hunts("0-1", 0);
        Check.hunts(most + "+1", 0);
    }

    private static void withoutRule() {
        Check.same("no mice", 2, Check.told("roof 0;tawny 0 0;").stop(0, 0, 2));
        WingTrams x = Check.told("roof 1;tawny 0 0;tawny 5 0;tawny 10 0;hunts 9;");
        Check.same("by a rule", 9, x.stop(0, 0, 2));
        x.obey(-1);
        Check.same("two mice", 3, x.stop(0, 0, 2));
        Check.same("one mouse", 8, x.stop(1, 0, 2));
        Check.same("none any more", 12, x.stop(2, 0, 2));
    }

    private static void caught(String what, WingTrams x, int left, int... mice) {
        for (int owl = 0; owl < mice.length; owl++) {
            Check.same(what + ", owl " + owl, mice[owl], x.owl(owl, 3));
        }
        Check.same(what + ", mice left", left, x.roof(0, 2));
    }

    private static void catching() {
        caught("0 minutes", Check.told("roof 1;tawny 0 0;hunts 0;"), 2, 0);
        caught("less than 0", Check.told("roof 1;tawny 0 0;hunts 0-5;"), 2, 0);
        caught("1 minute", Check.told("roof 1;tawny 0 0;hunts 1;"), 1, 1);
        caught("30 minutes", Check.told("roof 1;tawny 0 0;hunts 99;"), 1, 1);
        caught("no mice", Check.told("roof 0;tawny 0 0;hunts 30;"), 0, 0);
        caught("the last mouse", Check.told("roof 1;tawny 0 0;tawny 1 0;tawny 2 0;hunts 1;"), 0, 1, 1, 0);
        caught("without a rule", Check.told("roof 1;tawny 0 0;tawny 1 0;tawny 2 0;"), 0, 1, 1, 0);
        WingTrams x = Check.told("roof 1;tawny 0 0;tawny 1 0;tawny 2 0;hunts mice;");
        Check.same("two are there", 2, x.stop(0, 0, 2));
        Check.same("one is there", 2, x.stop(1, 0, 2));
        Check.same("none is there", 2, x.stop(2, 0, 2));
    }

    private static WingTrams flown(String kind, int minutes, int moon, boolean wet) {
        WingTrams x = Check.told(TWO + "flight 0 1 " + minutes + ";" + kind + " 0 0 1;hunts 0;");
        x.moon(moon);
        x.wet(wet);
        return x;
    }

    private static void wetFlights() {
        for (int minutes : new int[] {1, 7, 60}) {
            for (String kind : new String[] {"tawny", "barn", "white"}) {
                Check.same(kind + " dry " + minutes, minutes, flown(kind, minutes, 3, false).stop(0, 1, 1));
                Check.same(kind + " wet " + minutes, 2 * minutes, flown(kind, minutes, 3, true).stop(0, 1, 1));
            }
        }
    }

    private static void barnOwls() {
        int[][] halves = {{1, 1}, {2, 1}, {3, 2}, {59, 30}, {60, 30}};
        for (int[] half : halves) {
            for (int moon = 0; moon < 8; moon++) {
                int due = moon < 4 ? half[0] : half[1];
                String what = " at moon " + moon + " of " + half[0];
                Check.same("dry" + what, due, flown("barn", half[0], moon, false).stop(0, 1, 1));
                Check.same("wet" + what, 2 * due, flown("barn", half[0], moon, true).stop(0, 1, 1));
                Check.same("tawny" + what, half[0], flown("tawny", half[0], moon, false).stop(0, 1, 1));
                Check.same("white" + what, 2 * half[0], flown("white", half[0], moon, true).stop(0, 1, 1));
            }
        }
    }

    private static void lastRoofs() {
        WingTrams x = Check.told("roof 1;tawny 7 0;hunts 4;");
        Check.same("ahead of it", -1, x.where(0, 6));
        Check.same("as it comes", 0, x.where(0, 7));
        Check.same("behind its hunt", 0, x.where(0, 12));
        Check.same("ever on", 0, x.where(0, MOST));
        Check.same("it hunts", 11, x.stop(0, 0, 2));
        Check.same("it catches", 1, x.owl(0, 3));
        Check.same("one mouse less", 1, x.roof(0, 2));
    }

    /** Two mice are on roof 0; where one owl comes there sooner than the others, they find one. */
    private static void oneMinute() {
        caught("three at once", Check.told("roof 1;tawny 5 0;tawny 5 0;tawny 5 0;hunts 1;"), 0, 1, 1, 0);
        caught("one sooner", Check.told("roof 1;tawny 5 0;tawny 5 0;tawny 4 0;hunts 1;"), 0, 1, 0, 1);
        String two = "roof 1;roof 0;flight 0 1 10;hunts 1;";
        caught("on the way, the less", Check.told(two + "tawny 0 1 0;tawny 11 0;tawny 0 0;"), 0, 1, 0, 1);
        caught("on the way, the greater", Check.told(two + "tawny 11 0;tawny 0 1 0;tawny 0 0;"), 0, 1, 0, 1);
        caught("a minute ahead", Check.told(two + "tawny 0 1 0;tawny 10 0;tawny 0 0;"), 0, 0, 1, 1);
    }

    private static void nesting() {
        WingTrams x = Check.told("roof 1;roof 0;flight 0 1 10;hunts 1;rider 0 1 0 0;"
            + "tawny 0 0 1;tawny 0 0 1;tawny 0 0 1;");
        caught("none nests", x, 0, 1, 1, 0);
        x.nest(0, true);
        caught("one nests", x, 0, 0, 1, 1);
        x.nest(2, true);
        caught("two nest", x, 1, 0, 1, 0);
        Check.same("on no roof", -1, x.where(0, 0));
        Check.same("nor later", -1, x.where(0, MOST));
        Check.same("with nobody", 0, x.owl(1, 5));
        Check.same("one takes him", 11, x.home(0));
        x.nest(1, true);
        Check.same("none takes him", -1, x.home(0));
        caught("all nest", x, 2, 0, 0, 0);
    }

    private static void values() {
        Edges.terms(1, 9, "'mice' (there)", NightEdges::miceThere);
        Edges.terms(1, 9, "'grain', 'kind'", NightEdges::grainsAndKinds);
        Edges.terms(1, 9, "'stop' (the how manieth of its WAY, 0 the first)", NightEdges::stopsOfWays);
        Edges.terms(1, 9, "'moon', 'wet' (1, else 0)", NightEdges::wetOrNot);
        Edges.terms(1, 9, "'hour' (the minute by 60, cut down)", NightEdges::hours);
    }

    private static void miceThere() {
        WingTrams x = Check.told("roof 9;roof 0;tawny 0 0;tawny 0 0;tawny 0 1;hunts mice;");
        Check.same("most", 18, x.stop(0, 0, 2));
        Check.same("one less", 17, x.stop(1, 0, 2));
        Check.same("none", 0, x.stop(2, 0, 2));
    }

    private static void grainsAndKinds() {
        String[] kinds = {"tawny", "barn", "white"};
        for (int kind = 0; kind < 3; kind++) {
            WingTrams x = Check.told("roof 9;roof 0;" + kinds[kind] + " 0 0;" + kinds[kind] + " 0 1;"
                + "hunts grain+kind*10;");
            Check.same("most grain", 9 + 10 * kind, x.stop(0, 0, 2));
            Check.same("least grain", 10 * kind, x.stop(1, 0, 2));
            x.grain(0, 0);
            Check.same("another grain", 10 * kind, x.stop(0, 0, 2));
        }
    }

    private static void stopsOfWays() {
        WingTrams x = Check.told(LINKED + "tawny 0 0 1 0 1 0 1 0 1;hunts stop+20;");
        for (int i = 0; i < 8; i++) {
            Check.same("stop " + i, 20 + i, x.stop(0, i, 2) - x.stop(0, i, 1));
        }
    }

    private static void wetOrNot() {
        WingTrams x = Check.told("roof 0;tawny 0 0;hunts wet*10+moon;");
        Check.same("dry", 0, x.stop(0, 0, 2));
        x.wet(true);
        Check.same("wet", 10, x.stop(0, 0, 2));
        x.moon(7);
        Check.same("the greatest moon", 17, x.stop(0, 0, 2));
        x.wet(false);
        Check.same("dry again", 7, x.stop(0, 0, 2));
    }

    private static void hours() {
        int[][] due = {{0, 0}, {59, 0}, {60, 1}, {119, 1}, {120, 2}, {299, 4}, {300, 5}};
        WingTrams x = Check.told("roof 0;tawny 0 0;hunts hour;");
        for (int[] minute : due) {
            x.start(0, minute[0]);
            Check.same("minute " + minute[0], minute[0] + minute[1], x.stop(0, 0, 2));
        }
        WingTrams late = Check.told(TWO + "flight 0 1 60;tawny 300 0 1;hunts hour;");
        Check.same("later than any start", 365 + 6, late.stop(0, 1, 2));
    }

    private static void onRoofs() {
        Edges.terms(3, 8, "TOGETHER: in how many minutes (0 to DAWN) an OWL is on a ROOF on which another one is, too",
            NightEdges::together);
        Edges.terms(3, 11, "An OWL is on a ROOF from the minute in which it COMES to that in which it LEAVES, both too",
            NightEdges::onARoof);
        Edges.terms(3, 11, "on the last one from its COMING on", NightEdges::onTheLast);
    }

    private static void together() {
        Check.same("from 0", 61, Check.told("roof 0;dawn 60;tawny 0 0;tawny 0 0;").owl(0, 5));
        Check.same("in DAWN", 1, Check.told("roof 0;dawn 60;tawny 0 0;tawny 60 0;").owl(0, 5));
        Check.same("behind DAWN", 0, Check.told("roof 0;dawn 60;tawny 0 0;tawny 61 0;").owl(1, 5));
        Check.same("the latest DAWN", 601, Check.told("roof 0;dawn 600;tawny 0 0;tawny 0 0;").owl(1, 5));
        Check.same("three count once", 61, Check.told("roof 0;dawn 60;tawny 0 0;tawny 0 0;tawny 0 0;").owl(2, 5));
        Check.same("alone", 0, Check.told("roof 0;tawny 0 0;").owl(0, 5));
        Check.same("on two roofs", 0, Check.told(TWO + "tawny 0 0;tawny 0 1;").owl(0, 5));
    }

    private static void onARoof() {
        WingTrams x = Check.told(LINKED + "dawn 60;tawny 3 0 1;hunts 5;tawny 8 0 1;");
        int[][] due = {{2, -1}, {3, 0}, {8, 0}, {9, -1}, {17, -1}, {18, 1}};
        for (int[] minute : due) {
            Check.same("minute " + minute[0], minute[1], x.where(0, minute[0]));
        }
        Check.same("one leaves as one comes", 1 + 38, x.owl(0, 5));
        x.start(1, 9);
        Check.same("one leaves ahead of it", 37, x.owl(0, 5));
        WingTrams y = Check.told(LINKED + "tawny 3 0 1;hunts 0;");
        Check.same("it leaves as it comes", 0, y.where(0, 3));
        Check.same("it has left", -1, y.where(0, 4));
    }

    private static void onTheLast() {
        WingTrams x = Check.told(LINKED + "dawn 60;tawny 0 0 1;tawny 50 1;hunts 5;");
        Check.same("long behind its hunt", 1, x.where(0, 60));
        Check.same("ever on", 1, x.where(0, MOST));
        Check.same("together there", 11, x.owl(0, 5));
    }

    private static void counts() {
        Edges.promise(5, "0 ROOFS, 1 FLIGHTS, 2 OWLS, 3 RIDERS, 4 HUNTS", NightEdges::noneAndMost);
        Edges.promise(5, "5 the rule in force (NONE)", NightEdges::ruleInForce);
        Edges.promise(5, "6 DAWN, 7 the MOON", NightEdges::dawnAndMoon);
        Edges.promise(5, "8 whether it is wet (1)", NightEdges::wetCount);
        Edges.promise(5, "9 OWLS that nest (bits)", NightEdges::nestBits);
        Edges.promise(5, "10 how many RIDERS can be HOME", NightEdges::howManyHome);
        Edges.promise(5, "11 ACTS that are kept", NightEdges::actsKept);
        Edges.promise(5, "12 SEEN", NightEdges::seenCount);
        Edges.promise(5, "13 bytes of the tape", NightEdges::bytes);
        Edges.promise(5, "14 to 16 STATUS 0 to 2", NightEdges::status);
        Edges.terms(4, 5, "STATUS: how many calls were refused: 0 of TEXTS with a FAULT, 1 of ACTS, 2 of what is SEEN",
            NightEdges::refusals);
        Edges.promise(5, "NoSuchElementException: another what", NightEdges::wrongCounts);
    }

    private static void noneAndMost() {
        StringBuilder text = new StringBuilder("roof 0;".repeat(10));
        for (int i = 0; i < 18; i++) {
            text.append("flight ").append(i < 9 ? 0 : 1).append(' ').append(i < 9 ? i + 1 : i < 17 ? i - 7 : 0);
            text.append(" 5;");
        }
        String told = text.toString().replace("flight 1 0 5;", "flight 2 3 5;");
        WingTrams x = Check.told(told + "tawny 0 0;".repeat(5) + "rider 0 1 0 0;".repeat(8) + "hunts 1;".repeat(4));
        int[] most = {10, 18, 5, 8, 4};
        for (int what = 0; what < most.length; what++) {
            Check.same("most of " + what, most[what], x.count(what));
            Check.same("none of " + what, 0, new WingTrams().count(what));
        }
    }

    private static void dawnAndMoon() {
        WingTrams x = Check.told("dawn 600;");
        Check.same("latest", 600, x.count(6));
        x.moon(7);
        Check.same("most", 7, x.count(7));
        Check.same("without one", 360, Check.told("").count(6));
        Check.same("earliest", 60, Check.told("dawn 60;").count(6));
        Check.same("least", 0, new WingTrams().count(7));
    }

    private static void ruleInForce() {
        WingTrams x = Check.told("hunts 1;hunts 1;hunts 1;hunts 1;");
        for (int rule = 3; rule >= -1; rule--) {
            x.obey(rule);
            Check.same("rule", rule, x.count(5));
        }
        Check.same("there is none", -1, new WingTrams().count(5));
    }

    private static void wetCount() {
        WingTrams x = new WingTrams();
        Check.same("dry", 0, x.count(8));
        x.wet(true);
        Check.same("wet", 1, x.count(8));
    }

    private static void nestBits() {
        WingTrams x = Check.told("roof 0;" + "tawny 0 0;".repeat(5));
        int[] due = {1, 3, 7, 15, 31};
        Check.same("none", 0, x.count(9));
        for (int owl = 0; owl < 5; owl++) {
            x.nest(owl, true);
            Check.same("nests", due[owl], x.count(9));
        }
        x.nest(0, false);
        Check.same("the first flies", 30, x.count(9));
    }

    private static void howManyHome() {
        String dawn = LINKED + "dawn 60;";
        Check.same("no riders", 0, Check.told(dawn).count(10));
        Check.same("all of eight", 8, Check.told(dawn + "rider 1 1 60 0;".repeat(8)).count(10));
        Check.same("none of eight", 0, Check.told(dawn + "rider 0 1 0 0;".repeat(8)).count(10));
        Check.same("one is late", 1, Check.told(dawn + "rider 1 1 60 0;rider 1 1 61 0;").count(10));
    }

    private static void actsKept() {
        WingTrams x = Check.told("roof 0;");
        for (int acts = 0; acts <= 45; acts++) {
            Check.same("acts", Math.min(40, acts), x.count(11));
            x.moon(acts % 8);
        }
        x.undo();
        Check.same("one less", 39, x.count(11));
    }

    private static void seenCount() {
        WingTrams x = Check.told("roof 0;tawny 0 0;");
        for (int seen = 0; seen <= 10; seen++) {
            Check.same("seen", Math.min(8, seen), x.count(12));
            x.see(0, 0, 0);
        }
        x.forget();
        Check.same("none", 0, x.count(12));
    }

    private static void bytes() {
        WingTrams x = new WingTrams();
        for (int i = 0; i < 40; i++) {
            Check.same("bytes", Math.min(700, 20 * i), x.count(13));
            x.feed(0, 0, 0, 0, 0);
        }
        x.city(3);
        Check.same("none", 0, x.count(13));
    }

    private static void status() {
        WingTrams x = Check.told("roof 0;tawny 0 0;");
        x.moon(8);
        Check.same("acts", 1, x.count(15));
        x.see(0, 601, 0);
        x.see(0, 601, 0);
        Check.same("what is seen", 2, x.count(16));
        Check.tell(x, "zebra");
        Check.tell(x, "zebra");
        Check.tell(x, "zebra");
        Check.same("texts", 3, x.count(14));
        Check.same("acts still", 1, x.count(15));
        Check.same("what is seen still", 2, x.count(16));
    }

    /** What is answered, done or thrown is no refusal. */
    private static void refusals() {
        WingTrams x = Check.told("roof 0;tawny 0 0;");
        x.moon(7);
        x.obey(-1);
        x.nest(0, true);
        x.undo();
        x.undo();
        x.undo();
        x.undo();
        x.restore();
        x.see(0, 600, 0);
        x.lure(0, 0);
        x.beams(2, 0, 0);
        Edges.noSuch("count", x::count, 17);
        Edges.noSuch("nest", owl -> x.nest(owl, true), 1);
        Edges.noSuch("grain", roof -> x.grain(roof, 10), 1);
        Edges.noSuch("start", owl -> x.start(owl, 301), 1);
        Edges.noSuch("see", owl -> x.see(owl, 601, 0), 1);
        Edges.illegal("straps", x::straps, 0);
        Edges.illegal("city", x::city, 1);
        for (int i = 0; i < 36; i++) {
            x.feed(0, 0, 0, 0, 0);
        }
        for (int what = 14; what <= 16; what++) {
            Check.same("count " + what, 0, x.count(what));
        }
    }

    private static void wrongCounts() {
        WingTrams x = new WingTrams();
        Edges.noSuch("count", x::count, -1, 17, MOST);
        Check.same("the first", 0, x.count(0));
        Check.same("the last", 0, x.count(16));
    }

    private static void roofsAndFlights() {
        Edges.promise(6, "Of a ROOF: 0 GRAIN", NightEdges::leastAndMostGrain);
        Edges.promise(6, "1 MICE at first, 2 MICE when all OWLS have been on their WAYS", NightEdges::miceOfRoofs);
        Edges.promise(6, "3 whose HOME it is (RIDERS as bits)", NightEdges::homeBits);
        Edges.promise(6, "4 with how many it has FLIGHTS", NightEdges::howManyFlights);
        Edges.promise(6, "NoSuchElementException: no such ROOF (as everywhere), what", NightEdges::wrongRoofs);
        Edges.promise(7, "MINUTES of a FLIGHT, as told", NightEdges::flightsAsTold);
        Edges.promise(7, "NONE: there is none", NightEdges::noFlights);
    }

    private static void leastAndMostGrain() {
        WingTrams x = Check.told("roof 9;roof 0;tawny 0 0;");
        Check.same("most", 9, x.roof(0, 0));
        Check.same("least", 0, x.roof(1, 0));
        x.grain(0, 0);
        x.grain(1, 9);
        Check.same("least", 0, x.roof(0, 0));
        Check.same("most", 9, x.roof(1, 0));
    }

    private static void miceOfRoofs() {
        WingTrams x = Check.told("roof 9;roof 1;roof 0;flight 0 1 60;tawny 300 0 1 0 1 0 1 0 1;hunts 30;");
        Check.same("most at first", 18, x.roof(0, 1));
        Check.same("four less", 14, x.roof(0, 2));
        Check.same("two at first", 2, x.roof(1, 1));
        Check.same("no fewer than none", 0, x.roof(1, 2));
        Check.same("none at first", 0, x.roof(2, 1));
        Check.same("none", 0, x.roof(2, 2));
    }

    private static void homeBits() {
        Check.same("nobody's", 0, Check.told(TWO).roof(0, 3));
        WingTrams x = Check.told(TWO + "rider 0 1 0 0;".repeat(7) + "rider 1 0 0 0;");
        Check.same("seven riders'", 127, x.roof(1, 3));
        Check.same("the last rider's", 128, x.roof(0, 3));
        Check.same("all riders'", 255, Check.told(TWO + "rider 0 1 0 0;".repeat(8)).roof(1, 3));
    }

    private static void howManyFlights() {
        StringBuilder text = new StringBuilder("roof 0;".repeat(10));
        for (int other = 0; other < 9; other++) {
            text.append(other % 2 == 0 ? "flight 9 " + other : "flight " + other + " 9").append(" 5;");
        }
        WingTrams x = Check.told(text.toString());
        Check.same("all others", 9, x.roof(9, 4));
        Check.same("one", 1, x.roof(0, 4));
        Check.same("none", 0, Check.told(TWO).roof(1, 4));
    }

    private static void wrongRoofs() {
        WingTrams x = Check.told("roof 0;".repeat(10) + "tawny 0 0;");
        x.lure(0, 0);
        Check.same("the last roof", 0, x.roof(9, 0) + x.more(9) + x.grain(9, 0));
        Edges.noSuch("roof", roof -> x.roof(roof, 0), -1, 10, MOST);
        Edges.noSuch("flight from", roof -> x.flight(roof, 0), -1, 10, MOST);
        Edges.noSuch("flight to", roof -> x.flight(0, roof), -1, 10, MOST);
        Edges.noSuch("grain", roof -> x.grain(roof, 0), -1, 10, MOST);
        Edges.noSuch("more", roof -> x.more(roof), -1, 10, MOST);
        Edges.noSuch("what", what -> x.roof(0, what), -1, 5, MOST);
        WingTrams one = Check.told("roof 0;");
        Edges.noSuch("roof", roof -> one.roof(roof, 0), -1, 1);
    }

    private static void flightsAsTold() {
        WingTrams x = Check.told(TWO + "flight 0 1 60;barn 0 0 1;");
        x.wet(true);
        Check.same("wet", 60, x.flight(0, 1));
        x.moon(7);
        Check.same("at the greatest moon", 60, x.flight(1, 0));
    }

    private static void noFlights() {
        WingTrams x = Check.told(LINKED + "roof 0;");
        Check.same("told", 10, x.flight(1, 0));
        Check.same("not told", -1, x.flight(0, 2));
        Check.same("not told", -1, x.flight(2, 1));
        Check.same("to itself", -1, x.flight(0, 0));
    }

    private static void owlsAndStops() {
        Edges.promise(8, "3 how many MICE it catches on it", NightEdges::miceOfOwls);
        Edges.promise(8, "1 its MINUTE, 2 how many ROOFS its WAY has", NightEdges::minutesAndWays);
        Edges.promise(8, "4 whether it nests (1), 5 TOGETHER", NightEdges::nestsAlone);
        Edges.promise(8, "NoSuchElementException: no such OWL (as everywhere), what", NightEdges::wrongOwls);
        Edges.promise(9, "Of the i-th ROOF of a WAY (0 on)", NightEdges::stopsFrom0);
        Edges.promise(9, "0 the ROOF, 1 the minute in which it COMES", NightEdges::coming);
        Edges.promise(9, "2 LEAVES (of the last one: has hunted)", NightEdges::leaving);
        Edges.promise(9, "1, 2 NONE, if it nests", NightEdges::stopsOfNests);
        Edges.promise(9, "NoSuchElementException: also there is none, another what", NightEdges::wrongStops);
        Edges.promise(10, "Of a RIDER: 0 ROOF, 1 HOME, 2 the MINUTE, 3 FUR", NightEdges::riders);
        Edges.promise(10, "NoSuchElementException: no such RIDER (as everywhere), what", NightEdges::wrongRiders);
        Edges.promise(11, "On which ROOF an OWL is in a minute", NightEdges::places);
        Edges.promise(11, "NONE: on none", NightEdges::noPlaces);
    }

    private static void miceOfOwls() {
        WingTrams x = Check.told("roof 9;roof 9;flight 0 1 5;tawny 0 0 1 0 1 0 1 0 1;tawny 0 0;hunts 1;");
        Check.same("eight stops", 8, x.owl(0, 3));
        Check.same("eight stops of the fifth owl", 8, Check.told(Most.owls()).owl(4, 3));
        Check.same("one stop", 1, x.owl(1, 3));
        x.grain(0, 0);
        Check.same("none on every other one", 4, x.owl(0, 3));
        x.nest(0, true);
        Check.same("none", 0, x.owl(0, 3));
    }

    private static void minutesAndWays() {
        WingTrams x = Check.told(LINKED + "tawny 300 0;tawny 0 0 1 0 1 0 1 0 1;");
        Check.same("latest", 300, x.owl(0, 1));
        Check.same("soonest", 0, x.owl(1, 1));
        Check.same("shortest", 1, x.owl(0, 2));
        Check.same("longest", 8, x.owl(1, 2));
        x.nest(0, true);
        Check.same("its minute stays", 300, x.owl(0, 1));
        Check.same("its way stays", 1, x.owl(0, 2));
    }

    private static void nestsAlone() {
        WingTrams x = Check.told("roof 0;dawn 60;tawny 0 0;tawny 0 0;");
        Check.same("flies", 0, x.owl(1, 4));
        Check.same("with another one", 61, x.owl(1, 5));
        x.nest(1, true);
        Check.same("nests", 1, x.owl(1, 4));
        Check.same("the other flies", 0, x.owl(0, 4));
        Check.same("it is on none", 0, x.owl(1, 5));
        Check.same("nobody is with the other", 0, x.owl(0, 5));
    }

    private static void wrongOwls() {
        WingTrams x = Check.told("roof 0;" + "tawny 0 0;".repeat(5));
        Check.same("the last owl", 0, x.owl(4, 0) + x.stop(4, 0, 0) + x.where(4, 0) + x.worth(4));
        Edges.noSuch("owl", owl -> x.owl(owl, 0), -1, 5, MOST);
        Edges.noSuch("stop", owl -> x.stop(owl, 0, 0), -1, 5, MOST);
        Edges.noSuch("where", owl -> x.where(owl, 0), -1, 5, MOST);
        Edges.noSuch("nest", owl -> x.nest(owl, true), -1, 5, MOST);
        Edges.noSuch("start", owl -> x.start(owl, 0), -1, 5, MOST);
        Edges.noSuch("worth", owl -> x.worth(owl), -1, 5, MOST);
        Edges.noSuch("see", owl -> x.see(owl, 0, 0), -1, 5, MOST);
        Edges.noSuch("late", owl -> x.late(owl), -1, 5, MOST);
        Edges.noSuch("what", what -> x.owl(0, what), -1, 6, MOST);
        WingTrams one = Check.told("roof 0;tawny 0 0;");
        Edges.noSuch("owl", owl -> one.owl(owl, 0), -1, 1);
    }

    private static void stopsFrom0() {
        WingTrams x = Check.told(LINKED + "tawny 7 1 0 1 0 1 0 1 0;hunts 1;");
        for (int i = 0; i < 8; i++) {
            Check.same("roof " + i, 1 - i % 2, x.stop(0, i, 0));
            Check.same("comes " + i, 7 + 11 * i, x.stop(0, i, 1));
            Check.same("leaves " + i, 8 + 11 * i, x.stop(0, i, 2));
        }
    }

    /** The latest of all comings: seven longest hunts and flights behind the latest start. */
    private static void coming() {
        WingTrams x = Check.told("roof 0;roof 0;flight 0 1 60;tawny 300 1 0 1 0 1 0 1 0;hunts 30;");
        Check.same("the first", 300, x.stop(0, 0, 1));
        Check.same("the last, dry", 300 + 7 * 90, x.stop(0, 7, 1));
        x.wet(true);
        Check.same("the last, wet", 300 + 7 * 150, x.stop(0, 7, 1));
        Check.same("its roof", 0, x.stop(0, 7, 0));
        Check.same("the first one's", 1, x.stop(0, 0, 0));
        WingTrams y = Check.told(Most.owls());
        for (int owl = 0; owl < 5; owl++) {
            for (int i = 0; i < 8; i++) {
                Check.same("owl " + owl + " comes to " + i, 20 * owl + 3 * i, y.stop(owl, i, 1));
                Check.same("owl " + owl + " leaves " + i, 20 * owl + 3 * i + 1, y.stop(owl, i, 2));
            }
        }
    }

    private static void leaving() {
        WingTrams x = Check.told(LINKED + "tawny 0 0 1;hunts 5;hunts 0;hunts 30;");
        Check.same("the first", 5, x.stop(0, 0, 2));
        Check.same("has hunted", 20, x.stop(0, 1, 2));
        x.obey(1);
        Check.same("as it comes", 0, x.stop(0, 0, 2));
        Check.same("has not hunted", 10, x.stop(0, 1, 2));
        x.obey(2);
        Check.same("has hunted longest", 70, x.stop(0, 1, 2));
    }

    private static void stopsOfNests() {
        WingTrams x = Check.told(LINKED + "tawny 0 0 1;");
        x.nest(0, true);
        for (int i = 0; i < 2; i++) {
            Check.same("the roof is told", i, x.stop(0, i, 0));
            Check.same("comes", -1, x.stop(0, i, 1));
            Check.same("leaves", -1, x.stop(0, i, 2));
        }
        x.nest(0, false);
        Check.same("comes again", 12, x.stop(0, 1, 1));
    }

    private static void wrongStops() {
        WingTrams x = Check.told(LINKED + "tawny 0 0 1 0 1 0 1 0 1;tawny 0 0 1;");
        Check.same("the last one", 1, x.stop(0, 7, 0));
        Check.same("the last one", 1, x.stop(1, 1, 0));
        Edges.noSuch("stop of eight", i -> x.stop(0, i, 0), -1, 8, MOST);
        Edges.noSuch("stop of two", i -> x.stop(1, i, 1), -1, 2, MOST);
        Edges.noSuch("what", what -> x.stop(0, 0, what), -1, 3, MOST);
        x.nest(0, true);
        Edges.noSuch("stop of one that nests", i -> x.stop(0, i, 1), -1, 8);
        Edges.noSuch("what of one that nests", what -> x.stop(0, 0, what), -1, 3);
    }

    private static void riders() {
        WingTrams x = Check.told("roof 0;".repeat(10) + "rider 0 9 0 9;rider 9 0 400 0;");
        int[][] due = {{0, 9, 0, 9}, {9, 0, 400, 0}};
        for (int rider = 0; rider < 2; rider++) {
            for (int what = 0; what < 4; what++) {
                Check.same("rider " + rider + " " + what, due[rider][what], x.rider(rider, what));
            }
        }
    }

    private static void wrongRiders() {
        WingTrams x = Check.told(TWO + "rider 1 1 5 0;".repeat(8));
        Check.same("the last rider", 5, x.rider(7, 2));
        Check.same("the last rider", 5, x.home(7) + x.changes(7) + x.cheapest(7));
        Edges.noSuch("rider", rider -> x.rider(rider, 0), -1, 8, MOST);
        Edges.noSuch("home", rider -> x.home(rider), -1, 8, MOST);
        Edges.noSuch("changes", rider -> x.changes(rider), -1, 8, MOST);
        Edges.noSuch("cheapest", rider -> x.cheapest(rider), -1, 8, MOST);
        Edges.noSuch("last", rider -> x.last(rider), -1, 8, MOST);
        Edges.noSuch("reach", rider -> x.reach(rider, 0), -1, 8, MOST);
        Edges.noSuch("what", what -> x.rider(0, what), -1, 4, MOST);
        WingTrams one = Check.told("roof 0;rider 0 0 0 0;");
        Edges.noSuch("rider", rider -> one.rider(rider, 0), -1, 1);
    }

    private static void places() {
        WingTrams x = Check.told("roof 0;roof 0;roof 0;flight 0 1 10;flight 1 2 1;tawny 300 0 1 2;hunts 30;dawn 60;");
        int[][] due = {{300, 0}, {330, 0}, {340, 1}, {370, 1}, {371, 2}, {401, 2}, {402, 2}, {MOST, 2}};
        for (int[] minute : due) {
            Check.same("minute " + minute[0], minute[1], x.where(0, minute[0]));
        }
        WingTrams y = Check.told(Most.owls());
        for (int owl = 0; owl < 5; owl++) {
            for (int minute = 0; minute < 24; minute++) {
                int roof = minute < 21 && minute % 3 == 2 ? -1 : owl / 2 + Math.min(7, minute / 3);
                Check.same("owl " + owl + " in " + minute, roof, y.where(owl, 20 * owl + minute));
            }
        }
    }

    private static void noPlaces() {
        WingTrams x = Check.told(LINKED + "tawny 0 0 1;tawny 5 0;hunts 3;");
        for (int minute : new int[] {Integer.MIN_VALUE, -1, 4, 12}) {
            Check.same("minute " + minute, -1, x.where(0, minute));
        }
        Check.same("not there yet", -1, x.where(1, 4));
        x.nest(1, true);
        Check.same("it nests", -1, x.where(1, 5));
        Check.same("it nests", -1, x.where(1, MOST));
    }
}
