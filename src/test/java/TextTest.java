/** Promises 1 to 4: a new object, the tape, the city's text and its faults. */
public final class TextTest {
    private static final String TWO = "roof 0;roof 0;";
    private static final String LINKED = "roof 0;roof 0;flight 0 1 5;";

    public static void main(String[] args) {
        newObject();
        tape();
        cityAnew();
        smallerCity();
        tokens();
        lines();
        ways();
        manyThings();
        expressions();
        deepExpressions();
        Check.end();
    }

    private static void newObject() {
        WingTrams x = new WingTrams();
        int[] due = {0, 0, 0, 0, 0, -1, 360, 0, 0, 0, 0, 0, 0, 0, 0, 0, 0};
        for (int what = 0; what < due.length; what++) {
            Check.same("count " + what + " of a new object", due[what], x.count(what));
        }
        Check.same("NONE", -1, WingTrams.NONE);
        Check.same("fault of a new object", -1, x.fault());
        Check.same("no image at first", false, x.restore());
        Check.isThrown("no roof", java.util.NoSuchElementException.class, () -> x.roof(0, 0));
        Check.isThrown("no owl", java.util.NoSuchElementException.class, () -> x.owl(0, 0));
        Check.isThrown("no rider", java.util.NoSuchElementException.class, () -> x.rider(0, 0));
    }

    private static void tape() {
        WingTrams x = new WingTrams();
        for (int i = 1; i <= 35; i++) {
            Check.same("feed", 20 * i, x.feed(0x20202020, 0x20202020, 0x20202020, 0x20202020, 0x20202020));
        }
        Check.same("a full tape", -1, x.feed(0, 0, 0, 0, 0));
        Check.same("bytes of a full tape", 700, x.count(13));
        Check.same("700 blanks", 0, x.city(700));
        Check.same("the tape is empty then", 0, x.count(13));
        x.feed(0x726f6f66, 0x20373b0a, 0x726f6f66, 0x0a20353b, 0xffffff80);
        Check.same("bytes in their order", 0, x.city(16));
        Check.same("two roofs", 2, x.count(0));
        Check.same("grain of the first", 7, x.roof(0, 0));
        Check.same("grain of the second", 5, x.roof(1, 0));
        x.feed(0x726f6f66, 0x20373b0a, 0x726f6f66, 0x0a20353b, 0xffffff80);
        Check.same("bytes above 127 are no token", 1, x.city(17));
        Check.same("their place", 16, x.fault());
    }

    private static void cityAnew() {
        WingTrams x = new WingTrams();
        Check.feed(x, "roof 1;");
        Check.isThrown("more than the tape has", IllegalArgumentException.class, () -> x.city(21));
        Check.isThrown("below 0", IllegalArgumentException.class, () -> x.city(-1));
        Check.same("the tape stays", 20, x.count(13));
        Check.same("not refused", 0, x.count(14));
        Check.same("less than the tape has", 1, x.city(6));
        Check.same("too soon an end", 6, x.fault());
        Check.isThrown("the tape is empty", IllegalArgumentException.class, () -> x.city(1));
        Check.same("the fault stays", 6, x.fault());
        Check.same("an empty text", 0, x.city(0));
        Check.same("no fault any more", -1, x.fault());
        Check.tell(x, LINKED + "tawny 0 0 1;rider 0 1 0 0;dawn 60;hunts 5;hunts 6;");
        x.obey(1);
        x.moon(5);
        x.wet(true);
        x.nest(0, true);
        x.see(0, 5, -1);
        x.see(0, 5, 7);
        x.moon(9);
        x.lure(0, 0);
        x.image();
        Check.same("a city anew", 0, Check.tell(x, "roof 2;hunts 1;"));
        int[] due = {1, 0, 0, 0, 1, 0, 360, 0, 0, 0, 0, 0, 0, 0, 1, 1, 1};
        for (int what = 0; what < due.length; what++) {
            Check.same("count " + what + " anew", due[what], x.count(what));
        }
        Check.same("nothing to undo", -1, x.undo());
        Check.same("the image is gone", false, x.restore());
        Check.isThrown("the row is gone", java.util.NoSuchElementException.class, () -> x.more(0));
        Check.tell(x, "roof 2;");
        Check.same("no rule", -1, x.count(5));
    }

    /** Nothing of a city that had more of all is left in the next one. */
    private static void smallerCity() {
        WingTrams x = Check.told(LINKED
            + "tawny 0 0 1 0 1;tawny 0 0 1;rider 0 1 0 9;rider 0 1 0 9;hunts 5;hunts 6;dawn 60;");
        Check.same("a smaller city", 0, Check.tell(x, "roof 0;roof 0;tawny 0 0;rider 0 1 0 0;hunts 7;"));
        Check.same("no flight", -1, x.flight(0, 1));
        Check.same("its rule", 7, x.stop(0, 0, 2));
        Check.same("its dawn", 360, x.count(6));
        Check.same("nobody has straps", 0, x.straps(1));
        Check.same("nobody gets home", 1, x.never());
        Check.same("a roof by oneself", 1, x.reach(0, 500));
        Check.isThrown("no owl 1", java.util.NoSuchElementException.class, () -> x.stop(1, 0, 0));
        Check.isThrown("no stop 1", java.util.NoSuchElementException.class, () -> x.stop(0, 1, 0));
        Check.isThrown("no rider 1", java.util.NoSuchElementException.class, () -> x.rider(1, 0));
        Check.same("no rule 1", false, x.obey(1));
        Check.same("two rules", 17, x.fits());
        Check.same("who has no fur", 81, x.bats(0));
    }

    private static void tokens() {
        Check.same("no blanks", 2, Check.told("roof1;roof2;flight 0 1 5;").count(0));
        Check.same("line feeds", 2, Check.told("\n roof\n1\n;\n\nroof 2 ; ").count(0));
        Check.same("noughts ahead", 9, Check.told("roof 0009;").roof(0, 0));
        Check.fault("roof 00009;", 2, 5);
        Check.fault("roof\t1;", 1, 4);
        Check.fault("roof\r1;", 1, 4);
        Check.fault("Roof 1;", 1, 0);
        Check.fault("roofs 1;", 1, 0);
        Check.fault("roo 1;", 1, 0);
        Check.fault("roof -1;", 1, 5);
        Check.fault("roof 1;  @", 1, 9);
        Check.fault("roof 1,", 1, 6);
        Check.fault("roof 1\u00e9", 1, 6);
        Check.fault("roof 1  ", 1, 8);
        Check.fault("roof 1 2;", 1, 7);
        Check.fault("roof 1 ; 7", 1, 9);
        Check.fault("roof x;", 1, 5);
        Check.fault("hunts zebra;", 3, 6);
        Check.fault("hunts a;", 3, 6);
        Check.fault("hunts {;", 1, 6);
        Check.fault("hunts `;", 1, 6);
        Check.fault("hunts :;", 1, 6);
        Check.same("all 700 bytes", 1, Check.told("hunts" + "1+".repeat(346) + "1;\n").count(4));
        Check.fault(";", 1, 0);
        Check.fault("mice;", 1, 0);
        Check.fault("or;", 1, 0);
        Check.fault("rooftawny 1;", 1, 0);
    }

    private static void lines() {
        Check.fault("roof 10;", 2, 5);
        Check.fault("flight 0 1 5;", 3, 7);
        Check.fault(TWO + "flight 0 2 5;", 3, 23);
        Check.fault(TWO + "flight 0 99 5;", 3, 23);
        Check.fault(TWO + "flight 0 9999 5;", 3, 23);
        Check.fault(TWO + "flight 9999 1 5;", 3, 21);
        Check.fault(TWO + "flight 00000 1 5;", 2, 21);
        Check.fault(TWO + "flight 0 00001 5;", 2, 23);
        Check.fault(TWO + "flight 0 0 5;", 4, 23);
        Check.fault(TWO + "flight 0 1 0;", 2, 25);
        Check.fault(TWO + "flight 0 1 61;", 2, 25);
        Check.fault(TWO + "flight 0 1;", 1, 24);
        Check.fault(TWO + "flight 0 1 5 6;", 1, 27);
        Check.fault(LINKED + "flight 0 1 5;", 4, 36);
        Check.fault(LINKED + "flight 1 0 5;", 4, 36);
        Check.same("least and most minutes", 60, Check.told(TWO + "flight 0 1 60;").flight(1, 0));
        Check.same("least and most minutes", 1, Check.told(TWO + "flight 0 1 1;").flight(0, 1));
        Check.fault(TWO + "rider 0 1 401 0;", 2, 24);
        Check.fault(TWO + "rider 0 1 400 10;", 2, 28);
        Check.fault(TWO + "rider 2 1 400 9;", 3, 20);
        Check.fault(TWO + "rider 0 2 400 9;", 3, 22);
        Check.fault(TWO + "rider 0 1 400;", 1, 27);
        Check.fault(TWO + "rider 0 00000 400 1;", 2, 22);
        Check.same("most of a rider", 400, Check.told(TWO + "rider 0 0 400 9;").rider(0, 2));
        Check.fault("dawn 59;", 2, 5);
        Check.fault("dawn 601;", 2, 5);
        Check.fault("dawn 10000;", 2, 5);
        Check.fault("dawn;", 1, 4);
        Check.fault("dawn 60;dawn 600;", 5, 8);
        Check.fault("dawn 60;dawn", 5, 8);
        Check.same("earliest dawn", 60, Check.told("dawn 60;").count(6));
        Check.same("latest dawn", 600, Check.told("dawn 600;").count(6));
        Check.fault("roof 1;hunts 1", 1, 14);
        Check.fault("hunts 1;;", 1, 8);
    }

    private static void ways() {
        Check.fault(TWO + "tawny 301 0;", 2, 20);
        Check.fault(TWO + "barn 0;", 1, 20);
        Check.fault(TWO + "barn;", 1, 18);
        Check.fault(TWO + "white 0 2;", 3, 22);
        Check.fault(TWO + "white 0 12345;", 2, 22);
        Check.fault(TWO + "tawny 0 0 1;", 6, 24);
        Check.fault(TWO + "tawny 0 0 1;flight 0 1 5;", 6, 24);
        Check.fault(LINKED + "tawny 0 0 0;", 6, 37);
        Check.fault(LINKED + "tawny 0 0 2;", 3, 37);
        Check.fault(LINKED + "tawny 0 0 1 0 1 0 1 0 1 0;", 2, 51);
        Check.fault(LINKED + "tawny 0 0 1 0 1 0 1 0 1 1;", 2, 51);
        Check.fault(LINKED + "tawny 0 0 1 0 1 0 1 0 1 x;", 1, 51);
        WingTrams x = Check.told(LINKED + "tawny 300 0 1 0 1 0 1 0 1;barn 0 1;white 7 1 0;");
        Check.same("the longest way", 8, x.owl(0, 2));
        Check.same("the shortest way", 1, x.owl(1, 2));
        Check.same("the latest minute", 300, x.owl(0, 1));
        for (int kind = 0; kind < 3; kind++) {
            Check.same("kind", kind, x.owl(kind, 0));
        }
    }

    private static void manyThings() {
        String roofs = "roof 1;".repeat(10);
        Check.same("ten roofs", 10, Check.told(roofs).count(0));
        Check.fault(roofs + "roof 1;", 2, 70);
        Check.fault(roofs + "roof", 2, 70);
        StringBuilder flights = new StringBuilder(roofs);
        for (int i = 0; i < 18; i++) {
            int from = i / 9;
            int to = i < 9 ? i + 1 : i < 17 ? i - 7 : 0;
            flights.append(i == 17 ? "flight 2 3 9;" : "flight " + from + " " + to + " 9;");
        }
        Check.same("18 flights", 18, Check.told(flights.toString()).count(1));
        Check.fault(flights + "flight 5 6 9;", 2, flights.length());
        String owls = LINKED + "tawny 0 0;barn 0 0;white 0 0;barn 0 1;tawny 0 1;";
        Check.same("five owls", 5, Check.told(owls).count(2));
        Check.fault(owls + "white 0 0;", 2, owls.length());
        String riders = TWO + "rider 0 1 0 0;".repeat(8);
        Check.same("eight riders", 8, Check.told(riders).count(3));
        Check.fault(riders + "rider 0 1 0 0;", 2, riders.length());
        String hunts = "hunts 1;hunts 2;hunts 3;hunts 4;";
        Check.same("four rules", 4, Check.told(hunts).count(4));
        Check.fault(hunts + "hunts 1;", 2, 32);
        Check.fault(hunts + "dawn 1;", 2, 37);
    }

    private static void expressions() {
        Check.fault("hunts;", 1, 5);
        Check.fault("hunts", 1, 5);
        Check.fault("hunts 1", 1, 7);
        Check.fault("hunts 12345;", 2, 6);
        Check.fault("hunts 1+12345;", 2, 8);
        Check.fault("hunts owl;", 3, 6);
        Check.fault("hunts roof;", 3, 6);
        Check.fault("hunts or;", 3, 6);
        Check.fault("hunts and 1;", 3, 6);
        Check.fault("hunts 1 + not 1;", 3, 10);
        Check.fault("hunts 1 < not 1;", 3, 10);
        Check.fault("hunts 1 * owls;", 3, 10);
        Check.fault("hunts 1 owl;", 1, 8);
        Check.fault("hunts 1 mice;", 1, 8);
        Check.fault("hunts 1 not 1;", 1, 8);
        Check.fault("hunts 1 2;", 1, 8);
        Check.fault("hunts 1 12345;", 1, 8);
        Check.fault("hunts 1 (2);", 1, 8);
        Check.fault("hunts -1;", 1, 6);
        Check.fault("hunts 1--1;", 1, 8);
        Check.fault("hunts 1<2<3;", 1, 9);
        Check.fault("hunts 1=2<3;", 1, 9);
        Check.fault("hunts (1;", 1, 8);
        Check.fault("hunts 1);", 1, 7);
        Check.fault("hunts ();", 1, 7);
        Check.fault("hunts 1 or;", 1, 10);
        // The first fault counts, whatever comes behind it.
        Check.fault("hunts 1 and ;roof 10;", 1, 12);
        Check.fault("hunts 1 or ;roof 10;", 1, 11);
        Check.fault("hunts 1 + ;roof 10;", 1, 10);
        Check.fault("hunts 1 * ;roof 10;", 1, 10);
        Check.fault("hunts 1 < ;roof 10;", 1, 10);
        Check.fault("hunts not ;roof 10;", 1, 10);
        Check.fault("hunts (1;roof 10;", 1, 8);
        Check.fault("roof 10;owl;", 2, 5);
        Check.fault("tawny 301 7;dawn 1;", 2, 6);
        Check.fault("hunts 1 or or 1;", 3, 11);
        Check.fault("hunts not;", 1, 9);
        Check.fault("hunts 1 = ;", 1, 10);
        Check.fault("hunts (1 #);", 1, 9);
        Check.same("all that can stand", 1,
            Check.told("hunts not not 1 < 2 and (mice or grain = kind - 1 * stop / moon) or wet + hour;").count(4));
    }

    private static void deepExpressions() {
        Check.same("six within one another", 1, Check.told("hunts (((((1)))));").count(4));
        Check.fault("hunts ((((((1))))));", 2, 12);
        Check.fault("hunts ((((((mice))))));", 2, 12);
        Check.fault("hunts ((((((owl))))));", 2, 12);
        Check.fault("hunts ((((((not 1))))));", 2, 12);
        Check.fault("hunts ((((((or 1))))));", 2, 12);
        Check.fault("hunts ((((((( 1 )))))));", 2, 12);
        Check.fault("hunts ((((((12345))))));", 2, 12);
        Check.fault("hunts (((((( ))))));", 1, 13);
        Check.fault("hunts ((((((;", 1, 12);
        Check.fault("hunts ((((((", 1, 12);
        Check.fault("hunts ((((((- 1;", 1, 12);
        Check.fault("hunts ((((((? 1;", 1, 12);
        Check.same("side by side, not within", 1, Check.told("hunts (((((1)))))+(((((2)))));").count(4));
        Check.same("six times not", 1, Check.told("hunts not not not not not not 1;").count(4));
        Check.fault("hunts not not not not not not not 1;", 2, 30);
        Check.fault("hunts not not not not not not 12345;", 2, 30);
        Check.same("not side by side", 1,
            Check.told("hunts not not not not (not not not not 1) and not not not not not 1;").count(4));
    }
}
