import java.util.NoSuchElementException;

/** Promises 5 to 11: what there is, and the night that makes it. */
public final class ThingsTest {
    // Mice 2, 0, 4 and, without a rule, minutes that can be told by hand.
    private static final String LINE = "roof 1;roof 0;roof 2;flight 0 1 10;flight 1 2 5;";

    public static void main(String[] args) {
        counts();
        roofs();
        flights();
        owls();
        stops();
        riders();
        placesOfOwls();
        oneMinuteInOrder();
        rules();
        together();
        Check.end();
    }

    private static void counts() {
        WingTrams x = Check.told(LINE + "tawny 0 0 1 2;barn 5 2;rider 0 2 3 5;rider 0 2 4 5;dawn 99;hunts 1;hunts 2;hunts 3;");
        int[] due = {3, 2, 2, 2, 3, 0, 99, 0, 0, 0, 0, 0, 0, 0, 0, 0, 0};
        for (int what = 0; what < due.length; what++) {
            Check.same("count " + what, due[what], x.count(what));
        }
        x.obey(-1);
        x.moon(6);
        x.nest(1, true);
        x.see(0, 0, 0);
        Check.feed(x, "roof");
        Check.same("no rule in force", -1, x.count(5));
        Check.same("moon", 6, x.count(7));
        Check.same("nests as bits", 2, x.count(9));
        Check.same("who can be home", 1, x.count(10));
        Check.same("acts", 3, x.count(11));
        Check.same("seen", 1, x.count(12));
        Check.same("bytes", 20, x.count(13));
        x.wet(true);
        Check.same("wet", 1, x.count(8));
        Check.isThrown("count -1", NoSuchElementException.class, () -> x.count(-1));
        Check.isThrown("count 17", NoSuchElementException.class, () -> x.count(17));
    }

    private static void roofs() {
        WingTrams x = Check.told(LINE + "tawny 0 0 1 2;tawny 2 0;tawny 9 0;rider 0 2 3 5;rider 1 0 4 5;rider 1 2 0 0;");
        int[][] due = {{1, 2, 0, 2, 1}, {0, 0, 0, 0, 2}, {2, 4, 3, 5, 1}};
        for (int roof = 0; roof < 3; roof++) {
            for (int what = 0; what < 5; what++) {
                Check.same("roof " + roof + " " + what, due[roof][what], x.roof(roof, what));
            }
        }
        x.grain(0, 9);
        Check.same("grain of an act", 9, x.roof(0, 0));
        Check.same("mice of an act", 18, x.roof(0, 1));
        Check.same("mice behind", 15, x.roof(0, 2));
        x.nest(1, true);
        Check.same("an owl that nests catches none", 16, x.roof(0, 2));
        Check.isThrown("roof 3", NoSuchElementException.class, () -> x.roof(3, 0));
        Check.isThrown("roof -1", NoSuchElementException.class, () -> x.roof(-1, 0));
        Check.isThrown("what 5", NoSuchElementException.class, () -> x.roof(0, 5));
        Check.isThrown("what -1", NoSuchElementException.class, () -> x.roof(0, -1));
    }

    private static void flights() {
        WingTrams x = Check.told(LINE);
        x.wet(true);
        Check.same("as told, wet or not", 10, x.flight(0, 1));
        Check.same("either way round", 5, x.flight(2, 1));
        Check.same("none", -1, x.flight(0, 2));
        Check.same("to itself", -1, x.flight(1, 1));
        Check.isThrown("roof 3", NoSuchElementException.class, () -> x.flight(3, 0));
        Check.isThrown("other 3", NoSuchElementException.class, () -> x.flight(0, 3));
        Check.isThrown("roof -1", NoSuchElementException.class, () -> x.flight(-1, 0));
        Check.isThrown("other -1", NoSuchElementException.class, () -> x.flight(0, -1));
    }

    private static void owls() {
        WingTrams x = Check.told(LINE + "tawny 0 0 1 2;white 40 2 1 2;");
        int[][] due = {{0, 0, 3, 2, 0, 0}, {2, 40, 3, 2, 0, 0}};
        due[0][5] = due[1][5] = 4 + (360 - 55 + 1);
        for (int owl = 0; owl < 2; owl++) {
            for (int what = 0; what < 6; what++) {
                Check.same("owl " + owl + " " + what, due[owl][what], x.owl(owl, what));
            }
        }
        x.nest(1, true);
        Check.same("catches none", 0, x.owl(1, 3));
        Check.same("nests", 1, x.owl(1, 4));
        Check.same("is with nobody", 0, x.owl(1, 5));
        Check.same("nobody is with it", 0, x.owl(0, 5));
        Check.same("still starts", 40, x.owl(1, 1));
        Check.isThrown("owl 2", NoSuchElementException.class, () -> x.owl(2, 0));
        Check.isThrown("owl -1", NoSuchElementException.class, () -> x.owl(-1, 0));
        Check.isThrown("what 6", NoSuchElementException.class, () -> x.owl(0, 6));
        Check.isThrown("what -1", NoSuchElementException.class, () -> x.owl(0, -1));
    }

    private static void stops() {
        WingTrams x = Check.told(LINE + "tawny 0 0 1 2;barn 100 2 1 0;");
        stopsAre(x, 0, new int[] {0, 0, 3, 1, 13, 15, 2, 20, 23});
        stopsAre(x, 1, new int[] {2, 100, 103, 1, 108, 110, 0, 120, 123});
        x.moon(3);
        stopsAre(x, 1, new int[] {2, 100, 103, 1, 108, 110, 0, 120, 123});
        x.moon(4);
        stopsAre(x, 0, new int[] {0, 0, 3, 1, 13, 15, 2, 20, 23});
        stopsAre(x, 1, new int[] {2, 100, 103, 1, 106, 108, 0, 113, 116});
        x.wet(true);
        stopsAre(x, 0, new int[] {0, 0, 3, 1, 23, 25, 2, 35, 38});
        stopsAre(x, 1, new int[] {2, 100, 103, 1, 109, 111, 0, 121, 124});
        x.nest(1, true);
        stopsAre(x, 1, new int[] {2, -1, -1, 1, -1, -1, 0, -1, -1});
        Check.isThrown("stop 3", NoSuchElementException.class, () -> x.stop(0, 3, 0));
        Check.isThrown("stop -1", NoSuchElementException.class, () -> x.stop(0, -1, 0));
        Check.isThrown("stop of owl 2", NoSuchElementException.class, () -> x.stop(2, 0, 0));
        Check.isThrown("what 3", NoSuchElementException.class, () -> x.stop(0, 0, 3));
        Check.isThrown("what -1", NoSuchElementException.class, () -> x.stop(0, 0, -1));
        Check.isThrown("what 3, nesting", NoSuchElementException.class, () -> x.stop(1, 0, 3));
    }

    private static void stopsAre(WingTrams x, int owl, int[] due) {
        for (int i = 0; i < due.length; i++) {
            Check.same("owl " + owl + " stop " + i / 3 + " " + i % 3, due[i], x.stop(owl, i / 3, i % 3));
        }
    }

    private static void riders() {
        WingTrams x = Check.told(LINE + "rider 0 2 3 5;rider 1 1 400 9;");
        int[][] due = {{0, 2, 3, 5}, {1, 1, 400, 9}};
        for (int rider = 0; rider < 2; rider++) {
            for (int what = 0; what < 4; what++) {
                Check.same("rider " + rider + " " + what, due[rider][what], x.rider(rider, what));
            }
        }
        Check.isThrown("rider 2", NoSuchElementException.class, () -> x.rider(2, 0));
        Check.isThrown("rider -1", NoSuchElementException.class, () -> x.rider(-1, 0));
        Check.isThrown("what 4", NoSuchElementException.class, () -> x.rider(0, 4));
        Check.isThrown("what -1", NoSuchElementException.class, () -> x.rider(0, -1));
    }

    private static void placesOfOwls() {
        WingTrams x = Check.told(LINE + "tawny 1 0 1 2;dawn 60;");
        int[] minutes = {Integer.MIN_VALUE, -1, 0, 1, 4, 5, 13, 14, 16, 17, 20, 21, 61, 2000, Integer.MAX_VALUE};
        int[] due = {-1, -1, -1, 0, 0, -1, -1, 1, 1, -1, -1, 2, 2, 2, 2};
        for (int i = 0; i < due.length; i++) {
            Check.same("where in " + minutes[i], due[i], x.where(0, minutes[i]));
        }
        x.nest(0, true);
        Check.same("nowhere", -1, x.where(0, 1));
        Check.isThrown("owl 1", NoSuchElementException.class, () -> x.where(1, 0));
        Check.isThrown("owl -1", NoSuchElementException.class, () -> x.where(-1, 0));
    }

    /** One grain is two mice: the third owl in the same minute finds none. */
    private static void oneMinuteInOrder() {
        WingTrams x = Check.told("roof 1;roof 0;flight 0 1 6;white 5 0 1;barn 5 0 1;tawny 5 0 1;tawny 4 0 1;");
        int[] left = {8, 7, 7, 7};
        int[] caught = {1, 0, 0, 1};
        for (int owl = 0; owl < 4; owl++) {
            Check.same("leaves in order " + owl, left[owl], x.stop(owl, 0, 2));
            Check.same("catches in order " + owl, caught[owl], x.owl(owl, 3));
        }
        WingTrams y = Check.told("roof 1;roof 0;flight 0 1 6;tawny 0 0 1;hunts 0;");
        Check.same("who doesn't hunt catches none", 0, y.owl(0, 3));
        Check.same("who doesn't hunt leaves at once", 0, y.stop(0, 0, 2));
        WingTrams z = Check.told("roof 0;roof 3;flight 0 1 6;tawny 0 0 1;hunts 1;");
        Check.same("the last roof is hunted on", 1, z.owl(0, 3));
        Check.same("one mouse less", 5, z.roof(1, 2));
    }

    private static void rules() {
        Check.hunts("7", 7);
        Check.hunts("30", 30);
        Check.hunts("31", 30);
        Check.hunts("0-1", 0);
        Check.hunts("9-2-3", 4);
        Check.hunts("2+3*4", 14);
        Check.hunts("(2+3)*4", 20);
        Check.hunts("20/6*2", 6);
        Check.hunts("(0-7)/2+10", 7);
        Check.hunts("7/0+1", 1);
        Check.hunts("9999*9999*9999*0+5", 5);
        Check.hunts("9999*9999*9999<0", 1);
        Check.hunts("9999*9999*9999/(0-9999*9999)", 10);
        Check.hunts("(1<2)+(2<2)+(3<2)", 1);
        Check.hunts("(1=2)+(2=2)", 1);
        Check.hunts("not 0+5", 0);
        Check.hunts("not 0", 1);
        Check.hunts("not not 5", 1);
        Check.hunts("not 1 < 1", 1);
        Check.hunts("5 and 3", 1);
        Check.hunts("5 and 0", 0);
        Check.hunts("0 and 0 or 7", 1);
        Check.hunts("1 or 1 and 0", 1);
        Check.hunts("0 or 0", 0);
        Check.hunts("1+1 or 0", 1);
        Check.hunts("not 0 and 4", 1);
        values();
    }

    private static void values() {
        String[] names = {"mice", "grain", "kind", "stop", "moon", "wet", "hour"};
        int[][] due = {{9, 4, 2, 0, 5, 1, 1}, {2, 1, 2, 1, 5, 1, 2}, {8, 4, 2, 2, 5, 1, 3}};
        for (int i = 0; i < names.length; i++) {
            // An owl ahead of the white one takes a mouse; its stops lie in hours 1, 2 and 3.
            WingTrams x = Check.told("roof 4;roof 1;roof 9;flight 0 1 25;flight 0 2 1;"
                + "tawny 0 2 0;white 119 0 1 0;hunts (kind = 0) + (kind = 2)*" + names[i] + ";");
            x.moon(5);
            x.wet(true);
            for (int stop = 0; stop < 3; stop++) {
                int hunted = x.stop(1, stop, 2) - x.stop(1, stop, 1);
                int minute = x.stop(1, stop, 1);
                int dueNow = i == 6 ? minute / 60 : due[stop][i];
                if (i == 0 && stop == 0) {
                    dueNow = 7;
                }
                if (i == 0 && stop == 2) {
                    dueNow = 6;
                }
                Check.same(names[i] + " at stop " + stop, dueNow, hunted);
            }
        }
        Check.same("hour 0", 0, Check.told("roof 0;tawny 59 0;hunts hour;").stop(0, 0, 2) - 59);
        Check.same("hour 1", 1, Check.told("roof 0;tawny 60 0;hunts hour;").stop(0, 0, 2) - 60);
        Check.same("dry", 0, Check.told("roof 0;tawny 0 0;hunts wet;").stop(0, 0, 2));
    }

    private static void together() {
        String two = "roof 0;roof 0;flight 0 1 9;dawn 60;hunts 5;";
        WingTrams x = Check.told(two + "tawny 0 0 1;tawny 5 0 1;");
        Check.same("one minute, and the last roof from 19 on", 1 + 42, x.owl(0, 5));
        Check.same("one minute, and the last roof from 19 on", 1 + 42, x.owl(1, 5));
        Check.same("a minute between", 41, Check.told(two + "tawny 0 0 1;tawny 6 0 1;").owl(0, 5));
        Check.same("twice in a minute is once", 6 + 47,
            Check.told(two + "tawny 0 0 1;tawny 0 0 1;tawny 0 0 1;").owl(0, 5));
        Check.same("to dawn, that too", 1, Check.told(two + "tawny 0 0;tawny 60 0;").owl(1, 5));
        Check.same("behind dawn", 0, Check.told(two + "tawny 0 0;tawny 61 0;").owl(1, 5));
        Check.same("to the latest dawn", 300, Check.told("roof 0;dawn 599;tawny 0 0;tawny 300 0;").owl(1, 5));
        Check.same("to the latest dawn", 301, Check.told("roof 0;dawn 600;tawny 0 0;tawny 300 0;").owl(0, 5));
        WingTrams y = Check.told(two + "tawny 0 0 1;tawny 5 0 1;");
        y.nest(1, true);
        Check.same("alone", 0, y.owl(0, 5));
    }
}
