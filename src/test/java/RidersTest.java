import java.util.NoSuchElementException;

/** Promises 19 to 23 and 36: who gets home when, by which owls, for how much. */
public final class RidersTest {
    private static final String CITY = "roof 0;roof 0;roof 0;roof 0;roof 0;"
        + "flight 0 1 10;flight 1 2 10;flight 2 3 10;flight 0 3 40;flight 3 4 10;hunts 2;"
        + "white 0 0 3;tawny 0 0 1;tawny 12 1 2 3;";
    private static final String PEOPLE = "rider 0 3 0 0;rider 3 3 7 0;rider 0 3 2 0;rider 0 3 3 9;"
        + "rider 3 3 361 9;rider 1 2 13 0;rider 3 0 0 9;rider 2 2 360 0;";

    public static void main(String[] args) {
        neverAtOnce();
        allRiders();
        dawns();
        changingOnTheWay();
        lastOwls();
        passingTwice();
        reaching();
        wrongRiders();
        Check.end();
    }

    private static void neverAtOnce() {
        Check.same("never", 8 + 16 + 64, Check.told(CITY + PEOPLE).never());
    }

    private static void allRiders() {
        WingTrams x = Check.told(CITY + PEOPLE);
        int[] home = {36, 7, 36, -1, -1, 24, -1, 360};
        int[] changes = {0, 0, 0, -1, -1, 0, -1, 0};
        int[] cheapest = {2, 0, 2, -1, -1, 1, -1, 0};
        int[] last = {2, -1, 2, -1, -1, 2, -1, -1};
        for (int rider = 0; rider < 8; rider++) {
            Check.same("home of " + rider, home[rider], x.home(rider));
            Check.same("changes of " + rider, changes[rider], x.changes(rider));
            Check.same("cheapest of " + rider, cheapest[rider], x.cheapest(rider));
            Check.same("last of " + rider, last[rider], x.last(rider));
        }
        Check.same("never", 8 + 16 + 64, x.never());
        Check.same("how many", 5, x.count(10));
        x.nest(1, true);
        Check.same("by the white owl", 42, x.home(0));
        Check.same("by the white owl", 3, x.cheapest(0));
        Check.same("by the white owl", 0, x.last(0));
        x.nest(0, true);
        Check.same("by none", -1, x.home(0));
        Check.same("never", 1 + 4 + 8 + 16 + 64, x.never());
        Check.same("never in an empty city", 0, new WingTrams().never());
    }

    /** The white owl comes at 92, the tawny ones, with a change, at 86. */
    private static void dawns() {
        String late = CITY.replace("0 0 3", "50 0 3").replace("0 0 1;tawny 12", "50 0 1;tawny 62")
            + "rider 0 3 0 0;";
        WingTrams x = Check.told(late + "dawn 92;");
        Check.same("home", 86, x.home(0));
        Check.same("one owl by dawn", 0, x.changes(0));
        x = Check.told(late + "dawn 91;");
        Check.same("two owls by dawn", 1, x.changes(0));
        x = Check.told(late + "dawn 86;");
        Check.same("in dawn", 86, x.home(0));
        Check.same("in dawn", 2, x.cheapest(0));
        x = Check.told(late + "dawn 85;");
        Check.same("behind dawn", -1, x.home(0));
        Check.same("behind dawn", -1, x.changes(0));
        Check.same("behind dawn", -1, x.cheapest(0));
        Check.same("behind dawn", -1, x.last(0));
        Check.same("behind dawn", 1, x.never());
        Check.same("behind dawn", 0, x.count(10));
        Check.same("reach doesn't ask for dawn", 15, x.reach(0, 86));
    }

    /** The first owl stays 5 minutes on roof 1: who comes there as it leaves still gets on. */
    private static void changingOnTheWay() {
        String city = "roof 0;roof 0;roof 0;flight 0 1 10;flight 1 2 10;"
            + "tawny 20 1 2;hunts 5;rider 0 2 0 0;";
        Check.same("as it leaves", 35, Check.told(city + "barn 10 0 1;").home(0));
        Check.same("a minute too late", -1, Check.told(city + "barn 11 0 1;").home(0));
        WingTrams x = Check.told(city + "barn 10 0 1;");
        Check.same("a change", 1, x.changes(0));
        Check.same("tawny and barn", 3, x.cheapest(0));
        WingTrams y = Check.told("roof 0;roof 0;roof 0;flight 0 1 10;flight 1 2 10;hunts 2;rider 0 2 0 0;"
            + "tawny 0 0 1;tawny 5 0 1;tawny 12 1 2;");
        Check.same("by the sooner of two", 1, y.changes(0));
        Check.same("by the sooner of two", 2, y.cheapest(0));
        // On at the last roof of a way one can't get.
        Check.same("it goes no further", -1, Check.told("roof 0;roof 0;flight 0 1 5;tawny 0 0 1;"
            + "rider 1 0 0 0;").home(0));
        Check.same("not back on a way", -1, Check.told("roof 0;roof 0;flight 0 1 5;tawny 0 0 1;"
            + "tawny 50 1;rider 1 0 0 0;").changes(0));
    }

    private static void lastOwls() {
        String city = "roof 0;roof 0;roof 0;flight 0 1 10;flight 0 2 4;flight 2 1 4;hunts 2;rider 0 1 0 0;";
        Check.same("the least of two", 0, Check.told(city + "white 0 0 1;tawny 0 0 2 1;").last(0));
        Check.same("the least of two", 0, Check.told(city + "tawny 0 0 2 1;white 0 0 1;").last(0));
        Check.same("the sooner one", 1, Check.told(city + "white 1 0 1;tawny 0 0 2 1;").last(0));
        Check.same("one that he can't be on isn't", 1,
            Check.told(city + "tawny 6 2 1;white 0 0 1;").last(0));
        Check.same("on as it leaves", 0, Check.told(city.replace("rider 0 1 0 0", "rider 0 1 2 0")
            + "tawny 0 0 1;").last(0));
        Check.same("a change as it leaves", 1, Check.told(city + "tawny 0 0 2;tawny 4 2 1;").last(0));
        WingTrams white = Check.told("roof 0;".repeat(6) + "flight 0 1 1;flight 1 2 1;flight 2 3 1;flight 3 4 1;"
            + "flight 4 5 1;hunts 0;white 0 0 1;white 1 1 2;white 2 2 3;white 3 3 4;white 4 4 5;rider 0 5 0 0;");
        Check.same("five white owls", 15, white.cheapest(0));
        Check.same("four changes", 4, white.changes(0));
        Check.same("the last of five", 4, white.last(0));
        Check.same("cheaper than sooner", 1, Check.told(city + "white 0 0 1;tawny 5 0 1;").cheapest(0));
    }

    /** A way may pass a roof more than once. */
    private static void passingTwice() {
        WingTrams x = Check.told("roof 0;roof 0;flight 0 1 10;hunts 2;tawny 0 0 1 0 1 0;"
            + "rider 0 1 3 0;rider 0 1 0 0;rider 1 0 27 0;");
        Check.same("on at the second time", 36, x.home(0));
        Check.same("on at the first time", 12, x.home(1));
        Check.same("off at the last", 48, x.home(2));
        Check.same("one owl", 0, x.changes(0));
    }

    private static void reaching() {
        WingTrams x = Check.told(CITY + PEOPLE);
        int[] minutes = {Integer.MIN_VALUE, -1, 0, 11, 12, 23, 24, 35, 36, 400, Integer.MAX_VALUE};
        int[] due = {0, 0, 1, 1, 3, 3, 7, 7, 15, 15, 15};
        for (int i = 0; i < due.length; i++) {
            Check.same("reach by " + minutes[i], due[i], x.reach(0, minutes[i]));
        }
        Check.same("ahead of his minute", 0, x.reach(4, 360));
        Check.same("in his minute", 8, x.reach(4, 361));
        Check.same("whoever gets nowhere", 8, x.reach(6, 1000));
    }

    private static void wrongRiders() {
        WingTrams x = Check.told(CITY + "rider 0 3 0 0;");
        for (int rider = -1; rider < 2; rider += 2) {
            int wrong = rider;
            Check.isThrown("home", NoSuchElementException.class, () -> x.home(wrong));
            Check.isThrown("changes", NoSuchElementException.class, () -> x.changes(wrong));
            Check.isThrown("cheapest", NoSuchElementException.class, () -> x.cheapest(wrong));
            Check.isThrown("last", NoSuchElementException.class, () -> x.last(wrong));
            Check.isThrown("reach", NoSuchElementException.class, () -> x.reach(wrong, 5));
        }
    }
}
