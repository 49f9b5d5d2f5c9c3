import java.util.NoSuchElementException;

/** Promises 24 to 29: grain that lures, beams, straps, what an owl is worth. */
public final class PlansTest {
    // Each grain more on roof 0 or 1 brings the owl home 2 minutes sooner than at 40.
    private static final String LURE = "roof 0;roof 0;roof 0;flight 0 1 10;flight 1 2 10;tawny 0 0 1 2;"
        + "rider 0 2 0 0;rider 0 1 0 0;rider 2 2 30 0;hunts 10-mice;";

    public static void main(String[] args) {
        luring();
        luringUpToNine();
        luringByDawn();
        beams();
        straps();
        strapsOnTheWay();
        worths();
        Check.end();
    }

    private static void luring() {
        WingTrams x = Check.told(LURE);
        Check.isThrown("no row yet", NoSuchElementException.class, () -> x.more(0));
        Check.same("none at all", -1, x.lure(1, 33));
        Check.isThrown("no row yet", NoSuchElementException.class, () -> x.more(0));
        lured(x, 1, 40, 0, 0, 0, 0);
        lured(x, 1, 39, 1, 0, 1, 0);
        lured(x, 1, 38, 1, 0, 1, 0);
        lured(x, 1, 37, 2, 0, 2, 0);
        lured(x, 1, 34, 3, 0, 3, 0);
        lured(x, 2, 19, 1, 1, 0, 0);
        lured(x, 3, 36, 2, 0, 2, 0);
        lured(x, 3, 18, -1, 0, 2, 0);
        lured(x, 2, 14, 3, 3, 0, 0);
        lured(x, 2, 13, -1, 3, 0, 0);
        lured(x, 7, 30, -1, 3, 0, 0);
        lured(x, 4, 30, 0, 0, 0, 0);
        lured(x, 4, 29, -1, 0, 0, 0);
        lured(x, 0, 0, 0, 0, 0, 0);
        Check.same("grain stays", 0, x.roof(0, 0));
        Check.same("no acts", 0, x.count(11));
        Check.isThrown("riders there aren't", IllegalArgumentException.class, () -> x.lure(8, 5));
        Check.isThrown("riders there aren't", IllegalArgumentException.class, () -> x.lure(-1, 5));
        Check.isThrown("bit 31", IllegalArgumentException.class, () -> x.lure(Integer.MIN_VALUE, 5));
        Check.isThrown("a minute below 0", IllegalArgumentException.class, () -> x.lure(1, -1));
        Check.isThrown("roof 3", NoSuchElementException.class, () -> x.more(3));
        Check.isThrown("roof -1", NoSuchElementException.class, () -> x.more(-1));
        x.grain(0, 1);
        lured(x, 1, 38, 0, 0, 0, 0);
        WingTrams y = Check.told(LURE.replace("0 0 1 2", "0 2 1 0").replace("rider 0 2", "rider 2 0"));
        lured(y, 1, 38, 1, 0, 0, 1);
        lured(y, 1, 36, 2, 0, 0, 2);
        lured(y, 1, 34, 3, 0, 0, 3);
        y.grain(2, 7);
        lured(y, 1, 26, 2, 0, 2, 0);
        WingTrams one = Check.told("roof 0;rider 0 0 9 0;");
        lured(one, 1, 9, 0, 0);
        lured(one, 1, 8, -1, 0);
        Check.same("of an empty city", 0, new WingTrams().lure(0, 0));
        Check.isThrown("of an empty city", IllegalArgumentException.class, () -> new WingTrams().lure(1, 0));
    }

    private static void lured(WingTrams x, int riders, int minute, int due, int... row) {
        Check.same("lure " + riders + " by " + minute, due, x.lure(riders, minute));
        for (int roof = 0; roof < row.length; roof++) {
            Check.same("lure " + riders + " by " + minute + ": roof " + roof, row[roof], x.more(roof));
        }
    }

    private static void luringUpToNine() {
        WingTrams x = Check.told(LURE.replace("10-mice", "30-mice"));
        x.grain(1, 8);
        Check.same("minutes", 64, x.home(0));
        lured(x, 1, 62, 1, 0, 1, 0);
        lured(x, 1, 60, 2, 1, 1, 0);
        lured(x, 1, 58, 3, 2, 1, 0);
        x.grain(1, 9);
        lured(x, 1, 60, 1, 1, 0, 0);
    }

    private static void luringByDawn() {
        WingTrams x = Check.told(LURE.replace("10-mice", "30-mice") + "dawn 76;");
        lured(x, 1, 1000, 2, 0, 2, 0);
        lured(x, 1, Integer.MAX_VALUE, 2, 0, 2, 0);
        x = Check.told(LURE.replace("10-mice", "30-mice") + "dawn 73;");
        Check.same("not by dawn", -1, x.lure(1, 80));
    }

    private static void beams() {
        WingTrams x = Check.told("roof 0;roof 0;roof 0;roof 0;roof 0;flight 0 1 10;flight 1 2 10;"
            + "flight 2 3 10;flight 0 2 15;rider 0 0 0 0;rider 0 3 0 0;rider 0 2 0 0;rider 0 2 0 0;");
        beamed(x, 0, 0, 0, 0);
        beamed(x, 0, 200, 0, 0);
        beamed(x, 1, 0, 2, 4);
        beamed(x, 2, 0, 3, 5);
        beamed(x, 3, 0, 4, 13);
        beamed(x, 1, 9, 2, 4);
        beamed(x, 1, 10, 3, 2);
        beamed(x, 1, 14, 3, 2);
        beamed(x, 1, 15, 4, 4);
        beamed(x, 1, 20, 4, 2);
        beamed(x, 1, 25, 4, 1);
        beamed(x, 2, 25, 4, 3);
        beamed(x, 5, 0, 4, 31);
        beamed(x, 6, 0, -1, -1);
        beamed(x, 10, 200, -1, -1);
        Check.isThrown("what 2", NoSuchElementException.class, () -> x.beams(0, 0, 2));
        Check.isThrown("what ahead", NoSuchElementException.class, () -> x.beams(-1, 0, -1));
        Check.isThrown("-1 beams", IllegalArgumentException.class, () -> x.beams(-1, 0, 0));
        Check.isThrown("11 beams", IllegalArgumentException.class, () -> x.beams(11, 0, 1));
        Check.isThrown("-1 minutes", IllegalArgumentException.class, () -> x.beams(0, -1, 0));
        Check.isThrown("201 minutes", IllegalArgumentException.class, () -> x.beams(0, 201, 0));
        x.wet(true);
        x.moon(7);
        beamed(x, 1, 25, 4, 1);
        String four = "roof 0;roof 0;roof 0;roof 0;";
        beamed(Check.told(four + "flight 1 0 10;flight 0 2 10;flight 1 3 20;rider 0 2 0 0;rider 0 3 0 0;"), 1, 20, 2, 2);
        beamed(Check.told(four + "flight 2 1 10;flight 1 0 10;flight 2 3 20;rider 0 0 0 0;rider 0 3 0 0;"), 1, 20, 2, 4);
    }

    private static void beamed(WingTrams x, int many, int minutes, int riders, int set) {
        Check.same("beams " + many + " by " + minutes, riders, x.beams(many, minutes, 0));
        Check.same("beams " + many + " by " + minutes + " set", set, x.beams(many, minutes, 1));
    }

    private static void straps() {
        String city = "roof 0;roof 0;flight 0 1 10;hunts 2;";
        String four = "rider 0 1 0 0;rider 0 1 0 0;rider 0 1 0 0;rider 0 1 0 0;";
        WingTrams x = Check.told(city + "tawny 0 0 1;tawny 5 0 1;" + four);
        Check.same("a strap each", 2, x.straps(1));
        Check.same("two each", 4, x.straps(2));
        Check.same("eight each", 4, x.straps(8));
        Check.isThrown("none", IllegalArgumentException.class, () -> x.straps(0));
        Check.isThrown("nine", IllegalArgumentException.class, () -> x.straps(9));
        x.nest(0, true);
        Check.same("one nests", 1, x.straps(1));
        Check.same("who is there takes none", 3,
            Check.told(city + "tawny 0 0 1;rider 1 1 0 0;rider 1 1 9 0;rider 0 1 0 0;rider 0 1 0 0;").straps(1));
        Check.same("who is there behind dawn isn't", 0, Check.told(city + "dawn 60;rider 1 1 61 0;").straps(1));
        Check.same("who is there in dawn is", 1, Check.told(city + "dawn 60;rider 1 1 60 0;").straps(1));
        Check.same("not behind dawn", 0, Check.told(city + "dawn 60;tawny 49 0 1;" + four).straps(8));
        Check.same("in dawn", 4, Check.told(city + "dawn 60;tawny 48 0 1;" + four).straps(8));
        Check.same("without a change", 0, Check.told(city + "roof 0;flight 1 2 5;tawny 0 0 1;"
            + "tawny 20 1 2;rider 0 2 0 0;").straps(8));
        Check.same("by none", 0, new WingTrams().straps(1));
    }

    private static void strapsOnTheWay() {
        String city = "roof 0;roof 0;roof 0;flight 0 1 10;flight 1 2 10;hunts 2;";
        Check.same("one off, one on", 2, Check.told(city + "tawny 0 0 1 2;rider 0 1 0 0;rider 1 2 0 0;").straps(1));
        Check.same("one on, one off", 2, Check.told(city + "tawny 0 0 1 2;rider 1 2 0 0;rider 0 1 0 0;").straps(1));
        Check.same("all along", 1, Check.told(city + "tawny 0 0 1 2;rider 0 2 0 0;rider 1 2 0 0;rider 0 1 0 0;").straps(1));
        // The first takes the sooner owl, the least of like ones; the second has none left for roof 2.
        Check.same("the soonest", 2, Check.told(city + "tawny 5 0 1;tawny 0 0 1 2;rider 0 1 0 0;rider 1 2 0 0;"
            + "rider 0 2 0 0;").straps(1));
        Check.same("the least of like ones", 2, Check.told(city + "tawny 0 0 1;tawny 0 0 1 2;rider 0 1 0 0;"
            + "rider 0 2 0 0;").straps(1));
        Check.same("the least of like ones is the long way", 1, Check.told(city + "tawny 0 0 1 2;tawny 0 0 1;"
            + "rider 0 1 0 0;rider 0 2 0 0;").straps(1));
        // On at the second time it passes roof 0, so the first part of the way stays free.
        Check.same("on at the last one", 2, Check.told(city + "tawny 0 0 1 0 1 2;rider 0 2 0 0;rider 0 1 0 0;").straps(1));
        // Off at the second time it passes roof 1: full at first.
        Check.same("a later time", 2, Check.told(city + "tawny 0 0 1 0 1;rider 0 1 0 0;rider 0 1 0 0;").straps(1));
        Check.same("both times full", 2, Check.told(city + "tawny 0 0 1 0 1;" + "rider 0 1 0 0;".repeat(3)).straps(1));
        Check.same("in the minute it leaves", 1, Check.told(city + "tawny 0 0 1;rider 0 1 2 0;").straps(1));
        Check.same("a minute later", 0, Check.told(city + "tawny 0 0 1;rider 0 1 3 0;").straps(1));
    }

    private static void worths() {
        String city = "roof 1;roof 0;roof 0;flight 0 1 10;flight 1 2 10;dawn 60;";
        WingTrams x = Check.told(city + "tawny 0 0 1;tawny 0 0 1;tawny 12 1 2;white 50 0;"
            + "rider 0 2 0 0;rider 1 2 0 0;rider 0 1 0 0;");
        int[] worth = {0, 0, 2, 0};
        for (int owl = 0; owl < 4; owl++) {
            Check.same("worth of " + owl, worth[owl], x.worth(owl));
        }
        Check.same("vital", 4, x.vital());
        x.nest(0, true);
        Check.same("it nests", 0, x.worth(0));
        Check.same("now it is worth two", 2, x.worth(1));
        Check.same("vital", 6, x.vital());
        Check.same("nobody nests by asking", 1, x.count(9));
        Check.same("no acts by asking", 1, x.count(11));
        Check.isThrown("owl 4", NoSuchElementException.class, () -> x.worth(4));
        Check.isThrown("owl -1", NoSuchElementException.class, () -> x.worth(-1));
        // Two mice: the third owl finds none and stays too long, unless another one nests.
        WingTrams y = Check.told(city + "tawny 0 0;tawny 0 0;tawny 25 0 1;rider 0 1 0 0;hunts 1+(mice=0)*29;");
        Check.same("worth less than none", -1, y.worth(0));
        Check.same("nothing is vital", 0, y.vital());
        WingTrams z = Check.told(city + "tawny 0 0 1;tawny 0 0 1 2;rider 0 1 0 0;rider 0 2 0 0;rider 0 0 0 0;");
        Check.same("one rider is enough", 2, z.vital());
        z.nest(1, true);
        Check.same("the first one", 1, z.vital());
        Check.same("of no owls", 0, new WingTrams().vital());
    }
}
