import java.util.NoSuchElementException;

/** Promises 12 to 18, 41 and 42: acts, undoing them, the image. */
public final class ActsTest {
    private static final String CITY = "roof 1;roof 9;flight 0 1 10;tawny 7 0 1;barn 20 1 0;"
        + "rider 0 1 0 0;hunts 1;hunts 2;";

    public static void main(String[] args) {
        obeying();
        moons();
        wetNights();
        nesting();
        graining();
        starting();
        undoing();
        fortyActs();
        mixedActs();
        images();
        imagesOfActs();
        Check.end();
    }

    private static void obeying() {
        WingTrams x = Check.told(CITY);
        Check.same("obey 1", true, x.obey(1));
        Check.same("in force", 1, x.count(5));
        Check.same("by it", 9, x.stop(0, 0, 2));
        Check.same("obey none", true, x.obey(-1));
        Check.same("by none", 10, x.stop(0, 0, 2));
        Check.same("none in force", -1, x.count(5));
        Check.same("obey 2", false, x.obey(2));
        Check.same("obey -2", false, x.obey(-2));
        Check.same("as it was", -1, x.count(5));
        Check.same("acts", 2, x.count(11));
        Check.same("refused", 2, x.count(15));
        Check.same("undo", 1, x.undo());
        Check.same("back", 1, x.count(5));
        Check.same("undo", 0, x.undo());
        Check.same("back at first", 0, x.count(5));
        WingTrams none = new WingTrams();
        Check.same("none of none", true, none.obey(-1));
        Check.same("the first of none", false, none.obey(0));
    }

    private static void moons() {
        WingTrams x = Check.told(CITY);
        Check.same("as it was", 0, x.moon(7));
        Check.same("as it was", 7, x.moon(0));
        Check.same("as it was", 0, x.moon(4));
        Check.same("too great", -1, x.moon(8));
        Check.same("too small", -1, x.moon(-1));
        Check.same("moon", 4, x.count(7));
        Check.same("refused", 2, x.count(15));
        Check.same("barn owls fly faster", 26, x.stop(1, 1, 1));
        Check.same("the same again is an act, too", 4, x.moon(4));
        Check.same("acts", 4, x.count(11));
        Check.same("undo", 3, x.undo());
        Check.same("still", 4, x.count(7));
        Check.same("undo", 2, x.undo());
        Check.same("back", 0, x.count(7));
        Check.same("undo", 1, x.undo());
        Check.same("back", 7, x.count(7));
    }

    private static void wetNights() {
        WingTrams x = Check.told(CITY);
        Check.same("was dry", false, x.wet(true));
        Check.same("was wet", true, x.wet(true));
        Check.same("twice as long", 28, x.stop(0, 1, 1));
        Check.same("was wet", true, x.wet(false));
        Check.same("dry", 0, x.count(8));
        Check.same("undo", 2, x.undo());
        Check.same("wet again", 1, x.count(8));
        x.undo();
        Check.same("wet still", 1, x.count(8));
        x.undo();
        Check.same("dry at first", 0, x.count(8));
    }

    private static void nesting() {
        WingTrams x = Check.told(CITY);
        Check.same("flies already", false, x.nest(0, false));
        Check.same("nests", true, x.nest(0, true));
        Check.same("nests already", false, x.nest(0, true));
        Check.same("the other, too", true, x.nest(1, true));
        Check.same("bits", 3, x.count(9));
        Check.same("nobody gets home", 0, x.count(10));
        Check.same("flies", true, x.nest(0, false));
        Check.same("bits", 2, x.count(9));
        Check.same("refused", 2, x.count(15));
        Check.same("acts", 3, x.count(11));
        x.undo();
        Check.same("bits", 3, x.count(9));
        x.undo();
        Check.same("bits", 1, x.count(9));
        x.undo();
        Check.same("bits", 0, x.count(9));
        Check.isThrown("owl 2", NoSuchElementException.class, () -> x.nest(2, true));
        Check.isThrown("owl -1", NoSuchElementException.class, () -> x.nest(-1, false));
        Check.same("not refused", 2, x.count(15));
    }

    private static void graining() {
        WingTrams x = Check.told(CITY);
        Check.same("as it was", 1, x.grain(0, 0));
        Check.same("as it was", 9, x.grain(1, 4));
        Check.same("as it was", 4, x.grain(1, 9));
        Check.same("too great", -1, x.grain(1, 10));
        Check.same("too small", -1, x.grain(1, -1));
        Check.same("grain", 9, x.roof(1, 0));
        Check.same("refused", 2, x.count(15));
        x.undo();
        Check.same("grain", 4, x.roof(1, 0));
        x.undo();
        x.undo();
        Check.same("grain", 1, x.roof(0, 0));
        Check.isThrown("roof 2", NoSuchElementException.class, () -> x.grain(2, 10));
        Check.isThrown("roof -1", NoSuchElementException.class, () -> x.grain(-1, 1));
        Check.same("not refused", 2, x.count(15));
    }

    private static void starting() {
        WingTrams x = Check.told(CITY);
        Check.same("as it was", 7, x.start(0, 300));
        Check.same("as it was", 20, x.start(1, 0));
        Check.same("too late", -1, x.start(0, 301));
        Check.same("too soon", -1, x.start(0, -1));
        Check.same("its minute", 300, x.owl(0, 1));
        Check.same("its minute", 0, x.stop(1, 0, 1));
        Check.same("refused", 2, x.count(15));
        x.undo();
        Check.same("back", 20, x.owl(1, 1));
        Check.same("the other not", 300, x.owl(0, 1));
        x.undo();
        Check.same("back", 7, x.owl(0, 1));
        Check.isThrown("owl 2", NoSuchElementException.class, () -> x.start(2, 5));
        Check.isThrown("owl -1", NoSuchElementException.class, () -> x.start(-1, 500));
        Check.same("not refused", 2, x.count(15));
    }

    private static void undoing() {
        WingTrams x = Check.told(CITY);
        Check.same("none", -1, x.undo());
        Check.same("not refused", 0, x.count(15));
        x.moon(1);
        x.wet(true);
        x.nest(1, true);
        x.grain(0, 5);
        x.start(1, 2);
        x.obey(1);
        for (int left = 5; left >= 0; left--) {
            Check.same("left", left, x.undo());
            Check.same("rule", 0, x.count(5));
            Check.same("start", left == 5 ? 2 : 20, x.owl(1, 1));
            Check.same("grain", left >= 4 ? 5 : 1, x.roof(0, 0));
            Check.same("nest", left >= 3 ? 1 : 0, x.owl(1, 4));
            Check.same("wet", left >= 2 ? 1 : 0, x.count(8));
            Check.same("moon", left >= 1 ? 1 : 0, x.count(7));
        }
        Check.same("none", -1, x.undo());
    }

    private static void fortyActs() {
        WingTrams x = Check.told(CITY);
        for (int i = 1; i <= 45; i++) {
            x.start(0, 100 + i);
            Check.same("kept", Math.min(i, 40), x.count(11));
        }
        for (int left = 39; left >= 0; left--) {
            Check.same("left", left, x.undo());
            Check.same("minute", 105 + left, x.owl(0, 1));
        }
        Check.same("none", -1, x.undo());
        Check.same("the first ones stay", 105, x.owl(0, 1));
    }

    /** Acts of all kinds, of which the first ones are dropped; roofs and owls take turns. */
    private static void mixedActs() {
        WingTrams x = Check.told(CITY);
        int[] grains = new int[50];
        int[] minutes = new int[50];
        for (int i = 0; i < 50; i++) {
            grains[i] = 100 * x.roof(0, 0) + x.roof(1, 0);
            minutes[i] = 1000 * x.owl(0, 1) + x.owl(1, 1);
            if (i % 3 == 0) {
                x.grain(i % 2, i % 10);
            } else if (i % 3 == 1) {
                x.start(i % 2, i);
            } else {
                x.moon(i % 8);
            }
        }
        for (int i = 49; i >= 10; i--) {
            Check.same("left", i - 10, x.undo());
            Check.same("grain ahead of " + i, grains[i], 100 * x.roof(0, 0) + x.roof(1, 0));
            Check.same("minutes ahead of " + i, minutes[i], 1000 * x.owl(0, 1) + x.owl(1, 1));
        }
        Check.same("none", -1, x.undo());
    }

    /** The acts of an image are its own: others in their places don't touch them. */
    private static void imagesOfActs() {
        WingTrams x = Check.told(CITY);
        x.grain(1, 3);
        x.start(1, 200);
        x.see(1, 210, -1);
        x.image();
        x.undo();
        x.undo();
        x.forget();
        x.moon(5);
        x.obey(1);
        x.see(0, 0, 0);
        x.restore();
        Check.same("seen", 16, x.fits() & 16);
        Check.same("acts", 1, x.undo());
        Check.same("its minute", 20, x.owl(1, 1));
        Check.same("acts", 0, x.undo());
        Check.same("its grain", 9, x.roof(1, 0));
        Check.same("moon", 0, x.count(7));
    }

    private static void images() {
        WingTrams x = Check.told(CITY);
        Check.same("none", false, x.restore());
        x.moon(3);
        x.nest(1, true);
        x.see(0, 7, 0);
        x.image();
        x.obey(1);
        x.moon(6);
        x.wet(true);
        x.nest(1, false);
        x.nest(0, true);
        x.grain(1, 2);
        x.start(0, 50);
        x.see(1, 8, 1);
        x.moon(9);
        x.lure(0, 5);
        for (int again = 0; again < 2; again++) {
            Check.same("there is one", true, x.restore());
            Check.same("rule", 0, x.count(5));
            Check.same("moon", 3, x.count(7));
            Check.same("wet", 0, x.count(8));
            Check.same("nests", 2, x.count(9));
            Check.same("grain", 9, x.roof(1, 0));
            Check.same("minute", 7, x.owl(0, 1));
            Check.same("acts", 2, x.count(11));
            Check.same("seen", 1, x.count(12));
            Check.same("what is seen", 19, x.fits());
            Check.same("refused still", 1, x.count(15));
            Check.same("the row is kept still", 0, x.more(0));
            Check.same("acts are the image's", 1, x.undo());
            Check.same("it flies", 0, x.count(9));
            Check.same("acts are the image's", 0, x.undo());
            Check.same("moon", 0, x.count(7));
            x.forget();
        }
        x.image();
        x.moon(5);
        Check.same("another one", true, x.restore());
        Check.same("moon of the other", 0, x.count(7));
        Check.same("seen of the other", 0, x.count(12));
        Check.tell(x, "roof x;");
        Check.same("a fault leaves it", true, x.restore());
        Check.tell(x, CITY);
        Check.same("a city doesn't", false, x.restore());
        WingTrams none = new WingTrams();
        none.image();
        none.moon(2);
        Check.same("of a new object", true, none.restore());
        Check.same("moon", 0, none.count(7));
    }
}
