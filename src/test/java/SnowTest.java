import java.util.NoSuchElementException;

/** Promises 30 to 33: what is seen, which rules fit, where to watch. */
public final class SnowTest {
    // The owl comes to roof 1 at 10 by the rule 0, 15 by 5, 40 by 30, 12 without one.
    private static final String CITY = "roof 0;roof 0;flight 0 1 10;tawny 0 0 1;hunts 0;hunts 5;hunts 30;";

    public static void main(String[] args) {
        seeing();
        fitting();
        watching();
        watchingTies();
        Check.end();
    }

    private static void seeing() {
        WingTrams x = Check.told(CITY);
        Check.same("seen", 1, x.see(0, 0, 0));
        Check.same("seen", 2, x.see(0, 600, 1));
        Check.same("on none", 3, x.see(0, 9, -1));
        Check.same("the same again", 4, x.see(0, 9, -1));
        Check.same("no such roof", -1, x.see(0, 5, 2));
        Check.same("no such roof", -1, x.see(0, 5, -2));
        Check.same("too late", -1, x.see(0, 601, 0));
        Check.same("too soon", -1, x.see(0, -1, 0));
        Check.isThrown("owl 1", NoSuchElementException.class, () -> x.see(1, 5, 0));
        Check.isThrown("owl -1", NoSuchElementException.class, () -> x.see(-1, 601, 9));
        Check.same("refused", 4, x.count(16));
        for (int i = 5; i <= 8; i++) {
            Check.same("seen", i, x.see(0, 0, 0));
        }
        Check.same("there are eight", -1, x.see(0, 0, 0));
        Check.isThrown("owl 1 ahead", NoSuchElementException.class, () -> x.see(1, 5, 0));
        Check.same("refused", 5, x.count(16));
        Check.same("seen", 8, x.count(12));
        x.forget();
        Check.same("forgotten", 0, x.count(12));
        Check.same("refused still", 5, x.count(16));
        Check.same("anew", 1, x.see(0, 0, 0));
    }

    private static void fitting() {
        WingTrams x = Check.told(CITY);
        Check.same("nothing seen", 23, x.fits());
        x.see(0, 12, 1);
        Check.same("there at 12", 1 + 16, x.fits());
        x.see(0, 11, -1);
        Check.same("on none at 11", 16, x.fits());
        x.see(0, 0, 1);
        Check.same("no rule", 0, x.fits());
        x.forget();
        Check.same("forgotten", 23, x.fits());
        x.see(0, 2, 0);
        Check.same("still there at 2", 2 + 4 + 16, x.fits());
        x.obey(2);
        Check.same("whichever is in force", 2 + 4 + 16, x.fits());
        x.start(0, 2);
        Check.same("all else as it is", 23, x.fits());
        x.nest(0, true);
        Check.same("it isn't there", 0, x.fits());
        x.forget();
        x.see(0, 50, -1);
        Check.same("it is on none", 23, x.fits());
        Check.same("none is in force still", 2, x.count(5));
        Check.same("without rules", 16, Check.told("roof 0;").fits());
        Check.same("all four", 31, Check.told("hunts 1;hunts 1;hunts 1;hunts 1;").fits());
    }

    private static void watching() {
        WingTrams x = Check.told(CITY);
        // In 12 on roof 0 by one of four rules, on roof 1 by two.
        Check.same("half of them", 1, x.watch(12));
        Check.same("all or none, the least", 0, x.watch(0));
        Check.same("two on 0, none on 1", 0, x.watch(5));
        Check.same("all or none", 0, x.watch(700));
        Check.same("ahead of all", 0, x.watch(-1));
        Check.same("ahead of all", 0, x.watch(Integer.MIN_VALUE));
        Check.same("behind all", 0, x.watch(Integer.MAX_VALUE));
        Check.same("no roofs", -1, new WingTrams().watch(0));
        x.see(0, 2, 0);
        // Of 5, 30 and none: in 12 by none on 1, by 30 on 0.
        Check.same("one of three", 0, x.watch(12));
        Check.same("two of three", 0, x.watch(3));
        x.see(0, 2, 1);
        Check.same("by none of them", 0, x.watch(12));
    }

    private static void watchingTies() {
        WingTrams x = Check.told("roof 0;roof 0;roof 0;flight 0 1 10;flight 1 2 10;tawny 0 0 1 2;tawny 100 2 1;"
            + "tawny 100 2;hunts 0;hunts 1;");
        // Rules 0, 1 and none: on roof 1 at 10, 11, 12 and one or two minutes on.
        Check.same("two of three", 1, x.watch(12));
        Check.same("one of three", 1, x.watch(10));
        Check.same("all or none", 0, x.watch(100));
        Check.same("some owl", 1, x.watch(111));
        // In 11 by the rule 30 on roofs 0 and 2, by 0 on roof 1.
        Check.same("two owls on a roof count once", 0, Check.told("roof 0;roof 0;roof 0;flight 0 1 10;flight 2 1 10;"
            + "tawny 0 0 1;tawny 0 2 1;hunts 0;hunts 5;hunts 30;").watch(11));
    }
}
