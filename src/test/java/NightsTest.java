import java.util.NoSuchElementException;

/** Promises 34, 35 and 37 to 40: bats, years, being late, the best rule, moon and owl. */
public final class NightsTest {
    private static final int[] SEEDS = {5, 0, -1, 2147483647, 123456};
    /** How many of the first 1, 10 and 60 nights of a seed are dry. */
    private static final int[][] DRY = {{1, 5, 43}, {0, 7, 44}, {1, 8, 43}, {1, 8, 43}, {1, 6, 36}};

    public static void main(String[] args) {
        bats();
        years();
        yearsOfMoons();
        lateness();
        bestRules();
        brightMoons();
        hunters();
        Check.end();
    }

    private static void bats() {
        String riders = "roof 0;rider 0 0 0 ";
        WingTrams x = Check.told("roof 0;rider 0 0 0 4;rider 0 0 0 1;rider 0 0 0 9;");
        Check.same("couples", 3, x.bats(0));
        Check.same("the first", 11, x.bats(1));
        Check.same("nobody has two", 81, Check.told(riders + "1;").bats(0));
        Check.same("nobody", 81, new WingTrams().bats(0));
        Check.same("the first of all", 11, new WingTrams().bats(1));
        // 1 1, 2 1, and the owls' 2 with whatever the bats ask above it.
        Check.same("one who has two", 10, Check.told(riders + "2;").bats(0));
        // The owls ask 2, or 9 of the one who has it: more, if the bats ask 9, too.
        Check.same("one who has nine", 3, Check.told(riders + "9;").bats(0));
        Check.isThrown("what 2", NoSuchElementException.class, () -> x.bats(2));
        Check.isThrown("what -1", NoSuchElementException.class, () -> x.bats(-1));
    }

    /** Home in 40 if it is dry, in 80, behind dawn, if it is wet; the second rider is there. */
    private static void years() {
        WingTrams x = Check.told("roof 0;roof 0;flight 0 1 40;hunts 0;tawny 0 0 1;dawn 60;"
            + "rider 0 1 0 0;rider 1 1 0 0;");
        int[] nights = {1, 10, 60};
        for (int i = 0; i < SEEDS.length; i++) {
            for (int j = 0; j < 3; j++) {
                int n = nights[j];
                String what = "years " + SEEDS[i] + " " + n;
                Check.same(what, n + DRY[i][j], x.years(SEEDS[i], n, 0));
                Check.same(what + " fewest", DRY[i][j] == n ? 2 : 1, x.years(SEEDS[i], n, 1));
                Check.same(what + " nights", DRY[i][j], x.years(SEEDS[i], n, 2));
            }
            for (int what = 0; what < 3; what++) {
                Check.same("no nights", 0, x.years(SEEDS[i], 0, what));
            }
        }
        x.wet(true);
        Check.same("wet now or not", DRY[0][1], x.years(5, 10, 2));
        Check.same("wet still", 1, x.count(8));
        Check.same("no acts", 1, x.count(11));
        Check.isThrown("-1 nights", IllegalArgumentException.class, () -> x.years(5, -1, 0));
        Check.isThrown("61 nights", IllegalArgumentException.class, () -> x.years(5, 61, 2));
        Check.isThrown("what 3", NoSuchElementException.class, () -> x.years(5, 1, 3));
        Check.isThrown("what ahead", NoSuchElementException.class, () -> x.years(5, 61, -1));
        Check.same("nobody", 0, new WingTrams().years(1, 60, 0));
        Check.same("the fewest of nobody", 0, new WingTrams().years(1, 60, 1));
        Check.same("all of nobody", 60, new WingTrams().years(1, 60, 2));
    }

    /** The first three nights of the seed 5 are dry, dry, wet. */
    private static void yearsOfMoons() {
        WingTrams x = Check.told("roof 0;roof 0;flight 0 1 20;hunts 30*(moon<7);barn 60 0 1;dawn 100;rider 0 1 0 0;");
        int[] due = new int[8];
        boolean[] wet = {false, false, true};
        for (int moon = 0; moon < 8; moon++) {
            for (int night = 0; night < 3; night++) {
                int then = (moon + 1 + night) % 8;
                int flown = (then >= 4 ? 10 : 20) * (wet[night] ? 2 : 1);
                due[moon] += 60 + (then < 7 ? 30 : 0) + flown <= 100 ? 1 : 0;
            }
            x.moon(moon);
            Check.same("from moon " + moon, due[moon], x.years(5, 3, 0));
            Check.same("moon stays", moon, x.count(7));
        }
    }

    private static void lateness() {
        String city = "roof 0;roof 0;roof 0;flight 0 1 10;flight 1 2 10;hunts 2;dawn 90;";
        WingTrams x = Check.told(city + "tawny 0 0 1;tawny 30 1 2;white 20 2;rider 0 2 0 0;");
        Check.same("as long as the other waits", 20, x.late(0));
        Check.same("as long as it isn't dawn", 48, x.late(1));
        Check.same("whoever takes nobody", 60, x.late(2));
        x.nest(0, true);
        Check.same("nobody gets home", 60, x.late(1));
        Check.same("it nests", 60, x.late(0));
        Check.isThrown("owl 3", NoSuchElementException.class, () -> x.late(3));
        Check.isThrown("owl -1", NoSuchElementException.class, () -> x.late(-1));
        WingTrams y = Check.told(city.replace("90", "373") + "tawny 300 0 1;rider 0 1 0 0;");
        Check.same("above 300", 60, y.late(0));
        WingTrams z = Check.told(city.replace("90", "371") + "tawny 300 0 1;rider 0 1 0 0;");
        Check.same("above 300", 59, z.late(0));
        Check.same("its minute stays", 300, z.owl(0, 1));
        for (int dawn = 312; dawn <= 314; dawn++) {
            WingTrams soon = Check.told(city.replace("90", "" + dawn) + "tawny 300 0 1;rider 0 1 0 0;");
            Check.same("hardly later", dawn - 312, soon.late(0));
        }
        // Not home if it starts 1 to 5 minutes later, home again if the hour is another one.
        WingTrams v = Check.told("roof 0;roof 0;flight 0 1 10;hunts 30*(hour=0);dawn 94;tawny 54 0 1;rider 0 1 0 0;");
        Check.same("the greatest, not the first", 30, v.late(0));
    }

    private static void bestRules() {
        String city = "roof 0;roof 0;flight 0 1 10;tawny 50 0 1;dawn 70;rider 0 1 0 0;";
        Check.same("none ahead of all", -1, Check.told(city + "hunts 0;hunts 30;").best());
        WingTrams x = Check.told(city.replace("dawn 70", "dawn 61") + "hunts 30;hunts 1;hunts 0;");
        Check.same("the first of like ones", 1, x.best());
        Check.same("in force still", 0, x.count(5));
        x.obey(2);
        Check.same("whichever is in force", 1, x.best());
        Check.same("in force still", 2, x.count(5));
        Check.same("nobody gets home", -1, Check.told(city.replace("70", "60") + "hunts 1;").best());
        Check.same("no rule behind the last", -1, Check.told(city.replace("70", "61") + "hunts 30*(stop=0);").best());
        Check.same("of none", -1, new WingTrams().best());
        Check.same("most of all", 1, Check.told("roof 0;roof 0;roof 0;flight 0 1 10;tawny 50 0 1;"
            + "tawny 60 0 1;dawn 70;rider 0 1 0 0;rider 0 1 53 0;hunts 30;hunts 0;").best());
    }

    private static void brightMoons() {
        String city = "roof 0;roof 0;flight 0 1 20;hunts 0;dawn 60;rider 0 1 0 0;";
        WingTrams x = Check.told(city + "barn 50 0 1;");
        Check.same("the first that helps", 4, x.bright());
        Check.same("it is as it was", 0, x.count(7));
        x.moon(7);
        Check.same("whatever it is", 4, x.bright());
        x.wet(true);
        Check.same("of like ones the least", 0, x.bright());
        Check.same("no matter", 0, Check.told(city + "tawny 0 0 1;").bright());
        Check.same("of none", 0, new WingTrams().bright());
        Check.same("no moon behind 7", 0, Check.told(city.replace("hunts 0", "hunts 30*(moon<8)") + "tawny 40 0 1;").bright());
        Check.same("the last", 7, Check.told(city.replace("hunts 0", "hunts 30*(moon<7)") + "tawny 40 0 1;").bright());
    }

    private static void hunters() {
        String city = "roof 1;roof 9;flight 0 1 20;";
        WingTrams x = Check.told(city + "tawny 0 0;barn 5 0 1;white 0 1;");
        Check.same("two of them", 1, x.hunter());
        x.nest(1, true);
        Check.same("of like ones the least", 0, x.hunter());
        x.nest(0, true);
        Check.same("the one that flies", 2, x.hunter());
        x.nest(2, true);
        Check.same("all nest", 0, x.hunter());
        Check.same("no owls", -1, Check.told(city).hunter());
    }

}
