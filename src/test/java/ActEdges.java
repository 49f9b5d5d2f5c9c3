import java.util.Arrays;

/** Terms 2 of acts, promises 12 to 18, 41 and 42: acts, undoing them, the image. */
final class ActEdges {
    private static final String CITY = "roof 1;roof 9;flight 0 1 10;tawny 7 0 1;barn 20 1 0;rider 0 1 0 0;hunts 1;"
        + "hunts 2;";
    private static final int MOST = Integer.MAX_VALUE;
    private static final int LEAST = Integer.MIN_VALUE;

    private ActEdges() {
    }

    static void all() {
        manyActs();
        rulesAndMoons();
        owlsAndRoofs();
        undoing();
        images();
    }

    /** All that an act may change, what is seen, and how many acts there are. */
    private static int[] state(WingTrams x) {
        return new int[] {x.count(5), x.count(7), x.count(8), x.count(9), x.count(11), x.count(12),
            x.roof(0, 0), x.roof(1, 0), x.owl(0, 1), x.owl(1, 1)};
    }

    /** That a call is refused: STATUS 1 is one more, nothing else changes. */
    private static void refused(WingTrams x, String what, Runnable call) {
        int[] before = state(x);
        int refused = x.count(15);
        call.run();
        Check.same(what + " is counted", refused + 1, x.count(15));
        Check.same(what + " changes nothing", true, Arrays.equals(before, state(x)));
        Check.same(what + " is counted there alone", 0, x.count(14) + x.count(16));
    }

    private static void manyActs() {
        Edges.terms(2, 18, "ACTS (at most 40 are kept, the latest ones)", ActEdges::fortyActs);
        Edges.terms(2, 16, "GRAIN of a ROOF becomes another (0 to 9)", ActEdges::grains);
        Edges.terms(2, 17, "an OWL is at its first ROOF in another MINUTE (0 to 300)", ActEdges::minutes);
        Edges.terms(2, 18, "They are UNDONE, the last one first", ActEdges::lastFirst);
    }

    private static void fortyActs() {
        for (int many = 39; many <= 42; many++) {
            WingTrams x = Check.told(CITY);
            for (int i = 1; i <= many; i++) {
                x.start(0, 100 + i);
            }
            Check.same("kept of " + many, Math.min(many, 40), x.count(11));
            for (int left = Math.min(many, 40) - 1; left >= 0; left--) {
                Check.same("left", left, x.undo());
            }
            Check.same("none left", -1, x.undo());
            Check.same("the first of " + many, many <= 40 ? 7 : 100 + many - 40, x.owl(0, 1));
        }
        for (int many = 40; many < 50; many++) {
            mixedActs(many);
        }
    }

    /** Acts of all kinds, of whose latest forty each is undone; no object makes more than 512 calls. */
    private static void mixedActs(int many) {
        WingTrams x = Check.told(CITY);
        for (int i = 0; i < many; i++) {
            act(x, i);
        }
        for (int i = many - 1; i >= many - 40; i--) {
            int left = i - (many - 40);
            Check.same("left", left, x.undo());
            if (left % 2 == many % 2) {
                int[] due = stateBehind(i);
                due[4] = left;
                Check.same("as ahead of act " + i + " of " + many, true, Arrays.equals(due, state(x)));
            }
        }
        Check.same("none left", -1, x.undo());
    }

    /** The state of another object behind so many acts. */
    private static int[] stateBehind(int acts) {
        WingTrams x = new WingTrams();
        Check.tell(x, CITY);
        for (int i = 0; i < acts; i++) {
            act(x, i);
        }
        return state(x);
    }

    private static void act(WingTrams x, int i) {
        switch (i % 7) {
            case 0: x.grain(0, i % 10); break;
            case 1: x.start(1, i); break;
            case 2: x.nest(i / 7 % 2, i / 14 % 2 == 0); break;
            case 3: x.grain(1, i % 10); break;
            case 4: x.start(0, i); break;
            case 5: x.wet(i / 7 % 2 == 0); break;
            default: x.obey(i / 7 % 3 - 1); break;
        }
    }

    private static void grains() {
        WingTrams x = Check.told(CITY);
        x.grain(0, 0);
        Check.same("least", 0, x.roof(0, 1));
        x.grain(0, 9);
        Check.same("most", 18, x.roof(0, 1));
        Check.same("of one roof", 9, x.roof(1, 0));
    }

    private static void minutes() {
        WingTrams x = Check.told(CITY);
        x.start(1, 0);
        Check.same("soonest", 0, x.stop(1, 0, 1));
        x.start(1, 300);
        Check.same("latest", 300, x.stop(1, 0, 1));
        Check.same("of one owl", 7, x.stop(0, 0, 1));
    }

    private static void lastFirst() {
        WingTrams x = Check.told(CITY);
        x.moon(1);
        x.moon(2);
        x.wet(true);
        x.moon(3);
        int[][] due = {{2, 1}, {2, 0}, {1, 0}, {0, 0}};
        for (int[] moon : due) {
            x.undo();
            Check.same("moon", moon[0], x.count(7));
            Check.same("wet", moon[1], x.count(8));
        }
    }

    private static void rulesAndMoons() {
        Edges.promise(12, "the rule in force (NONE: none): true", ActEdges::rules);
        Edges.promise(12, "False (STATUS 1): there is no such one", ActEdges::wrongRules);
        Edges.promise(13, "An ACT: the MOON: as it was", ActEdges::moons);
        Edges.promise(13, "NONE (STATUS 1): not 0 to 7", ActEdges::wrongMoons);
        Edges.promise(14, "An ACT: wet, or dry: as it was", ActEdges::wetNights);
    }

    private static void rules() {
        WingTrams x = Check.told(CITY + "hunts 3;hunts 4;");
        for (int rule : new int[] {3, 0, -1, 1, 1}) {
            Check.same("there is one", true, x.obey(rule));
            Check.same("in force", rule, x.count(5));
        }
        Check.same("acts, the same again, too", 5, x.count(11));
        Check.same("not refused", 0, x.count(15));
        Check.same("none of none", true, new WingTrams().obey(-1));
    }

    private static void wrongRules() {
        WingTrams x = Check.told(CITY);
        x.obey(1);
        for (int rule : new int[] {2, 3, 4, -2, MOST, LEAST}) {
            refused(x, "rule " + rule, () -> Check.same("rule " + rule, false, x.obey(rule)));
        }
        Check.same("no rules at all", false, new WingTrams().obey(0));
    }

    private static void moons() {
        WingTrams x = Check.told(CITY);
        int before = 0;
        for (int moon : new int[] {7, 0, 4, 4, 1}) {
            Check.same("as it was", before, x.moon(moon));
            Check.same("as it is", moon, x.count(7));
            before = moon;
        }
        Check.same("acts, the same again, too", 5, x.count(11));
        Check.same("without a city", 0, new WingTrams().moon(7));
    }

    private static void wrongMoons() {
        WingTrams x = Check.told(CITY);
        x.moon(5);
        for (int moon : new int[] {-1, 8, -8, MOST, LEAST}) {
            refused(x, "moon " + moon, () -> Check.same("moon " + moon, -1, x.moon(moon)));
        }
    }

    private static void wetNights() {
        WingTrams x = Check.told(CITY);
        Check.same("was dry", false, x.wet(false));
        Check.same("was dry", false, x.wet(true));
        Check.same("was wet", true, x.wet(true));
        Check.same("was wet", true, x.wet(false));
        Check.same("acts, the same again, too", 4, x.count(11));
        Check.same("none refused", 0, x.count(15));
        Check.same("dry", 0, x.count(8));
        x.undo();
        Check.same("wet", 1, x.count(8));
        x.undo();
        Check.same("still wet", 1, x.count(8));
    }

    private static void owlsAndRoofs() {
        Edges.promise(15, "An ACT: an OWL nests, or flies: true", ActEdges::nests);
        Edges.promise(15, "False (STATUS 1): it does already", ActEdges::nestsAlready);
        Edges.promise(16, "An ACT: GRAIN: as it was", ActEdges::grainsAsTheyWere);
        Edges.promise(16, "NONE (STATUS 1): not 0 to 9", ActEdges::wrongGrains);
        Edges.promise(17, "An ACT: the MINUTE of an OWL: as it was", ActEdges::minutesAsTheyWere);
        Edges.promise(17, "NONE (STATUS 1): not 0 to 300", ActEdges::wrongMinutes);
    }

    private static void nests() {
        WingTrams x = Check.told(CITY);
        Check.same("nests", true, x.nest(1, true));
        Check.same("bits", 2, x.count(9));
        Check.same("flies", true, x.nest(1, false));
        Check.same("bits", 0, x.count(9));
        Check.same("nests", true, x.nest(0, true));
        Check.same("acts", 3, x.count(11));
        Check.same("none refused", 0, x.count(15));
    }

    private static void nestsAlready() {
        WingTrams x = Check.told(CITY);
        refused(x, "it flies", () -> Check.same("flies already", false, x.nest(0, false)));
        x.nest(0, true);
        refused(x, "it nests", () -> Check.same("nests already", false, x.nest(0, true)));
        refused(x, "the other flies", () -> Check.same("flies already", false, x.nest(1, false)));
    }

    private static void grainsAsTheyWere() {
        WingTrams x = Check.told(CITY);
        Check.same("as told", 9, x.grain(1, 0));
        Check.same("least", 0, x.grain(1, 9));
        Check.same("most", 9, x.grain(1, 9));
        Check.same("the same again", 9, x.grain(1, 5));
        Check.same("of another roof", 1, x.grain(0, 1));
        Check.same("acts, the same again, too", 5, x.count(11));
    }

    private static void wrongGrains() {
        WingTrams x = Check.told(CITY);
        for (int grain : new int[] {-1, 10, MOST, LEAST}) {
            refused(x, "grain " + grain, () -> Check.same("grain " + grain, -1, x.grain(1, grain)));
        }
        Edges.noSuch("no such roof ahead", roof -> x.grain(roof, 10), 2, -1);
        Check.same("what throws isn't counted", 4, x.count(15));
    }

    private static void minutesAsTheyWere() {
        WingTrams x = Check.told(CITY);
        Check.same("as told", 20, x.start(1, 300));
        Check.same("latest", 300, x.start(1, 0));
        Check.same("soonest", 0, x.start(1, 0));
        Check.same("the same again", 0, x.start(1, 4));
        x.nest(0, true);
        Check.same("of one that nests", 7, x.start(0, 8));
        Check.same("acts, the same again, too", 6, x.count(11));
    }

    private static void wrongMinutes() {
        WingTrams x = Check.told(CITY);
        for (int minute : new int[] {-1, 301, MOST, LEAST}) {
            refused(x, "minute " + minute, () -> Check.same("minute " + minute, -1, x.start(0, minute)));
        }
        Edges.noSuch("no such owl ahead", owl -> x.start(owl, 301), 2, -1);
        Check.same("what throws isn't counted", 4, x.count(15));
    }

    private static void undoing() {
        Edges.promise(18, "The last ACT is UNDONE: how many are left", ActEdges::howManyLeft);
        Edges.promise(18, "NONE: there is none", ActEdges::nothingToUndo);
    }

    private static void howManyLeft() {
        WingTrams x = Check.told(CITY);
        int[] first = state(x);
        x.obey(-1);
        x.moon(7);
        x.wet(true);
        x.nest(1, true);
        x.grain(1, 0);
        x.start(1, 300);
        x.moon(8);
        for (int left = 5; left >= 0; left--) {
            Check.same("left", left, x.undo());
        }
        Check.same("all as at first", true, Arrays.equals(first, state(x)));
        x.moon(2);
        Check.same("of one", 0, x.undo());
    }

    private static void nothingToUndo() {
        Check.same("without a city", -1, new WingTrams().undo());
        WingTrams x = Check.told(CITY);
        Check.same("none yet", -1, x.undo());
        x.moon(8);
        x.nest(0, false);
        Check.same("what is refused is none", -1, x.undo());
        x.moon(3);
        x.undo();
        Check.same("none any more", -1, x.undo());
        Check.same("nothing changes", 0, x.count(7));
        Check.same("that isn't refused", 2, x.count(15));
    }

    private static void images() {
        Edges.promise(41, "The rule in force, MOON, wet, nests, GRAIN, MINUTES of OWLS, ACTS and what is SEEN",
            ActEdges::allOfImage);
        Edges.promise(41, "ACTS and what is SEEN are kept as an image", ActEdges::actsOfImage);
        Edges.promise(41, "in place of another one", ActEdges::anotherImage);
        Edges.promise(42, "They are as the image again: true", ActEdges::asTheImage);
        Edges.promise(42, "False: there is none", ActEdges::noImage);
    }

    private static void changeAll(WingTrams x) {
        x.obey(1);
        x.moon(6);
        x.wet(true);
        x.nest(1, true);
        x.grain(0, 3);
        x.grain(1, 4);
        x.start(0, 300);
        x.start(1, 250);
        x.see(0, 5, 0);
    }

    private static void allOfImage() {
        WingTrams x = Check.told(CITY);
        int[] first = state(x);
        x.image();
        changeAll(x);
        int[] other = state(x);
        x.restore();
        Check.same("all as at first", true, Arrays.equals(first, state(x)));
        Check.same("no acts", -1, x.undo());
        changeAll(x);
        int fits = x.fits();
        x.image();
        x.image();
        for (int i = 0; i < 8; i++) {
            x.undo();
        }
        x.forget();
        x.see(0, 0, -1);
        x.see(0, 0, -1);
        x.restore();
        Check.same("all as changed", true, Arrays.equals(other, state(x)));
        Check.same("what is seen", fits, x.fits());
        for (int left = 7; left >= 0; left--) {
            Check.same("its acts", left, x.undo());
        }
        x.forget();
        Check.same("undone to the first", true, Arrays.equals(first, state(x)));
    }

    private static void actsOfImage() {
        WingTrams x = Check.told(CITY);
        int[] first = state(x);
        x.grain(1, 3);
        x.start(1, 200);
        x.moon(5);
        x.image();
        x.undo();
        x.undo();
        x.undo();
        x.start(0, 9);
        x.grain(0, 4);
        x.nest(0, true);
        x.wet(true);
        x.restore();
        Check.same("three", 3, x.count(11));
        for (int left = 2; left >= 0; left--) {
            Check.same("left", left, x.undo());
        }
        Check.same("undone to the first", true, Arrays.equals(first, state(x)));
        x.restore();
        Check.same("three still", 3, x.count(11));
    }

    private static void anotherImage() {
        WingTrams x = Check.told(CITY);
        x.moon(1);
        x.image();
        x.moon(2);
        x.image();
        x.moon(3);
        x.restore();
        Check.same("moon", 2, x.count(7));
        Check.same("acts", 2, x.count(11));
        x.restore();
        Check.same("moon still", 2, x.count(7));
    }

    private static void asTheImage() {
        WingTrams x = Check.told(CITY);
        for (int i = 0; i < 40; i++) {
            x.moon(i % 8);
        }
        x.image();
        for (int again = 0; again < 3; again++) {
            x.grain(0, 9);
            Check.same("there is one", true, x.restore());
            Check.same("moon", 7, x.count(7));
            Check.same("acts", 40, x.count(11));
            Check.same("grain", 1, x.roof(0, 0));
            Check.same("the last act", 39, x.undo());
            Check.same("undone", 6, x.count(7));
        }
        WingTrams none = new WingTrams();
        none.image();
        none.moon(5);
        Check.same("without a city", true, none.restore());
        Check.same("moon", 0, none.count(7));
    }

    private static void noImage() {
        Check.same("without a city", false, new WingTrams().restore());
        WingTrams x = Check.told(CITY);
        x.moon(3);
        Check.same("none yet", false, x.restore());
        Check.same("nothing changes", 3, x.count(7));
        Check.same("acts stay", 1, x.count(11));
        Check.same("that isn't refused", 0, x.count(15));
        x.image();
        Check.tell(x, CITY);
        Check.same("none of another city", false, x.restore());
        Check.same("moon", 0, x.count(7));
    }
}
