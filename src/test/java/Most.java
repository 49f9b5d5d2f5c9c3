/** Cities with most of all that there may be. */
final class Most {
    private Most() {
    }

    /** Ten roofs in a line, two minutes from each to the next one. */
    static String line() {
        StringBuilder text = new StringBuilder("roof 9;".repeat(10));
        for (int roof = 0; roof < 9; roof++) {
            text.append("flight ").append(roof).append(' ').append(roof + 1).append(" 2;");
        }
        return text.toString();
    }

    /**
     * Five owls that hunt a minute at each of eight roofs side by side in that line: the owl 4, on
     * roofs 2 to 9, comes to its i-th roof in 80 + 3 * i, the owl k, from roof k / 2 on, in 20 * k + 3 * i.
     */
    static String owls() {
        StringBuilder text = new StringBuilder(line() + "hunts 1;");
        for (int owl = 0; owl < 5; owl++) {
            text.append("tawny ").append(20 * owl);
            for (int i = 0; i < 8; i++) {
                text.append(' ').append(owl / 2 + i);
            }
            text.append(';');
        }
        return text.toString();
    }

    /** An object that has had a city with most of all, and has asked, done, seen and kept much. */
    static WingTrams used() {
        WingTrams x = new WingTrams();
        StringBuilder text = new StringBuilder(owls().replace("tawny", "white"));
        for (int roof = 2; roof < 10; roof++) {
            text.append("flight 0 ").append(roof).append(" 1;");
        }
        text.append("flight 1 3 1;").append("rider 9 9 0 9;rider 0 9 0 9;".repeat(4));
        text.append("hunts 30;hunts kind;hunts mice+9;dawn 600;");
        Check.tell(x, text.toString());
        askMuch(x);
        x.image();
        for (int i = 0; i < 41; i++) {
            x.start(4, 2 * i);
            x.see(0, 3, 0);
            x.forget();
        }
        x.see(0, 3, 0);
        x.wet(true);
        x.moon(7);
        x.nest(3, true);
        return x;
    }

    private static void askMuch(WingTrams x) {
        x.lure(1, 101);
        x.beams(5, 200, 0);
        x.straps(8);
        x.vital();
        x.watch(5);
        x.years(1, 9, 0);
        for (int rider = 0; rider < 8; rider++) {
            x.home(rider);
            x.changes(rider);
            x.cheapest(rider);
            x.last(rider);
        }
        x.owl(4, 5);
        x.late(4);
        x.best();
        x.bright();
        x.hunter();
    }
}
