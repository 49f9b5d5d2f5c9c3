import java.nio.charset.StandardCharsets;

/** What all tests of the project share: counting what is as due, and feeding texts. */
final class Check {
    private static int passed;
    private static int failed;
    private static String about = "";
    private static boolean again;

    private Check() {
    }

    /** What the checks that follow are about: it stands ahead of what they print. */
    static void about(String what) {
        about = what;
    }

    /** Whether cities are told to objects that have had another one, with most of all, ahead. */
    static void useAgain(boolean objects) {
        again = objects;
    }

    /** One test: that it checks something, and that nothing is thrown out of it. */
    static void tests(Runnable test) {
        int before = passed + failed;
        try {
            test.run();
        } catch (RuntimeException | StackOverflowError e) {
            fail("thrown was " + e);
        }
        same("checks something", true, passed + failed > before);
    }

    private static void fail(String what) {
        failed++;
        System.out.println(about + what);
    }

    static void same(String what, long due, long got) {
        if (due == got) {
            passed++;
        } else {
            fail(what + ": due is " + due + ", answered " + got);
        }
    }

    static void same(String what, boolean due, boolean got) {
        same(what, due ? 1 : 0, got ? 1 : 0);
    }

    static void isThrown(String what, Class<? extends RuntimeException> due, Runnable call) {
        Class<?> got = null;
        try {
            call.run();
        } catch (RuntimeException e) {
            got = e.getClass();
        }
        if (due == got) {
            passed++;
        } else {
            fail(what + ": due is " + due + ", thrown was " + got);
        }
    }

    /** Feeds a text, blanks behind it up to twenty bytes; answers the latest feed's answer. */
    static int feed(WingTrams x, String text) {
        byte[] bytes = text.getBytes(StandardCharsets.ISO_8859_1);
        int answer = x.count(13);
        for (int i = 0; i < bytes.length; i += 20) {
            answer = x.feed(number(bytes, i), number(bytes, i + 4), number(bytes, i + 8),
                number(bytes, i + 12), number(bytes, i + 16));
        }
        return answer;
    }

    private static int number(byte[] bytes, int from) {
        int number = 0;
        for (int i = from; i < from + 4; i++) {
            number = number << 8 | (i < bytes.length ? bytes[i] & 255 : ' ');
        }
        return number;
    }

    static int tell(WingTrams x, String text) {
        feed(x, text);
        return x.city(text.length());
    }

    /** An object with a city that has no fault. */
    static WingTrams told(String text) {
        WingTrams x = again ? Most.used() : new WingTrams();
        same("city of " + text, 0, tell(x, text));
        return x;
    }

    /** That a text has a fault at a place, all else staying as it was. */
    static void fault(String text, int fault, int place) {
        WingTrams x = told("roof 3;roof 4;flight 0 1 7;dawn 77;hunts 5;");
        x.moon(3);
        same("city of " + text, fault, tell(x, text));
        same("fault of " + text, place, x.fault());
        same("roofs behind " + text, 2, x.count(0));
        same("moon behind " + text, 3, x.count(7));
        same("acts behind " + text, 1, x.count(11));
        same("tape behind " + text, 0, x.count(13));
        same("status behind " + text, 1, x.count(14));
        same("dawn behind " + text, 77, x.count(6));
        // Whatever stands behind the first fault, if there is room for it and it isn't the end.
        if (place < text.length() && text.length() < 700) {
            same("city of " + text + "@", fault, tell(x, text + "@"));
            same("fault of " + text + "@", place, x.fault());
        }
    }

    /** That a rule gives so many minutes to a tawny owl that comes at 0 to a roof without grain. */
    static void hunts(String rule, int minutes) {
        same(rule, minutes, told("roof 0;tawny 0 0;hunts " + rule + ";").stop(0, 0, 2));
    }

    static void end() {
        System.out.println(passed + " passed, " + failed + " failed");
        System.exit(failed == 0 && passed > 0 ? 0 : 1);
    }
}
