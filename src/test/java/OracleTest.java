import java.util.function.IntSupplier;

/** All calls by chance, from fixed seeds, each answer against the one of a second program. */
public final class OracleTest {
    private static final int CITIES = 280;
    /** An object is used for at most 512 calls; telling a city makes 37 of them, looking at a row 13. */
    private static final int CALLS = 512;
    private static final int CALLS_AT_ONCE = 37;
    private static final int TEXTS = 6000;

    private static long seed = 1;
    private static int calls;

    public static void main(String[] args) {
        for (int i = 0; i < TEXTS; i++) {
            text(i);
        }
        for (int i = 0; i < CITIES; i++) {
            run(i);
        }
        Check.end();
    }

    private static int draw(int n) {
        seed = seed * 6364136223846793005L + 1442695040888963407L;
        return (int) ((seed >>> 33) % n);
    }

    private static boolean rarely() {
        return draw(12) == 0;
    }

    /** A text with some of its tokens put elsewhere, left out or made others. */
    private static void text(int i) {
        WingTrams x = new WingTrams();
        Oracle y = new Oracle();
        String text = cityText();
        String[] parts = text.split("(?<=[; ])");
        StringBuilder other = new StringBuilder();
        int changes = draw(3);
        for (int part = 0; part < parts.length; part++) {
            boolean changed = changes > 0 && draw(parts.length) < 2;
            other.append(changed ? otherPart(parts) : parts[part]);
        }
        if (draw(8) == 0) {
            other.setLength(draw(other.length() + 1));
        }
        String told = other.length() > 700 ? other.substring(0, 700) : other.toString();
        feedBoth(x, y, told);
        Check.same("text " + i + " " + told, y.city(told.length()), x.city(told.length()));
        Check.same("place " + i + " " + told, y.fault(), x.fault());
        for (int what = 0; what < 17; what++) {
            Check.same("count " + what + " of " + told, y.count(what), x.count(what));
        }
    }

    private static String otherPart(String[] parts) {
        String[] some = {"", "not not not ", "( ", ") ", "12345 ", "0009 ", "10 ", ";", "; ", "roof ", "mice ", "or ", "< ",
            "= ", "- ", "dawn 60;", "hunts ", "owl ", "#", "\n", "tawny 0 0 1 0 1;", "(((((", "flight 0 1 ", "301 ", "61 ",
            "* / ", "dawn ", "barn 5 0;", "rider 0 1 2 3;", "A", "\u00ff", "\t", "hunts ((((((", "not not not not not not not "};
        return draw(2) == 0 ? parts[draw(parts.length)] : some[draw(some.length)];
    }

    private static void feedBoth(WingTrams x, Oracle y, String text) {
        Check.feed(x, text);
        byte[] bytes = java.util.Arrays.copyOf(text.getBytes(java.nio.charset.StandardCharsets.ISO_8859_1), 720);
        java.util.Arrays.fill(bytes, text.length(), 720, (byte) ' ');
        java.nio.ByteBuffer all = java.nio.ByteBuffer.wrap(bytes);
        for (int i = 0; i < text.length(); i += 20) {
            y.feed(all.getInt(), all.getInt(), all.getInt(), all.getInt(), all.getInt());
        }
    }

    private static String cityText() {
        StringBuilder text = new StringBuilder();
        int roofs = 2 + draw(9);
        for (int i = 0; i < roofs; i++) {
            text.append("roof ").append(draw(3) == 0 ? draw(10) : draw(3)).append(';');
        }
        boolean[][] flown = new boolean[roofs][roofs];
        int longest = 5 + draw(35);
        for (int i = 0; i < 17; i++) {
            int one = i < roofs - 1 ? i + 1 : draw(roofs);
            int other = i < roofs - 1 ? draw(i + 1) : draw(roofs);
            if (one != other && !flown[one][other]) {
                flown[one][other] = flown[other][one] = true;
                text.append("flight ").append(one).append(' ').append(other).append(' ').append(1 + draw(longest)).append(';');
            }
        }
        int owls = draw(6) == 0 ? draw(6) : 2 + draw(4);
        for (int i = 0; i < owls; i++) {
            owlText(text, flown);
        }
        int riders = rarely() ? 0 : 1 + draw(8);
        for (int i = 0; i < riders; i++) {
            text.append("rider ").append(draw(roofs)).append(' ').append(draw(roofs)).append(' ');
            text.append(draw(5) == 0 ? draw(401) : draw(90)).append(' ').append(draw(10)).append(';');
        }
        int rules = draw(5);
        for (int i = 0; i < rules && text.length() < 640; i++) {
            text.append("hunts ").append(rule(4)).append(';');
        }
        if (draw(4) > 0) {
            text.append("dawn ").append(60 + draw(draw(2) == 0 ? 60 : 541)).append(';');
        }
        return text.length() > 700 ? cityText() : text.toString();
    }

    private static void owlText(StringBuilder text, boolean[][] flown) {
        String[] kinds = {"tawny ", "barn ", "white "};
        int roof = draw(flown.length);
        text.append(kinds[draw(3)]).append(draw(4) == 0 ? draw(301) : draw(60)).append(' ').append(roof);
        int length = 1 + draw(8);
        for (int i = 1; i < length; i++) {
            int next = draw(flown.length);
            for (int j = 0; j < flown.length && !flown[roof][next]; j++) {
                next = (next + 1) % flown.length;
            }
            if (flown[roof][next]) {
                roof = next;
                text.append(' ').append(roof);
            }
        }
        text.append(';');
    }

    private static String rule(int depth) {
        String[] values = {"mice", "grain", "kind", "stop", "moon", "wet", "hour"};
        String[] signs = {"+", "-", "*", "/", "<", "=", " and ", " or ", "+", "-", "*"};
        int kind = depth == 0 ? draw(2) : draw(7);
        switch (kind) {
            case 0: return draw(9) == 0 ? "9999" : String.valueOf(draw(31));
            case 1: return values[draw(7)];
            case 2: return "not " + (draw(2) == 0 ? rule(0) : "(" + rule(depth - 1) + ")");
            case 3: return "(" + rule(depth - 1) + ")";
            default: return part(depth - 1) + signs[draw(signs.length)] + part(depth - 1);
        }
    }

    private static String part(int depth) {
        String rule = rule(depth);
        return rule.matches("[a-z0-9]+|.*[)]") && !rule.startsWith("not") && draw(3) > 0 && rule.indexOf('(') <= 0
            && !rule.matches(".*[)].*[(].*") ? rule : draw(4) == 0 && rule.matches("[^<=no]*") ? rule : "(" + rule + ")";
    }

    private static void run(int i) {
        WingTrams x = new WingTrams();
        Oracle y = new Oracle();
        calls = 0;
        tellBoth(x, y, "run " + i);
        while (calls < CALLS - CALLS_AT_ONCE) {
            if (draw(250) == 0) {
                tellBoth(x, y, "run " + i + " again");
            } else {
                call(x, y, "run " + i + " call " + calls + " ");
            }
        }
        while (calls < CALLS) {
            both("run " + i + ", the last calls", () -> y.count(10), () -> x.count(10));
        }
    }

    private static void tellBoth(WingTrams x, Oracle y, String what) {
        String text = cityText();
        feedBoth(x, y, text);
        int n = rarely() ? text.length() - draw(30) : text.length();
        int due = y.city(n);
        Check.same(what + " city of " + text, due, x.city(n));
        calls += (text.length() + 19) / 20 + 2;
    }

    private static int owlBy(Oracle y) {
        return draw(40) == 0 ? draw(8) - 1 : draw(Math.max(1, y.count(2)));
    }

    private static int roofBy(Oracle y) {
        return draw(40) == 0 ? draw(14) - 2 : draw(Math.max(1, y.count(0)));
    }

    private static int riderBy(Oracle y) {
        return draw(40) == 0 ? draw(11) - 1 : draw(Math.max(1, y.count(3)));
    }

    private static int minute() {
        return draw(4) == 0 ? draw(700) - 20 : draw(150);
    }

    private static void both(String what, IntSupplier due, IntSupplier got) {
        calls++;
        Check.same(what, answer(due), answer(got));
    }

    private static long answer(IntSupplier call) {
        try {
            return call.getAsInt();
        } catch (java.util.NoSuchElementException e) {
            return Long.MIN_VALUE;
        } catch (IllegalArgumentException e) {
            return Long.MIN_VALUE + 1;
        }
    }

    private static int bit(boolean answer) {
        return answer ? 1 : 0;
    }

    private static void call(WingTrams x, Oracle y, String at) {
        int kind = draw(43);
        if (kind < 11) {
            act(x, y, at, kind);
        } else if (kind < 20) {
            ask(x, y, at, kind);
        } else if (kind < 30) {
            plan(x, y, at, kind);
        } else {
            other(x, y, at, kind);
        }
    }

    private static void act(WingTrams x, Oracle y, String at, int kind) {
        int owl = owlBy(y);
        int roof = roofBy(y);
        int minute = minute();
        boolean wet = draw(3) == 0;
        boolean nests = draw(3) == 0;
        int rule = draw(7) - 2;
        int moon = rarely() ? draw(20) - 10 : draw(8);
        int grain = rarely() ? draw(20) - 5 : draw(10);
        switch (kind) {
            case 0: both(at + "obey " + rule, () -> bit(y.obey(rule)), () -> bit(x.obey(rule))); break;
            case 1: both(at + "moon " + moon, () -> y.moon(moon), () -> x.moon(moon)); break;
            case 2: both(at + "wet " + wet, () -> bit(y.wet(wet)), () -> bit(x.wet(wet))); break;
            case 3:
            case 4: both(at + "nest " + owl + nests, () -> bit(y.nest(owl, nests)), () -> bit(x.nest(owl, nests))); break;
            case 5: both(at + "grain " + roof + " " + grain, () -> y.grain(roof, grain), () -> x.grain(roof, grain)); break;
            case 6: both(at + "start " + owl + " " + minute, () -> y.start(owl, minute), () -> x.start(owl, minute)); break;
            case 7:
            case 8: both(at + "undo", y::undo, x::undo); break;
            case 9:
                if (draw(3) == 0) {
                    y.image();
                    x.image();
                    calls++;
                }
                break;
            default:
                if (draw(2) == 0) {
                    both(at + "restore", () -> bit(y.restore()), () -> bit(x.restore()));
                }
        }
    }

    private static void ask(WingTrams x, Oracle y, String at, int kind) {
        int owl = owlBy(y);
        int roof = roofBy(y);
        int other = roofBy(y);
        int rider = riderBy(y);
        int minute = minute();
        int what = draw(20) - 1;
        int i = draw(9) - 1;
        switch (kind) {
            case 11:
            case 12: both(at + "count " + what, () -> y.count(what), () -> x.count(what)); break;
            case 13: both(at + "roof " + roof + " " + what, () -> y.roof(roof, what % 6), () -> x.roof(roof, what % 6)); break;
            case 14: both(at + "flight " + roof + " " + other, () -> y.flight(roof, other), () -> x.flight(roof, other)); break;
            case 15:
            case 16: both(at + "owl " + owl + " " + what, () -> y.owl(owl, what % 7), () -> x.owl(owl, what % 7)); break;
            case 17: both(at + "stop " + owl + " " + i, () -> y.stop(owl, i, what % 4), () -> x.stop(owl, i, what % 4)); break;
            case 18: both(at + "rider " + rider, () -> y.rider(rider, what % 5), () -> x.rider(rider, what % 5)); break;
            default: both(at + "where " + owl + " " + minute, () -> y.where(owl, minute), () -> x.where(owl, minute));
        }
    }

    private static void plan(WingTrams x, Oracle y, String at, int kind) {
        int rider = riderBy(y);
        int owl = owlBy(y);
        int roof = roofBy(y);
        int minute = minute();
        int straps = rarely() ? draw(12) - 1 : 1 + draw(3);
        int riders = rarely() ? draw(300) - 10 : draw(3) == 0 ? draw(1 << y.count(3)) : 1 << draw(y.count(3) + 1) >> 1;
        int home = rider >= 0 && rider < y.count(3) ? y.home(rider) : 5;
        int sooner = Math.max(-1, home - draw(5));
        int lured = draw(2) == 0 ? minute : sooner;
        int wanted = draw(2) == 0 ? riders : 1 << Math.max(0, rider);
        switch (kind) {
            case 20: both(at + "home " + rider, () -> y.home(rider), () -> x.home(rider)); break;
            case 21: both(at + "changes " + rider, () -> y.changes(rider), () -> x.changes(rider)); break;
            case 22: both(at + "cheapest " + rider, () -> y.cheapest(rider), () -> x.cheapest(rider)); break;
            case 23: both(at + "last " + rider, () -> y.last(rider), () -> x.last(rider)); break;
            case 24: both(at + "never", y::never, x::never); break;
            case 25:
                both(at + "lure " + wanted + " " + lured, () -> y.lure(wanted, lured), () -> x.lure(wanted, lured));
                for (int r = -1; r < 11; r++) {
                    int of = r;
                    both(at + "more " + of, () -> y.more(of), () -> x.more(of));
                }
                break;
            case 26: both(at + "more " + roof, () -> y.more(roof), () -> x.more(roof)); break;
            case 27: both(at + "straps " + straps, () -> y.straps(straps), () -> x.straps(straps)); break;
            case 28: both(at + "worth " + owl, () -> y.worth(owl), () -> x.worth(owl)); break;
            default: both(at + "vital", y::vital, x::vital);
        }
    }

    private static void other(WingTrams x, Oracle y, String at, int kind) {
        int rider = riderBy(y);
        int owl = owlBy(y);
        int minute = minute();
        int roof = rarely() ? roofBy(y) : owl >= 0 && owl < y.count(2) ? y.where(owl, minute) : -1;
        int many = rarely() ? draw(14) - 2 : draw(4);
        int far = rarely() ? draw(300) - 50 : draw(60);
        int what = rarely() ? draw(7) - 3 : draw(2);
        int n = rarely() ? draw(80) - 10 : draw(12);
        int drawn = draw(Integer.MAX_VALUE) * 2 + 1 - draw(2);
        switch (kind) {
            case 30:
            case 31: both(at + "beams " + many + " " + far, () -> y.beams(many, far, what), () -> x.beams(many, far, what)); break;
            case 32:
            case 33: both(at + "see " + owl + " " + minute, () -> y.see(owl, minute, roof), () -> x.see(owl, minute, roof)); break;
            case 34:
                if (draw(6) == 0) {
                    y.forget();
                    x.forget();
                    calls++;
                }
                break;
            case 35: both(at + "fits", y::fits, x::fits); break;
            case 36: both(at + "watch " + minute, () -> y.watch(minute), () -> x.watch(minute)); break;
            case 37: both(at + "bats " + what, () -> y.bats(what), () -> x.bats(what)); break;
            case 38: both(at + "years " + n, () -> y.years(drawn, n, what + 1), () -> x.years(drawn, n, what + 1)); break;
            case 39: both(at + "reach " + rider, () -> y.reach(rider, minute), () -> x.reach(rider, minute)); break;
            case 40:
                if (draw(3) == 0) {
                    both(at + "late " + owl, () -> y.late(owl), () -> x.late(owl));
                }
                break;
            case 41: both(at + "best", y::best, x::best); break;
            default:
                both(at + "bright", y::bright, x::bright);
                both(at + "hunter", y::hunter, x::hunter);
        }
    }
}
