/** Terms 1 and promises 1 to 4: how much there may be, tokens, expressions, faults, the tape. */
final class TextEdges {
    private static final String TWO = "roof 0;roof 0;";
    private static final String LINKED = TWO + "flight 0 1 5;";
    /** The greatest int, by numbers of four digits. */
    private static final String MOST = "(9999*9999*21+9999*4790+8416)";
    private static final String OWL = "tawny 0 0;";
    private static final String RIDER = "rider 0 1 0 0;";

    private TextEdges() {
    }

    static void all() {
        howMuch();
        tokens();
        expressions();
        oneFault();
        faults();
        tape();
        cities();
    }

    private static void howMuch() {
        Edges.terms(1, 3, "ROOFS 0, 1 .. (at most 10)", TextEdges::tenRoofs);
        Edges.terms(1, 3, "GRAIN (0 to 9)", TextEdges::grains);
        Edges.terms(1, 3, "FLIGHTS (at most 18)", TextEdges::eighteenFlights);
        Edges.terms(1, 3, "two ROOFS, MINUTES (1 to 60)", TextEdges::minutesOfFlights);
        Edges.terms(1, 3, "OWLS 0, 1 .. (at most 5)", TextEdges::fiveOwls);
        Edges.terms(1, 3, "the MINUTE (0 to 300) in which it is at its first ROOF", TextEdges::minutesOfOwls);
        Edges.terms(1, 3, "a WAY (1 to 8 ROOFS, each with a FLIGHT from the one ahead)", TextEdges::ways);
        Edges.terms(1, 3, "RIDERS 0, 1 .. (at most 8)", TextEdges::eightRiders);
        Edges.terms(1, 3, "the MINUTE (0 to 400) from which on one waits", TextEdges::minutesOfRiders);
        Edges.terms(1, 3, "FUR (0 to 9)", TextEdges::furs);
        Edges.terms(1, 3, "HUNTS 0, 1 .. (at most 4)", TextEdges::fourHunts);
        Edges.terms(1, 3, "DAWN (60 to 600; 360 without)", TextEdges::dawns);
        Edges.terms(1, 3, "A TEXT of at most 700 bytes tells it", TextEdges::longestText);
    }

    private static void tenRoofs() {
        WingTrams x = Check.told("roof 0;".repeat(9) + "roof 7;");
        Check.same("ten", 10, x.count(0));
        Check.same("the last of them", 7, x.roof(9, 0));
        Check.fault("roof 0;".repeat(11), 2, 70);
    }

    private static void grains() {
        WingTrams x = Check.told("roof 0;roof 9;");
        Check.same("least", 0, x.roof(0, 0));
        Check.same("most", 9, x.roof(1, 0));
        Check.fault("roof 10;", 2, 5);
        Check.fault("roof 9999;", 2, 5);
        Check.fault("roof -1;", 1, 5);
    }

    private static String flights(int many) {
        StringBuilder text = new StringBuilder("roof 0;".repeat(7));
        int flights = 0;
        for (int one = 0; one < 7; one++) {
            for (int other = one + 1; other < 7 && flights < many; other++) {
                text.append("flight ").append(one).append(' ').append(other).append(" 1;");
                flights++;
            }
        }
        return text.toString();
    }

    private static void eighteenFlights() {
        WingTrams x = Check.told(flights(18));
        Check.same("18", 18, x.count(1));
        Check.same("the last of them", 1, x.flight(3, 6));
        Check.fault(flights(19), 2, 283);
    }

    private static void minutesOfFlights() {
        Check.same("least", 1, Check.told(TWO + "flight 0 1 1;").flight(0, 1));
        Check.same("most", 60, Check.told(TWO + "flight 0 1 60;").flight(0, 1));
        Check.fault(TWO + "flight 0 1 0;", 2, 25);
        Check.fault(TWO + "flight 0 1 61;", 2, 25);
    }

    private static void fiveOwls() {
        WingTrams x = Check.told(TWO + OWL.repeat(4) + "white 7 1;");
        Check.same("five", 5, x.count(2));
        Check.same("the last of them", 7, x.owl(4, 1));
        Check.fault(TWO + OWL.repeat(6), 2, 64);
    }

    private static void minutesOfOwls() {
        Check.same("least", 0, Check.told(TWO + "tawny 0 0;").owl(0, 1));
        Check.same("most", 300, Check.told(TWO + "tawny 300 0;").owl(0, 1));
        Check.fault(TWO + "tawny 301 0;", 2, 20);
        Check.fault(TWO + "barn 9999 0;", 2, 19);
    }

    private static void ways() {
        Check.same("shortest", 1, Check.told(LINKED + "tawny 0 1;").owl(0, 2));
        WingTrams x = Check.told(LINKED + "tawny 0 0 1 0 1 0 1 0 1;");
        Check.same("longest", 8, x.owl(0, 2));
        Check.same("the last of them", 1, x.stop(0, 7, 0));
        Check.same("the last of five of the longest", 9, Check.told(Most.owls()).stop(4, 7, 0));
        Check.fault(LINKED + "tawny 0;", 1, 34);
        Check.fault(LINKED + "tawny 0 0 1 0 1 0 1 0 1 0;", 2, 51);
        Check.fault(TWO + "tawny 0 0 1;", 6, 24);
    }

    private static void eightRiders() {
        WingTrams x = Check.told(TWO + RIDER.repeat(7) + "rider 0 1 0 9;");
        Check.same("eight", 8, x.count(3));
        Check.same("the last of them", 9, x.rider(7, 3));
        Check.fault(TWO + RIDER.repeat(9), 2, 126);
    }

    private static void minutesOfRiders() {
        Check.same("least", 0, Check.told(TWO + "rider 0 1 0 0;").rider(0, 2));
        Check.same("most", 400, Check.told(TWO + "rider 0 1 400 0;").rider(0, 2));
        Check.fault(TWO + "rider 0 1 401 0;", 2, 24);
    }

    private static void furs() {
        Check.same("least", 0, Check.told(TWO + "rider 0 1 0 0;").rider(0, 3));
        Check.same("most", 9, Check.told(TWO + "rider 0 1 0 9;").rider(0, 3));
        Check.fault(TWO + "rider 0 1 0 10;", 2, 26);
    }

    private static void fourHunts() {
        WingTrams x = Check.told("hunts 1;hunts 2;hunts 3;hunts 4;");
        Check.same("four", 4, x.count(4));
        Check.same("the last of them", true, x.obey(3));
        Check.fault("hunts 1;".repeat(5), 2, 32);
    }

    private static void dawns() {
        Check.same("without", 360, Check.told("roof 0;").count(6));
        Check.same("earliest", 60, Check.told("dawn 60;").count(6));
        Check.same("latest", 600, Check.told("dawn 600;").count(6));
        Check.fault("dawn 59;", 2, 5);
        Check.fault("dawn 601;", 2, 5);
        Check.fault("dawn 0;", 2, 5);
    }

    private static void longestText() {
        WingTrams x = Check.told(" ".repeat(686) + "roof 9;roof 8;");
        Check.same("all of 700 bytes", 2, x.count(0));
        Check.same("the last of them", 8, x.roof(1, 0));
        Check.fault(" ".repeat(694) + "roof 9", 1, 700);
        WingTrams y = Check.told("hunts " + "1+".repeat(346) + "2;");
        Check.same("tokens side by side", true, y.obey(0));
        Check.fault("hunts  " + "1+".repeat(345) + "1;;", 1, 699);
    }

    private static void tokens() {
        Edges.terms(1, 3, "words (a .. z, the longest row)", TextEdges::words);
        Edges.terms(1, 3, "NUMBERS (1 to 4 digits)", TextEdges::numbers);
        Edges.terms(1, 3, "signs ; ( ) + - * / < =", TextEdges::signs);
        Edges.terms(1, 3, "blanks (32, 10) between them count for nothing", TextEdges::blanks);
        Edges.terms(1, 3, "CITY: LINE*", TextEdges::noLines);
        Edges.terms(1, 3, "all in capitals but EXPR being NUMBERS", TextEdges::numbersAlone);
        Edges.terms(1, 3, "('tawny' | 'barn' | 'white') MINUTE ROOF ROOF*", TextEdges::linesOfOwls);
        Edges.terms(1, 3, "a KIND (0 tawny, 1 barn, 2 white)", TextEdges::kinds);
        Edges.terms(1, 3, "'hunts' EXPR) ';'", TextEdges::endsOfLines);
    }

    private static void words() {
        Check.fault("rooft 1;", 1, 0);
        Check.fault("roo 1;", 1, 0);
        Check.fault("roofroof 1;", 1, 0);
        Check.fault("Roof 1;", 1, 0);
        Check.fault("hunts moonwet;", 3, 6);
        Check.fault("hunts moon wet;", 1, 11);
        Check.fault("hunts a;", 3, 6);
        Check.fault("hunts z;", 3, 6);
        for (String word : "roof flight tawny barn white rider dawn hunts".split(" ")) {
            for (String other : nearly(word)) {
                Check.fault(other + " 1;", 1, 0);
            }
        }
        for (String word : "mice grain kind stop moon wet hour or and".split(" ")) {
            for (String other : nearly(word)) {
                Check.fault("hunts " + other + ";", 3, 6);
                Check.fault("hunts 1 " + other + " 1;", 1, 8);
            }
        }
        Check.fault("hunts miceZ;", 1, 10);
    }

    /** Words that are a word but for one letter at its end. */
    private static String[] nearly(String word) {
        String ahead = word.substring(0, word.length() - 1);
        return new String[] {word + "s", word + "a", ahead, ahead + "z", ahead + "a"};
    }

    private static void numbers() {
        Check.same("one digit", 7, Check.told("roof 7;").roof(0, 0));
        Check.same("four digits", 7, Check.told("roof 0007;").roof(0, 0));
        Check.same("the greatest", 1, Check.told("roof 0;tawny 0 0;hunts 9999/9999;").stop(0, 0, 2));
        Check.fault("roof 00007;", 2, 5);
        Check.fault("hunts 99990;", 2, 6);
        Check.fault("hunts " + "1".repeat(40) + ";", 2, 6);
        Check.fault("roof 0 7;", 1, 7);
    }

    /** Where a part must stand a word has a fault of its own, so all bytes can be told apart. */
    private static void signs() {
        for (char sign = 0; sign < 256; sign++) {
            boolean word = sign >= 'a' && sign <= 'z';
            boolean passed = sign == '(' || sign == 32 || sign == 10;
            if (sign < '0' || sign > '9') {
                Check.fault("hunts " + sign + ";", word ? 3 : 1, passed ? 7 : 6);
            }
        }
        for (char sign : "+-*/<=".toCharArray()) {
            Check.same("between two parts " + sign, 1, Check.told("hunts 1" + sign + "(1);").count(4));
        }
        for (char sign : "!#$%&',.:>?@[]^_{|}~".toCharArray()) {
            Check.fault("hunts 1" + sign + "1;", 1, 7);
        }
    }

    private static void blanks() {
        Check.same("none", 2, Check.told("roof1;roof2;").count(0));
        Check.same("many", 2, Check.told("\n\n roof \n 1 \n ; \n roof\n2  ;  ").count(0));
        Check.same("of their own", 0, Check.told(" \n ").count(0));
        for (char other : new char[] {0, 9, 11, 12, 13, 31, 33, 133, 160}) {
            Check.fault("roof" + other + "1;", 1, 4);
        }
        Check.fault("ro of 1;", 1, 0);
        Check.fault("hunts 1 2;", 1, 8);
    }

    private static void noLines() {
        WingTrams x = Check.told(TWO + OWL);
        Check.same("no line", 0, x.city(0));
        Check.same("no roofs", 0, x.count(0));
        Check.same("no owls", 0, x.count(2));
        Check.fault(";", 1, 0);
    }

    private static void numbersAlone() {
        Check.fault("roof mice;", 1, 5);
        Check.fault("roof (1);", 1, 5);
        Check.fault(TWO + "flight mice 1 5;", 1, 21);
        Check.fault(TWO + "flight 0 mice 5;", 1, 23);
        Check.fault(TWO + "flight 0 1 mice;", 1, 25);
        Check.fault(TWO + "tawny mice 0;", 1, 20);
        Check.fault(TWO + "tawny 0 mice;", 1, 22);
        Check.fault(TWO + "tawny 0 0 mice;", 1, 24);
        Check.fault(TWO + "rider mice 1 0 0;", 1, 20);
        Check.fault(TWO + "rider 0 mice 0 0;", 1, 22);
        Check.fault(TWO + "rider 0 1 mice 0;", 1, 24);
        Check.fault(TWO + "rider 0 1 0 mice;", 1, 26);
        Check.fault("dawn mice;", 1, 5);
        Check.same("but EXPR", 1, Check.told("hunts mice;").count(4));
    }

    private static void linesOfOwls() {
        WingTrams x = Check.told(LINKED + "tawny 5 0;barn 5 1;white 5 0 1 0;");
        Check.same("no more roofs", 1, x.owl(1, 2));
        Check.same("two more roofs", 3, x.owl(2, 2));
        Check.fault(TWO + "white;", 1, 19);
        Check.fault(TWO + "white 5;", 1, 21);
    }

    private static void kinds() {
        WingTrams x = Check.told("roof 0;white 0 0;barn 0 0;tawny 0 0;hunts kind;");
        for (int owl = 0; owl < 3; owl++) {
            Check.same("kind", 2 - owl, x.owl(owl, 0));
            Check.same("in a rule", 2 - owl, x.stop(owl, 0, 2));
        }
        Check.fault("roof 0;grey 0 0;", 1, 7);
    }

    private static void endsOfLines() {
        Check.fault("roof 1", 1, 6);
        Check.fault("roof 1 roof 2;", 1, 7);
        Check.fault(TWO + "flight 0 1 5 roof 1;", 1, 27);
        Check.fault("roof 0;tawny 0 0 roof 1;", 1, 17);
        Check.fault("roof 0;rider 0 0 0 0 roof 1;", 1, 21);
        Check.fault("dawn 60 roof 1;", 1, 8);
        Check.fault("hunts 1 roof 1;", 1, 8);
        Check.fault("roof 1;;", 1, 7);
    }

    private static void expressions() {
        Edges.terms(1, 9, "EXPR: AND ('or' AND)*. AND: NOT ('and' NOT)*", TextEdges::ands);
        Edges.terms(1, 9, "NOT: 'not' NOT | SUM [('<' | '=') SUM]", TextEdges::oneTest);
        Edges.terms(1, 9, "SUM: PRODUCT (('+' | '-') PRODUCT)*. PRODUCT: PART (('*' | '/') PART)*", TextEdges::sums);
        Edges.terms(1, 9, "PART: NUMBER | VALUE | '(' EXPR ')'", TextEdges::parts);
        Edges.terms(1, 9, "From the left", TextEdges::fromTheLeft);
        Edges.terms(1, 9, "ints that wrap", TextEdges::wrapping);
        Edges.terms(1, 9, "/ cut down to 0", TextEdges::cutDown);
        Edges.terms(1, 9, "by 0 gives 0", TextEdges::byNought);
        Edges.terms(1, 9, "tests, not, and, or are 1 or 0 (what isn't 0 holds)", TextEdges::holding);
    }

    private static void ands() {
        Check.hunts("7", 7);
        Check.hunts("1 or 0 and 0", 1);
        Check.hunts("0 and 0 or 7", 1);
        Check.hunts("0 or 0 or 0 or 1", 1);
        Check.hunts("1 and 1 and 1 and 0", 0);
        Check.fault("hunts 1 or;", 1, 10);
        Check.fault("hunts 1 and;", 1, 11);
        Check.fault("hunts or 1;", 3, 6);
    }

    private static void oneTest() {
        Check.hunts("not 1<1", 1);
        Check.hunts("not not 1=1", 1);
        Check.hunts("(2<3)<3", 1);
        Check.hunts("3=(2<1)", 0);
        Check.fault("hunts 1<2<3;", 1, 9);
        Check.fault("hunts 1=2=3;", 1, 9);
        Check.fault("hunts 1<2=3;", 1, 9);
        Check.fault("hunts 1<;", 1, 8);
        Check.fault("hunts not;", 1, 9);
    }

    private static void sums() {
        Check.hunts("2+3*4", 14);
        Check.hunts("20-8/4", 18);
        Check.hunts("1+1<1*3", 1);
        Check.fault("hunts 1+;", 1, 8);
        Check.fault("hunts 1*;", 1, 8);
        Check.fault("hunts -1;", 1, 6);
        Check.fault("hunts 1+-1;", 1, 8);
    }

    private static void parts() {
        Check.hunts("(7)", 7);
        Check.hunts("(2+3)*4", 20);
        Check.hunts("2*(1 or 0)", 2);
        for (String value : new String[] {"mice", "grain", "kind", "stop", "moon", "wet", "hour"}) {
            Check.hunts(value + "+9", 9);
        }
        Check.fault("hunts ();", 1, 7);
        Check.fault("hunts (7;", 1, 8);
        Check.fault("hunts 7);", 1, 7);
    }

    private static void fromTheLeft() {
        Check.hunts("9-2-3", 4);
        Check.hunts("9-2+3", 10);
        Check.hunts("24/4/2", 3);
        Check.hunts("24/5*5", 20);
        Check.hunts("3*9/4", 6);
    }

    private static void wrapping() {
        Check.hunts("0<" + MOST, 1);
        Check.hunts(MOST + "+1<0", 1);
        Check.hunts(MOST + "+1-1=" + MOST, 1);
        Check.hunts(MOST + "*2+5", 3);
        Check.hunts("0-" + MOST + "-2=" + MOST, 1);
        Check.hunts("0-(" + MOST + "+1)<0", 1);
        Check.hunts("(" + MOST + "+1)/(0-1)=" + MOST + "+1", 1);
    }

    private static void cutDown() {
        Check.hunts("7/2", 3);
        Check.hunts("(0-7)/2+9", 6);
        Check.hunts("7/(0-2)+9", 6);
        Check.hunts("(0-7)/(0-2)", 3);
        Check.hunts("(0-1)/2+9", 9);
    }

    private static void byNought() {
        Check.hunts("7/0", 0);
        Check.hunts("0/0", 0);
        Check.hunts("7/0+4", 4);
        Check.hunts("(0-7)/0+4", 4);
        Check.hunts("7/mice+4", 4);
        Check.hunts("7/(3-3)*2+4", 4);
    }

    private static void holding() {
        Check.hunts("5 and 3", 1);
        Check.hunts("5 and 0", 0);
        Check.hunts("(5 and 0)+3", 3);
        Check.hunts("(0 and 5)*9+3", 3);
        Check.hunts("(0 or 0)+3", 3);
        Check.hunts("(4 or 5)*3", 3);
        Check.hunts("(not 5)+3", 3);
        Check.hunts("(not 0)*3", 3);
        Check.hunts("(0-1) and (0-1)", 1);
        Check.hunts("7 or 9", 1);
        Check.hunts("0 or (0-1)", 1);
        Check.hunts("0 or 0", 0);
        Check.hunts("not 7", 0);
        Check.hunts("not (0-1)", 0);
        Check.hunts("not 0", 1);
        Check.hunts("(2<3)*5+(3<3)*7+(4<3)*9", 5);
        Check.hunts("(2=3)*5+(3=3)*7+(4=3)*9", 7);
        Check.hunts("(0-1<0)+(0<0-1)*9", 1);
    }

    private static void oneFault() {
        Edges.terms(1, 3, "FAULTS, the first along the text", TextEdges::theFirst);
        Edges.terms(1, 3, "at a TOKEN's first byte", TextEdges::firstByte);
        Edges.terms(1, 3, "of one TOKEN the least", TextEdges::theLeast);
        Edges.terms(1, 3, "1 a TOKEN that can't stand there", TextEdges::cannotStand);
        Edges.terms(1, 3, "or is none", TextEdges::noTokens);
        Edges.terms(1, 3, "(the text's length where it ends too soon)", TextEdges::endsTooSoon);
    }

    private static void theFirst() {
        Check.fault("roof 10;owl;", 2, 5);
        Check.fault("owl;roof 10;", 1, 0);
        Check.fault("tawny 301 7;", 2, 6);
        Check.fault("tawny 300 7;dawn 1;", 3, 10);
        Check.fault("hunts owl 12345;", 3, 6);
        Check.fault("dawn 60;dawn 1;", 5, 8);
        Check.fault(TWO + "flight 0 2 99;", 3, 23);
        Check.fault(TWO + "flight 2 2 99;", 3, 21);
        Check.fault(TWO + "flight 0 0 99;", 4, 23);
        Check.fault(TWO + "rider 2 2 999 99;", 3, 20);
        Check.fault(TWO + "rider 0 1 999 99;", 2, 24);
        Check.fault(TWO + "tawny 301 7 8 9;", 2, 20);
        Check.fault(TWO + "tawny 0 0 1 7;", 6, 24);
        Check.fault("hunts zebra+12345;hunts (;", 3, 6);
    }

    private static void firstByte() {
        Check.fault("roof 00010;", 2, 5);
        Check.fault(" \nrooftop 1;", 1, 2);
        Check.fault("hunts zebras;", 3, 6);
        Check.fault("hunts 1+123456;", 2, 8);
        Check.fault("dawn 60;  dawn 60;", 5, 10);
    }

    private static void theLeast() {
        // 2 ahead of 3: a roof of 5 digits, a 9th roof that isn't told, a word too deep.
        Check.fault(TWO + "flight 0 12345 5;", 2, 23);
        Check.fault(LINKED + "tawny 0 0 1 0 1 0 1 0 1 7;", 2, 51);
        Check.fault("hunts ((((((owl;", 2, 12);
        // 2 ahead of 6: a 9th roof without a flight; 3 ahead of 6: one that isn't told, either.
        Check.fault(LINKED + "tawny 0 0 1 0 1 0 1 0 1 1;", 2, 51);
        Check.fault(LINKED + "tawny 0 0 2;", 3, 37);
        // 1 ahead of 2: what is too much, where nothing of its kind can stand.
        Check.fault("12345;", 1, 0);
        Check.fault("roof 1 12345;", 1, 7);
        Check.fault("hunts 1 12345;", 1, 8);
    }

    private static void cannotStand() {
        Check.fault("mice;", 1, 0);
        Check.fault("7;", 1, 0);
        Check.fault("roof ;", 1, 5);
        Check.fault("roof roof;", 1, 5);
        Check.fault("roof 1 roof 2;", 1, 7);
        Check.fault("roof 1;;", 1, 7);
        Check.fault(TWO + "flight 0 1 5 1;", 1, 27);
        Check.fault(TWO + "rider 0 1 0 0 0;", 1, 28);
        Check.fault("dawn 60 60;", 1, 8);
        Check.fault("hunts 1 mice;", 1, 8);
        Check.fault("hunts 1 not 1;", 1, 8);
        Check.fault("hunts 1(1);", 1, 7);
        Check.fault("hunts *1;", 1, 6);
    }

    private static void noTokens() {
        Check.fault("@", 1, 0);
        Check.fault("roof 1;  @", 1, 9);
        Check.fault("roof @1;", 1, 5);
        Check.fault("roof 1@;", 1, 6);
        Check.fault("roof 1;\0", 1, 7);
        Check.fault("roof 1;\u0080", 1, 7);
        Check.fault("hunts \u00ff;", 1, 6);
        Check.fault("hunts 1 + A;", 1, 10);
    }

    private static void endsTooSoon() {
        String[] texts = {"roof", "roof 1", "roof 1  ", "dawn", "dawn 60\n", "hunts", "hunts 1", "hunts (", "hunts (1",
            "hunts not", "hunts 1+", "hunts 1*", "hunts 1<", "hunts 1=", "hunts 1 or", "hunts 1 and", "flight", "tawny",
            "tawny 0", "rider", TWO + "flight 0", TWO + "flight 0 1", TWO + "flight 0 1 5", TWO + "tawny 0 0",
            LINKED + "tawny 0 0 1", LINKED + "tawny 0 0 1 0 1 0 1 0 1", TWO + "rider 0", TWO + "rider 0 1",
            TWO + "rider 0 1 0", TWO + "rider 0 1 0 0 "};
        for (String text : texts) {
            Check.fault(text, 1, text.length());
        }
        WingTrams x = new WingTrams();
        Check.feed(x, "roof 1;roof 2;");
        Check.same("the bytes behind don't count", 1, x.city(13));
        Check.same("the text's length", 13, x.fault());
    }

    private static void faults() {
        Edges.terms(1, 3, "a NUMBER of 5 digits or more", TextEdges::fiveDigits);
        Edges.terms(1, 3, "or (not in an EXPR) not as told", TextEdges::notAsTold);
        Edges.terms(1, 3, "the first TOKEN of the 11th ROOF", () -> tooMany("roof 0;".repeat(10), "roof"));
        Edges.terms(1, 3, "the 19th FLIGHT", () -> tooMany(flights(18), "flight"));
        Edges.terms(1, 3, "the 6th OWL", TextEdges::sixthOwl);
        Edges.terms(1, 3, "the 9th RIDER", () -> tooMany(TWO + RIDER.repeat(8), "rider"));
        Edges.terms(1, 3, "the 5th of HUNTS", () -> tooMany("hunts 1;".repeat(4), "hunts"));
        Edges.terms(1, 3, "the 9th ROOF of a WAY", TextEdges::ninthRoof);
        Edges.terms(1, 3, "of an EXPR within 6 others (a NUMBER, any word, a parenthesis)", TextEdges::tooDeep);
        Edges.terms(1, 3, "the seventh 'not' side by side", TextEdges::sevenNots);
        Edges.terms(1, 3, "3 any word where a PART must stand that is no VALUE", TextEdges::noValues);
        Edges.terms(1, 3, "a ROOF that isn't told ahead", TextEdges::roofsNotTold);
        Edges.terms(1, 3, "4 the second ROOF of a FLIGHT that is the first one", TextEdges::flightsToThemselves);
        Edges.terms(1, 3, "or has one with it already (either way round)", TextEdges::flightsAgain);
        Edges.terms(1, 3, "5 a second 'dawn'", TextEdges::secondDawns);
        Edges.terms(1, 3, "6 a ROOF of a WAY without a FLIGHT (told ahead) from the one ahead", TextEdges::noFlights);
    }

    private static void fiveDigits() {
        Check.fault("roof 00000;", 2, 5);
        Check.fault(TWO + "flight 00000 1 5;", 2, 21);
        Check.fault(TWO + "flight 0 00001 5;", 2, 23);
        Check.fault(TWO + "flight 0 1 00005;", 2, 25);
        Check.fault(TWO + "tawny 00000 0;", 2, 20);
        Check.fault(TWO + "tawny 0 00000;", 2, 22);
        Check.fault(LINKED + "tawny 0 0 00001;", 2, 37);
        Check.fault(TWO + "rider 00000 1 0 0;", 2, 20);
        Check.fault(TWO + "rider 0 00001 0 0;", 2, 22);
        Check.fault(TWO + "rider 0 1 00000 0;", 2, 24);
        Check.fault(TWO + "rider 0 1 0 00000;", 2, 26);
        Check.fault("dawn 00060;", 2, 5);
        Check.fault("hunts 00001;", 2, 6);
        Check.fault("hunts 1<10000;", 2, 8);
        Check.fault("hunts 4294967297;", 2, 6);
    }

    private static void notAsTold() {
        Check.fault("roof 10;", 2, 5);
        Check.fault(TWO + "flight 0 1 0;", 2, 25);
        Check.fault(TWO + "flight 0 1 61;", 2, 25);
        Check.fault(TWO + "white 301 0;", 2, 20);
        Check.fault(TWO + "rider 0 1 401 0;", 2, 24);
        Check.fault(TWO + "rider 0 1 400 10;", 2, 28);
        Check.fault("dawn 59;", 2, 5);
        Check.fault("dawn 601;", 2, 5);
        Check.hunts("9999-9998", 1);
        Check.hunts("0000", 0);
    }

    /** Whatever stands behind the first token of a thing too many: the place is that token's. */
    private static void tooMany(String most, String first) {
        Check.told(most);
        Check.fault(most + first, 2, most.length());
        Check.fault(most + " " + first + " @", 2, most.length() + 1);
        Check.fault(most + first + " 12345", 2, most.length());
    }

    private static void sixthOwl() {
        tooMany(TWO + OWL.repeat(5), "tawny");
        tooMany(TWO + OWL.repeat(5), "barn");
        tooMany(TWO + "white 0 1;".repeat(5), "white");
    }

    private static void ninthRoof() {
        String most = LINKED + "barn 0 0 1 0 1 0 1 0 1";
        Check.told(most + ";");
        Check.fault(most + " 0;", 2, 50);
        Check.fault(most + " 0 @", 2, 50);
        Check.fault(most + " 9999;", 2, 50);
        Check.fault(most + " mice;", 1, 50);
    }

    private static void tooDeep() {
        Check.hunts("(((((7)))))", 7);
        Check.hunts("(((((7)))))+(((((8)))))", 15);
        Check.fault("hunts ((((((7))))));", 2, 12);
        Check.fault("hunts ((((((mice))))));", 2, 12);
        Check.fault("hunts ((((((not 7))))));", 2, 12);
        Check.fault("hunts ((((((zebra))))));", 2, 12);
        Check.fault("hunts ((((((or", 2, 12);
        Check.fault("hunts (((((((7)))))));", 2, 12);
        Check.fault("hunts 1+(1*(1<(1 or (not (1-(1))))));", 2, 29);
        Check.fault("hunts ((((((;", 1, 12);
        Check.fault("hunts ((((((+7))))));", 1, 12);
        Check.fault("hunts ((((((", 1, 12);
    }

    private static void sevenNots() {
        Check.hunts("not not not not not not 7", 1);
        Check.hunts("not not not not not 7", 0);
        Check.fault("hunts not not not not not not not 7;", 2, 30);
        Check.fault("hunts 1 and not not not not not not not", 2, 36);
        Check.hunts("not not not not not not (not 7)", 0);
        Check.hunts("not not not not not not 7 and not not not not not not 7", 1);
    }

    private static void noValues() {
        for (String word : new String[] {"zebra", "roof", "dawn", "hunts", "or", "and", "mic", "mices"}) {
            Check.fault("hunts " + word + ";", 3, 6);
            Check.fault("hunts not " + word + ";", 3, 10);
            Check.fault("hunts (" + word + ");", 3, 7);
            Check.fault("hunts 1-" + word + ";", 3, 8);
        }
        for (String sign : new String[] {"+", "-", "*", "/", "<", "="}) {
            Check.fault("hunts 1" + sign + "not 1;", 3, 8);
        }
        Check.fault("hunts 1 or owl;", 3, 11);
        Check.fault("hunts 1 and owl;", 3, 12);
    }

    private static void roofsNotTold() {
        Check.fault("flight 0 1 5;", 3, 7);
        Check.fault("roof 0;flight 0 1 5;roof 0;", 3, 16);
        Check.fault(TWO + "flight 2 1 5;", 3, 21);
        Check.fault(TWO + "flight 0 10 5;", 3, 23);
        Check.fault("tawny 0 0;roof 0;", 3, 8);
        Check.fault(LINKED + "tawny 0 0 1 2;", 3, 39);
        Check.fault(TWO + "rider 2 1 0 0;", 3, 20);
        Check.fault(TWO + "rider 0 9999 0 0;", 3, 22);
        Check.same("told ahead", 1, Check.told(TWO + "rider 1 1 0 0;").count(3));
    }

    private static void flightsToThemselves() {
        Check.fault(TWO + "flight 0 0 5;", 4, 23);
        Check.fault(TWO + "flight 1 1 99;", 4, 23);
        Check.fault(TWO + "flight 1 01 5;", 4, 23);
    }

    private static void flightsAgain() {
        Check.fault(LINKED + "flight 0 1 5;", 4, 36);
        Check.fault(LINKED + "flight 1 0 6;", 4, 36);
        Check.fault(LINKED + "flight 1 0", 4, 36);
        Check.same("others", 2, Check.told(LINKED + "roof 0;flight 2 0 5;").count(1));
    }

    private static void secondDawns() {
        Check.fault("dawn 60;dawn 60;", 5, 8);
        Check.fault("dawn 60;dawn", 5, 8);
        Check.fault("dawn 360;roof 1;dawn 12345;", 5, 16);
        WingTrams x = new WingTrams();
        Check.tell(x, "dawn 60;dawn 60;");
        Check.same("the first one of another text", 0, Check.tell(x, "dawn 70;"));
        Check.same("it counts", 70, x.count(6));
    }

    private static void noFlights() {
        Check.fault(TWO + "tawny 0 0 1;", 6, 24);
        Check.fault(TWO + "tawny 0 0 1;flight 0 1 5;", 6, 24);
        Check.fault(LINKED + "tawny 0 0 0;", 6, 37);
        Check.fault(LINKED + "roof 0;tawny 0 0 1 2;", 6, 46);
        Check.same("told ahead, either way round", 2, Check.told(LINKED + "tawny 0 1 0;").owl(0, 2));
    }

    private static void tape() {
        Edges.promise(1, "No ROOFS, no OWLS.", TextEdges::newObject);
        Edges.promise(2, "Twenty bytes come behind the tape, of each number the highest first", TextEdges::twentyBytes);
        Edges.promise(2, "how many it has", TextEdges::howManyBytes);
        Edges.promise(2, "NONE, and none come, if it would have more than 700", TextEdges::fullTape);
    }

    private static void newObject() {
        WingTrams x = new WingTrams();
        for (int what = 0; what < 17; what++) {
            Check.same("count " + what, what == 5 ? -1 : what == 6 ? 360 : 0, x.count(what));
        }
        Edges.noSuch("roof", roof -> x.roof(roof, 0), 0, -1);
        Edges.noSuch("owl", owl -> x.owl(owl, 0), 0, -1);
        Edges.noSuch("rider", rider -> x.rider(rider, 0), 0, -1);
    }

    private static void twentyBytes() {
        WingTrams x = new WingTrams();
        x.feed(0x726f6f66, 0x20373b72, 0x6f6f6620, 0x383b2020, 0x20202072);
        x.feed(0x6f6f6620, 0x393b2020, 0x20202020, 0x20202020, 0x202020ff);
        Check.same("39 of them", 0, x.city(39));
        for (int roof = 0; roof < 3; roof++) {
            Check.same("grain of " + roof, 7 + roof, x.roof(roof, 0));
        }
        x.feed(0x20202020, 0x20202020, 0x20202020, 0x20202020, 0x8020ff7f);
        Check.same("bytes above 127", 1, x.city(20));
        Check.same("the first of a number", 16, x.fault());
        x.feed(0x20202020, 0x20202020, 0x20202020, 0x20202020, 0x202020ff);
        Check.same("bytes above 127", 1, x.city(20));
        Check.same("the last of a number", 19, x.fault());
    }

    private static void howManyBytes() {
        WingTrams x = new WingTrams();
        Check.same("the first", 20, x.feed(0, -1, Integer.MIN_VALUE, Integer.MAX_VALUE, 0));
        Check.same("one more", 40, x.feed(0, 0, 0, 0, 0));
        x.city(0);
        Check.same("from an empty tape", 20, x.feed(0, 0, 0, 0, 0));
    }

    private static void fullTape() {
        WingTrams x = new WingTrams();
        for (int i = 1; i <= 35; i++) {
            Check.same("feed", 20 * i, x.feed(0x20202020, 0x20202020, 0x20202020, 0x20202020, 0x20202020));
        }
        for (int i = 0; i < 3; i++) {
            Check.same("full", -1, x.feed(0x726f6f66, 0x20373b72, 0x6f6f6620, 0x383b2020, 0x20202020));
            Check.same("none come", 700, x.count(13));
        }
        Check.same("not refused", 0, x.count(14) + x.count(15) + x.count(16));
        Check.same("what it had", 0, x.city(700));
        Check.same("no roofs in it", 0, x.count(0));
        Check.same("empty again", 20, x.feed(0, 0, 0, 0, 0));
    }

    private static void cities() {
        Edges.promise(3, "The tape's first n bytes (it is empty then) are a CITY", TextEdges::firstBytes);
        Edges.promise(3, "all anew", TextEdges::allAnew);
        Edges.promise(3, "0, or the FAULT (the tape is empty then, too; all else stays)", TextEdges::allStays);
        Edges.promise(3, "ACTS, what is SEEN, rows that are kept, the image are gone", TextEdges::allGone);
        Edges.promise(3, "MOON, wet, nests as at first", TextEdges::asAtFirst);
        Edges.promise(3, "(STATUS stays)", TextEdges::statusStays);
        Edges.promise(3, "IllegalArgumentException: the tape has not so many, n below 0", TextEdges::wrongLengths);
        Edges.promise(3, "(nothing changes)", TextEdges::nothingChanges);
        Edges.promise(4, "The place of the latest city()'s FAULT", TextEdges::latestPlace);
        Edges.promise(4, "NONE without", TextEdges::noPlace);
    }

    private static void firstBytes() {
        WingTrams x = new WingTrams();
        Check.feed(x, "roof 1;roof 2;zebra");
        Check.same("fewer than it has", 0, x.city(14));
        Check.same("two roofs", 2, x.count(0));
        Check.same("empty then", 0, x.count(13));
        Check.feed(x, "roof 1;");
        Check.same("all that it has", 0, x.city(20));
        Check.same("a roof", 1, x.count(0));
        Check.feed(x, "zebra");
        Check.same("none of them", 0, x.city(0));
        Check.same("no roofs", 0, x.count(0));
        Check.same("empty then", 0, x.count(13));
        Check.same("of an empty tape", 0, x.city(0));
    }

    private static void allAnew() {
        WingTrams x = Check.told(LINKED + "tawny 0 0 1;rider 0 1 0 0;hunts 5;dawn 60;");
        Check.tell(x, "roof 3;roof 0;");
        int[] due = {2, 0, 0, 0, 0, -1, 360};
        for (int what = 0; what < due.length; what++) {
            Check.same("count " + what, due[what], x.count(what));
        }
        Check.same("no flight", -1, x.flight(0, 1));
        Check.same("grain", 3, x.roof(0, 0));
        Check.tell(x, LINKED + "tawny 0 0 1;rider 0 1 0 0;");
        Check.same("told again", 7, x.home(0));
        Check.tell(x, LINKED + "tawny 0 0;rider 0 1 0 0;hunts 7;");
        Check.same("by another rule", 7, x.stop(0, 0, 2));
        Check.same("that is the only one", 17, x.fits());
        Check.tell(x, TWO + "tawny 0 0;hunts not 5;");
        Check.tell(x, TWO + "tawny 0 0;hunts 5;");
        Check.same("by a shorter rule", 5, x.stop(0, 0, 2));
        Check.tell(x, LINKED + "tawny 0 0;rider 0 1 0 0;hunts 7;");
        Check.same("nobody comes there", -1, x.home(0));
        Edges.noSuch("stop", i -> x.stop(0, i, 0), 1);
        Edges.noSuch("stop of an owl", owl -> x.stop(owl, 0, 0), 1);
        Edges.noSuch("owl", owl -> x.owl(owl, 0), 1);
        Edges.noSuch("rider", rider -> x.rider(rider, 0), 1);
        Edges.noSuch("roof", roof -> x.roof(roof, 0), 2);
    }

    private static void allStays() {
        WingTrams x = Check.told(LINKED + "tawny 0 0 1;rider 0 1 0 0;hunts 5;dawn 60;");
        x.grain(0, 4);
        x.start(0, 9);
        x.see(0, 9, 0);
        x.lure(1, 60);
        x.image();
        x.nest(0, true);
        Check.feed(x, "roof 0;roof 0;roof 0;hunts 1;dawn 70;zebra");
        Check.same("a fault", 1, x.city(42));
        int[] due = {2, 1, 1, 1, 1, 0, 60, 0, 0, 1, 0, 3, 1, 0, 1, 0, 0};
        for (int what = 0; what < due.length; what++) {
            Check.same("count " + what, due[what], x.count(what));
        }
        Check.same("grain", 4, x.roof(0, 0));
        Check.same("flight", 5, x.flight(0, 1));
        Check.same("the row that is kept", 0, x.more(1));
        Check.same("acts", 2, x.undo());
        Check.same("the image", true, x.restore());
        Check.same("by the rule", 14 + 5, x.home(0));
    }

    private static void allGone() {
        WingTrams x = Check.told(LINKED + "tawny 0 0 1;rider 0 1 0 0;");
        x.moon(3);
        x.see(0, 0, 0);
        x.lure(1, 60);
        x.image();
        Check.tell(x, LINKED + "tawny 0 0 1;rider 0 1 0 0;");
        Check.same("acts", 0, x.count(11));
        Check.same("nothing to undo", -1, x.undo());
        Check.same("seen", 0, x.count(12));
        Edges.noSuch("more", roof -> x.more(roof), 0, 1, 2);
        Check.same("image", false, x.restore());
    }

    private static void asAtFirst() {
        WingTrams x = Check.told(LINKED + "tawny 0 0 1;tawny 0 1;");
        x.moon(7);
        x.wet(true);
        x.nest(0, true);
        x.nest(1, true);
        Check.same("none", 0, x.city(0));
        Check.same("moon", 0, x.count(7));
        Check.same("dry", 0, x.count(8));
        Check.same("nests", 0, x.count(9));
        Check.tell(x, LINKED + "tawny 0 0 1;tawny 0 1;hunts 3;");
        Check.same("flies", 0, x.owl(1, 4));
        Check.same("rule", 0, x.count(5));
    }

    private static void statusStays() {
        WingTrams x = Check.told(TWO + OWL);
        x.moon(8);
        x.moon(8);
        x.see(0, 601, 0);
        x.see(0, 601, 0);
        x.see(0, 601, 0);
        Check.tell(x, "zebra");
        Check.same("a city", 0, Check.tell(x, TWO));
        Check.same("texts", 1, x.count(14));
        Check.same("acts", 2, x.count(15));
        Check.same("what is seen", 3, x.count(16));
    }

    private static void wrongLengths() {
        WingTrams x = new WingTrams();
        Edges.illegal("city", x::city, 1, -1, 20, Integer.MAX_VALUE);
        Check.feed(x, "roof 1;");
        Edges.illegal("city", x::city, 21, -1, 700, Integer.MAX_VALUE);
        Check.same("as many as it has", 0, x.city(20));
    }

    private static void nothingChanges() {
        WingTrams x = Check.told("roof 1;");
        x.moon(3);
        x.image();
        Check.tell(x, "roof 1");
        Check.feed(x, "roof 2;roof 3;");
        Edges.illegal("city", x::city, 21, -1);
        Check.same("the tape", 20, x.count(13));
        Check.same("the fault", 6, x.fault());
        Check.same("refused", 1, x.count(14));
        Check.same("roofs", 1, x.count(0));
        Check.same("moon", 3, x.count(7));
        Check.same("image", true, x.restore());
        Check.same("its bytes", 0, x.city(14));
        Check.same("roofs of them", 2, x.count(0));
    }

    private static void latestPlace() {
        WingTrams x = new WingTrams();
        Check.tell(x, "roof x;");
        Check.same("first", 5, x.fault());
        Check.same("asked again", 5, x.fault());
        Check.tell(x, "x");
        Check.same("in the first byte", 0, x.fault());
        Check.tell(x, "roof 1");
        Check.same("behind the last byte", 6, x.fault());
    }

    private static void noPlace() {
        WingTrams x = new WingTrams();
        Check.same("no city yet", -1, x.fault());
        Check.tell(x, "roof x;");
        Check.tell(x, "roof 1;");
        Check.same("no fault", -1, x.fault());
        Check.tell(x, "roof x;");
        x.city(0);
        Check.same("no bytes", -1, x.fault());
    }
}
