/** What "Terms" says of THE TEXT, clause by clause, on both sides of each bound. */
public final class TextTest {
    private static final String STILL = Shores.STILL;
    /** A SOUL on THE SHELF and two CALLERS. */
    private static final String SHELF = STILL + "soul 0 5 0;walk 1;caller 0;caller 1;";
    /** Ten times 99 TIDES. */
    private static final String TIDES990 = "shore2 2 2 2 2 2 2 2 2 2 2 2;" + "tides99;".repeat(10);

    public static void main(String[] args) {
        lengthEnds();
        cleared();
        itemsEndBySemicolons();
        itemsMost();
        twelveCurrents();
        currentEnds();
        once();
        firstOfAll();
        soulEnds();
        callerEnds();
        walkEnds();
        walkAt999();
        callEnds();
        callOfWhoIsNotThereYet();
        callOfWhoCanTakeNone();
        tidesEnds();
        tidesEndAt999();
        tidesWhereTheyStand();
        letters();
        figures();
        oneOrTwoFigures();
        threeFigures();
        blanksAnyNumber();
        blanksNeeded();
        bytesThatBeginNone();
        wordsThatAreNone();
        wordsOutOfPlace();
        sevenSouls();
        sevenCallers();
        numbersMissing();
        endsTooEarly();
        everyLength();
        theFirstFault();
        emptyText();
        takesThePlaceOfAll();
        leavesTheRest();
        faultLeavesAll();
        Due.end();
    }

    private static SoulShore items(String text, int due) {
        SoulShore x = new SoulShore();
        Due.is("read() of " + text, Due.told(x, text), due);
        return x;
    }

    private static void fault(String text, int place) {
        SoulShore x = Shores.callers(Shores.shelf(0, 5, 4, 9), 0);
        x.tides(1);
        Due.type(x, text);
        Due.is("bytes", x.count(10), text.length());
        Due.asks(x, "read() of " + text, SoulShore::read, -10 - place);
        Due.is("count(9)", x.count(9), 1);
    }

    /** The fault is the last token of this text, whatever comes behind it. */
    private static void faultAt(String ahead, String token) {
        fault(ahead + token, ahead.length());
        fault(ahead + token + ";", ahead.length());
        fault(ahead + "  " + token + " soul 0 1 0;", ahead.length() + 2);
    }

    // ---- items

    private static void lengthEnds() {
        Due.sentence("a TEXT (150 bytes at most)");
        SoulShore x = new SoulShore();
        Due.type(x, STILL + "soul 0 5 7;");
        for (int n = x.count(10); n < 138; n++) {
            Due.is("type(32)", x.type(32), n + 1);
        }
        Due.type(x, "soul 5 9 11");
        Due.is("count(10)", x.count(10), 149);
        Due.asks(x, "read() of 149 bytes", SoulShore::read, -10 - 149);
        Due.is("the 150th", x.type(';'), 150);
        Due.full(x, "the 151st", y -> y.type(';'));
        Due.is("count(10)", x.count(10), 150);
        Due.is("read() of 150 bytes", x.read(), 3);
        Due.is("the last item", x.of(1, 2), 11);
        Due.full(x, "the 151st", y -> y.type('x'));
        Due.is("read() again", x.read(), 3);
        Due.is("clear()", x.clear(), 150);
        Due.is("type(32)", x.type(32), 1);
        for (String end : new String[] {" ", "soul", "soul 0", "soul 0 1 11", "caller 05", "?"}) {
            x = new SoulShore();
            String ahead = STILL + " ".repeat(150 - STILL.length() - end.length());
            Due.type(x, ahead + end);
            Due.is("count(10)", x.count(10), 150);
            Due.is("read() of 150 bytes that end with " + end, x.read(),
                end.equals(" ") ? 1 : end.equals("?") ? -10 - 149 : -10 - 150);
        }
        x = new SoulShore();
        Due.type(x, " ".repeat(200));
        Due.is("read() of 150 blanks", x.read(), -10 - 150);
    }

    private static void cleared() {
        Due.sentence("THE TEXT is empty: what it had is read no more");
        for (String end : new String[] {"", " ", "soul", "sou", "soul 1", "soul 0 1", "soul 0 1 1", "soul 0 1 1 "}) {
            for (String old : new String[] {" ", "1", "l", ";", "1;", " 1;", "?"}) {
                SoulShore x = new SoulShore();
                Due.type(x, STILL + end + old.repeat(9));
                x.clear();
                Due.type(x, STILL + end);
                int length = STILL.length() + end.length();
                Due.is("read() with \"" + old + "\" behind \"" + end + "\" before", x.read(),
                    end.trim().isEmpty() ? 1 : end.equals("sou") ? -10 - STILL.length() : -10 - length);
            }
        }
    }

    private static void itemsEndBySemicolons() {
        Due.sentence("ITEMS, each ended by ;");
        items(STILL, 1);
        fault(STILL.substring(0, 29), 29);
        faultAt(STILL, ";");
        for (String item : new String[] {"soul 0 1 0", "caller 0", "walk 1", "tides 1"}) {
            items(STILL + item + ";", 2);
            items(STILL + item + " ;", 2);
            fault(STILL + item, STILL.length() + item.length());
            fault(STILL + item + " ", STILL.length() + item.length() + 1);
            faultAt(STILL + item + ";", ";");
            faultAt(STILL + item + " ", "soul");
            faultAt(STILL + item + " ", "5");
            faultAt(STILL + item + " ", ".");
        }
        items(SHELF + "call 0;", 6);
        fault(SHELF + "call 0", SHELF.length() + 6);
        faultAt(SHELF + "call 0 ", "0");
        faultAt(SHELF + "call 0", "call");
    }

    private static void itemsMost() {
        Due.sentence("THE SHORE is read: how many ITEMS");
        String shore = "shore2 2 2 2 2 2 2 2 2 2 2 2;";
        for (int n = 0; n <= 17; n++) {
            items(shore + "walk1;".repeat(n), 1 + n);
        }
        SoulShore x = items(shore + "walk1;".repeat(20), 21);
        Due.is("the TIDE", x.count(2), 20);
    }

    private static void twelveCurrents() {
        Due.sentence("shore and 12 numbers");
        StringBuilder text = new StringBuilder("shore");
        for (int n = 0; n <= 12; n++) {
            if (n < 12) {
                faultAt(text.toString(), ";");
                faultAt(text + " ", "caller");
                fault(text.toString(), text.length());
            } else {
                items(text + ";", 1);
                faultAt(text + " ", "2");
            }
            text.append(" 2");
        }
    }

    private static void currentEnds() {
        Due.sentence("CURRENTS of CELLS 0 to 11, each and 2: 0 .. 4");
        for (int c = 0; c <= 11; c++) {
            String ahead = "shore" + " 2".repeat(c) + " ";
            String behind = " 2".repeat(11 - c) + ";";
            for (int v = 0; v <= 4; v++) {
                SoulShore x = items(ahead + v + behind, 1);
                for (int other = 0; other <= 11; other++) {
                    Due.is("current(" + other + ")", x.current(other, 0), other == c ? v - 2 : 0);
                }
            }
            fault(ahead + "5" + behind, ahead.length());
            fault(ahead + "10" + behind, ahead.length());
        }
    }

    private static void once() {
        Due.sentence("once; FAULT: shore again");
        faultAt(STILL, "shore");
        faultAt(STILL + "soul 0 1 0;", "shore");
        fault(STILL + STILL, STILL.length());
        fault(STILL + STILL.substring(0, 20), STILL.length());
        fault(SHELF + "call 0;" + STILL, SHELF.length() + 7);
    }

    private static void firstOfAll() {
        Due.sentence("first of all; FAULT: anything ahead of it");
        for (String ahead : new String[] {"soul 0 1 0;", "caller 0;", "walk 1;", "call 0;", "tides 1;",
            ";", "2", "0;", "x", "-", "shores", "shor"}) {
            fault(ahead + STILL, 0);
            fault("   " + ahead + STILL, 3);
            fault(ahead, 0);
        }
        items("   " + STILL, 1);
    }

    private static void soulEnds() {
        Due.sentence("soul KIND WEIGHT CELL");
        SoulShore x = items(STILL + "soul 0 1 0;soul 5 9 11;", 3);
        int[][] due = {{0, 1, 0, -1, 0}, {5, 9, 11, -1, 0}};
        for (int s = 0; s <= 1; s++) {
            for (int what = 0; what <= 4; what++) {
                Due.is("of(" + s + ", " + what + ")", x.of(s, what), due[s][what]);
            }
        }
        faultAt(STILL + "soul ", "6");
        faultAt(STILL + "soul 5 ", "0");
        faultAt(STILL + "soul 5 ", "10");
        faultAt(STILL + "soul 5 9 ", "12");
        faultAt(STILL + "soul 5 9 ", "99");
        faultAt(STILL + "soul 5 9 11 ", "11");
    }

    private static void callerEnds() {
        Due.sentence("caller KIND");
        SoulShore x = items(STILL + "caller 0;caller 5;", 3);
        Due.is("about(0, 0)", x.about(0, 0), 0);
        Due.is("about(1, 0)", x.about(1, 0), 5);
        faultAt(STILL + "caller ", "6");
        faultAt(STILL + "caller ", "99");
        faultAt(STILL + "caller 5 ", "5");
    }

    private static void walkEnds() {
        Due.sentence("walk s (0 .. 2: s and 1");
        int[] cells = {1, 2, 3};
        for (int s = 0; s <= 2; s++) {
            SoulShore x = items(STILL + "walk 2;walk 2;soul 0 5 " + cells[s] + ";walk " + s + ";", 5);
            Due.is("THE COMBER", x.count(5), cells[s]);
            Due.is("on THE SHELF", x.count(4), 1);
            Due.is("dry by its TIDE", x.of(0, 4), 1);
            Due.is("the TIDE", x.count(2), 3);
        }
        faultAt(STILL + "walk ", "3");
        faultAt(STILL + "walk 2 ", "2");
        Due.is("not beyond 0", items(STILL + "walk 0;", 2).count(5), 0);
        Due.is("not beyond 11", items("shore2 2 2 2 2 2 2 2 2 2 2 2;" + "walk2;".repeat(12), 13).count(5), 11);
    }

    private static void walkAt999() {
        Due.sentence("at TIDE 999 without a TIDE");
        SoulShore x = items(TIDES990 + "tides 8;soul 0 1 1;walk 2;", 14);
        Due.is("the TIDE behind a WALK at 998", x.count(2), 999);
        Due.is("dry behind a WALK at 998", x.of(0, 4), 1);
        x = items(TIDES990 + "tides 9;soul 0 1 1;walk 2;", 14);
        Due.is("the TIDE behind a WALK at 999", x.count(2), 999);
        Due.is("dry behind a WALK at 999", x.of(0, 4), 0);
        Due.is("THE COMBER", x.count(5), 1);
        Due.is("on THE SHELF", x.count(4), 1);
        x = items(TIDES990.replace("shore2 ", "shore3 ") + "tides 8;soul 0 1 0;walk 2;", 14);
        Due.is("it drifts behind a WALK at 998", x.of(0, 2), 1);
        x = items(TIDES990.replace("shore2 ", "shore3 ") + "tides 9;soul 0 1 0;walk 2;", 14);
        Due.is("nothing drifts behind a WALK at 999", x.of(0, 2), 0);
    }

    private static void callEnds() {
        Due.sentence("call i");
        SoulShore x = items(SHELF + "call 0;", 6);
        Due.is("who HOLDS it", x.of(0, 3), 0);
        x = items(SHELF + "call 1;", 6);
        Due.is("who HOLDS it", x.of(0, 3), 1);
        faultAt(SHELF + "call ", "2");
        faultAt(SHELF + "call ", "99");
        x = items("shore2 2 2 2 2 2 2 2 2 2 2 2;soul0 9 0;soul0 3 0;walk1;" + "caller0;".repeat(6) + "call5;call1;", 12);
        Due.is("who HOLDS 0", x.of(0, 3), 1);
        Due.is("who HOLDS 1", x.of(1, 3), 5);
        Due.is("nothing to undo", x.count(9), 0);
        // of like ones the least; as it feels
        x = items(STILL + "soul 0 5 0;soul 3 5 0;soul 0 5 0;walk 1;caller 0;caller 4;call 1;call 0;", 9);
        Due.is("1 feels 10 for 5, and 14 for 7", x.of(0, 3), 1);
        Due.is("0 looks for 5", x.of(2, 3), 0);
    }

    private static void callOfWhoIsNotThereYet() {
        Due.sentence("also a CALLER that is not there yet");
        faultAt(STILL + "soul 0 1 0;walk 1;call ", "0");
        fault(STILL + "soul 0 1 0;walk 1;call 0;caller 0;", 53);
        items(STILL + "soul 0 1 0;walk 1;caller 0;call 0;", 5);
        fault(STILL + "soul 0 1 0;walk 1;caller 0;call 1;caller 0;", 62);
        items(STILL + "soul 0 1 0;walk 1;caller 0;caller 0;call 1;", 6);
        faultAt(STILL + "soul 0 1 0;walk 1;call ", "x");
    }

    private static void callOfWhoCanTakeNone() {
        Due.sentence("or can TAKE none");
        faultAt(STILL + "caller 0;call ", "0");
        faultAt(STILL + "caller 0;soul 0 5 0;call ", "0");
        items(STILL + "caller 0;soul 0 5 0;walk 1;call 0;", 5);
        faultAt(STILL + "caller 0;soul 0 5 1;walk 1;call ", "0");
        faultAt(SHELF + "call 0;call ", "0");
        faultAt(SHELF + "call 0;call ", "1");
        items(SHELF + "soul 0 5 0;walk 1;call 0;call 1;", 9);
        faultAt(SHELF + "soul 0 5 0;walk 1;call 0;call ", "0");
    }

    private static void tidesEnds() {
        Due.sentence("tides n (1 .. 99");
        Due.is("the TIDE", items(STILL + "tides 1;", 2).count(2), 1);
        Due.is("the TIDE", items(STILL + "tides 60;", 2).count(2), 60);
        Due.is("the TIDE", items(STILL + "tides 61;", 2).count(2), 61);
        Due.is("the TIDE", items(STILL + "tides 99;", 2).count(2), 99);
        faultAt(STILL + "tides ", "0");
        faultAt(STILL + "tides ", "00");
        faultAt(STILL + "tides ", "100");
        faultAt(STILL + "tides 99 ", "1");
    }

    private static void tidesEndAt999() {
        Due.sentence("TIDES .. (999 at most): tides n");
        Due.is("the TIDE", items(TIDES990 + "tides 8;", 12).count(2), 998);
        Due.is("the TIDE", items(TIDES990 + "tides 9;", 12).count(2), 999);
        Due.is("the TIDE", items(TIDES990 + "tides 10;", 12).count(2), 999);
        SoulShore x = items(TIDES990 + "tides 9;soul 0 1 0;walk 1;tides 99;", 15);
        Due.is("none goes by at 999", x.of(0, 4), 0);
        x = items(TIDES990 + "tides 6;soul 0 1 0;walk 1;tides 99;", 15);
        Due.is("two go by at 997", x.of(0, 4), 3);
    }

    private static void tidesWhereTheyStand() {
        Due.sentence("so many go by, where it stands");
        SoulShore x = items("shore 3 3 3 3 2 2 2 2 2 2 2 2;soul 0 5 0;tides 2;soul 0 5 0;tides 1;soul 0 5 0;", 6);
        Due.is("of(0, 2)", x.of(0, 2), 3);
        Due.is("of(1, 2)", x.of(1, 2), 1);
        Due.is("of(2, 2)", x.of(2, 2), 0);
        Due.is("the TIDE", x.count(2), 3);
    }

    // ---- tokens

    private static void letters() {
        Due.sentence("words of letters a .. z");
        faultAt(STILL, "a");
        faultAt(STILL, "z");
        fault(STILL + "walka 1;", STILL.length());
        fault(STILL + "walkz 1;", STILL.length());
        fault(STILL + "walk`1;", STILL.length() + 4);
        fault(STILL + "walk{1;", STILL.length() + 4);
        fault(STILL + "walkA 1;", STILL.length() + 4);
        fault(STILL + "walkZ 1;", STILL.length() + 4);
        fault(STILL + "Walk 1;", STILL.length());
        fault(STILL + "WALK 1;", STILL.length());
        items(STILL + "walk1;", 2);
    }

    private static void figures() {
        Due.sentence("figures");
        items(STILL + "tides 09;", 2);
        Due.is("all figures", items(STILL + "tides 10;tides 23;tides 45;tides 67;tides 89;", 6).count(2), 234);
        fault(STILL + "tides 1/;", STILL.length() + 7);
        fault(STILL + "tides 1:;", STILL.length() + 7);
        fault(STILL + "tides /1;", STILL.length() + 6);
        fault(STILL + "tides :1;", STILL.length() + 6);
        fault(STILL + "tides -1;", STILL.length() + 6);
        fault(STILL + "tides +1;", STILL.length() + 6);
    }

    private static void oneOrTwoFigures() {
        Due.sentence("1 or 2 are one number");
        SoulShore x = items("shore 00 01 02 03 04 2 2 2 2 2 2 02;"
            + "soul 05 09 00;soul 00 01 11;caller 05;walk 02;tides 05;", 6);
        Due.is("current(0)", x.current(0, 0), -2);
        Due.is("current(4)", x.current(4, 0), 2);
        Due.is("kind", x.of(0, 0), 5);
        Due.is("weight", x.of(0, 1), 9);
        Due.is("weight", x.of(1, 1), 1);
        Due.is("the TIDE", x.count(2), 6);
        fault("shore 22 2 2 2 2 2 2 2 2 2 2;", 6);
        fault(STILL + "soul 01 0;", STILL.length() + 8);
        fault(STILL + "soul 51 0 0;", STILL.length() + 5);
        items(SHELF + "call 01;", 6);
        fault(SHELF + "call 02;", SHELF.length() + 5);
    }

    private static void threeFigures() {
        Due.sentence("a run of three figures or more (at its first one)");
        items(STILL + "tides 01;", 2);
        faultAt(STILL + "tides ", "001");
        faultAt(STILL + "tides ", "010");
        faultAt(STILL + "tides ", "100");
        faultAt(STILL + "tides ", "0001");
        faultAt(STILL + "tides", "1".repeat(60));
        faultAt(STILL + "walk ", "001");
        faultAt("shore ", "002");
        faultAt(STILL, "000");
        faultAt(STILL + "walk 1 ", "000");
        faultAt("", "123");
        faultAt(STILL + "soul 0 5 ", "011");
        faultAt(SHELF + "call ", "000");
        faultAt(STILL + "tides ", "4294967297");
        faultAt(STILL + "tides ", "2".repeat(40));
    }

    private static void blanksAnyNumber() {
        Due.sentence("blanks (32), any number, ahead of, between and behind TOKENS");
        items(STILL + "walk1;", 2);
        items(STILL + "walk 1 ;", 2);
        items("  " + STILL + "   walk    1    ;     ", 2);
        items(STILL + " ".repeat(100) + "walk 1;", 2);
        items(STILL + "walk" + " ".repeat(100) + "1;", 2);
        items(STILL + "walk 1" + " ".repeat(100) + ";", 2);
        items(STILL + "walk 1;" + " ".repeat(113), 2);
        items(" ".repeat(100) + STILL, 1);
        fault(STILL + "wa lk 1;", STILL.length());
        fault(STILL + "tides 1 0;", STILL.length() + 8);
    }

    private static void blanksNeeded() {
        Due.sentence("needed only between two words, two numbers");
        items("shore2 2 2 2 2 2 2 2 2 2 2 2;soul0 1 0;walk1;caller0;call0;tides1;", 6);
        fault("shoresoul", 0);
        fault("shore soul", 6);
        fault(STILL + "walkwalk 1;", STILL.length());
        fault(STILL + "walk walk 1;", STILL.length() + 5);
        fault("shore2 2 2 2 2 2 2 2 2 2 2 22;", 27);
        fault("shore2 22 2 2 2 2 2 2 2 2 2;", 7);
        fault(STILL + "soul 0 10;", STILL.length() + 7);
    }

    private static void bytesThatBeginNone() {
        Due.sentence("a byte that begins none");
        for (int b = 0; b <= 127; b++) {
            boolean begins = b == ' ' || b == ';' || b >= '0' && b <= '9' || b >= 'a' && b <= 'z';
            String told = "" + (char) b;
            if (!begins) {
                fault(told + STILL, 0);
                fault(STILL + "walk 1" + told + ";", STILL.length() + 6);
                fault(STILL + "walk" + told + "1;", STILL.length() + 4);
                fault(STILL + told, STILL.length());
                fault(STILL + "tides 1" + told + "0;", STILL.length() + 7);
            }
        }
        items(" " + STILL, 1);
        items(STILL + "walk 1 ;", 2);
    }

    // ---- faults

    private static void wordsThatAreNone() {
        Due.sentence("a word that is none");
        for (String word : new String[] {"shore", "soul", "caller", "walk", "call", "tides"}) {
            String rest = word.equals("soul") ? " 0 1 0;" : " 0;";
            faultAt(STILL, word.substring(0, word.length() - 1));
            faultAt(STILL, word + "x");
            faultAt(STILL, "x" + word);
            faultAt(STILL, word.substring(1));
            fault(STILL + "b" + word.substring(1) + rest, STILL.length());
            fault(STILL + word.substring(0, 2) + "x" + word.substring(3) + rest, STILL.length());
            fault(STILL + word.substring(0, word.length() - 1) + "x" + rest, STILL.length());
        }
        fault("shorE 2", 0);
        faultAt("", "shor");
        faultAt("", "shores");
        faultAt("", "thore");
        faultAt("", "xyz");
        faultAt(STILL, "tide");
        faultAt(STILL, "temper");
    }

    private static void wordsOutOfPlace() {
        Due.sentence("the first TOKEN that can not stand there");
        faultAt("shore ", "soul");
        faultAt("shore ", "shore");
        faultAt("shore ", "xyz");
        faultAt("shore ", ";");
        faultAt(STILL, "5");
        faultAt(STILL, "05");
        faultAt(STILL + "soul ", "temper");
        faultAt(STILL + "soul ", ";");
        faultAt(STILL + "soul 0 ", ";");
        faultAt(STILL + "soul 0 1 ", ";");
        faultAt(STILL + "soul 0 1 ", "walk");
        faultAt(STILL + "caller ", "caller");
        faultAt(STILL + "walk ", ";");
        faultAt(STILL + "tides ", "tides");
        faultAt(SHELF + "call ", ";");
        faultAt(SHELF + "call ", "caller");
    }

    private static void sevenSouls() {
        Due.sentence("a 7th soul .. at its word");
        String six = "shore2 2 2 2 2 2 2 2 2 2 2 2;" + "soul0 1 0;".repeat(6);
        items(six, 7);
        items(six + "caller0;walk1;", 9);
        faultAt(six, "soul");
        faultAt(six + "caller 0;", "soul");
        fault(six + "soul 9 9 99;", six.length());
        fault(six + "souls", six.length());
        items(six.substring(0, six.length() - 10) + "soul 5 9 11;", 7);
    }

    private static void sevenCallers() {
        Due.sentence("a 7th caller at its word");
        String six = "shore2 2 2 2 2 2 2 2 2 2 2 2;" + "caller0;".repeat(6);
        items(six, 7);
        items(six + "soul0 1 0;walk1;call5;", 10);
        faultAt(six, "caller");
        faultAt(six + "soul 0 1 0;", "caller");
        fault(six + "caller 9;", six.length());
        faultAt(six + "soul 0 1 0;walk 1;call ", "6");
    }

    private static void numbersMissing() {
        Due.sentence("a number not as told");
        faultAt(STILL + "soul 0 1 ", ";");
        faultAt(STILL + "soul 5 ", ";");
        faultAt(STILL + "walk ", "walk");
        faultAt(STILL + "tides", ";");
        faultAt(STILL + "caller", ";");
        faultAt("shore 4 4 4 4 4 4 4 4 4 4 4 ", "5");
    }

    private static void endsTooEarly() {
        Due.sentence("the TEXT's length, if it ends too early");
        for (String text : new String[] {"shore", "shore ", "shore 2", "shore 2 2 2 2 2 2 2 2 2 2 2 ", STILL + "soul",
            STILL + "soul 0", STILL + "soul 0 1", STILL + "soul 0 1 0", STILL + "caller", STILL + "caller 5 ",
            STILL + "walk", STILL + "walk 2", STILL + "tides", STILL + "tides 99", SHELF + "call", SHELF + "call 1"}) {
            fault(text, text.length());
            fault(text + "   ", text.length() + 3);
        }
        items(STILL + "   ", 1);
    }

    private static void everyLength() {
        Due.sentence("the TEXT's length, if it ends too early: every length of a TEXT");
        String[] tokens = ("shore 2 2 2 2 2 2 2 2 2 2 2 2 ; "
            + "soul 0 5 0 ; walk 1 ; caller 3 ; call 0 ; tides 7 ; soul 1 2 11 ;").split(" ");
        String told = "";
        int ended = 0;
        for (String token : tokens) {
            for (int part = 1; part < token.length(); part++) {
                String cut = token.substring(0, part);
                // of what is cut off here call and 1 alone are TOKENS that can stand there
                boolean stands = cut.equals("call") || cut.equals("1");
                fault(told + cut, stands ? told.length() + part : told.length());
            }
            told += token;
            if (token.equals(";")) {
                ended++;
                items(told, ended);
                items(told + " ", ended);
            } else {
                fault(told, told.length());
            }
            told += " ";
        }
    }

    private static void theFirstFault() {
        Due.sentence("the place of the first byte of the first TOKEN that can not stand there");
        fault("shore 5 5 5", 6);
        fault(STILL + "soul 6 0 12;caller 6;", STILL.length() + 5);
        fault(STILL + "soul 5 0 12;caller 6;", STILL.length() + 7);
        fault(STILL + "soul 5 9 12;caller 6;", STILL.length() + 9);
        fault(STILL + "soul 5 9 11;caller 6;", STILL.length() + 19);
        fault(STILL + "walk 1 1;walk 3;", STILL.length() + 7);
        fault(STILL + "walk 1;walk 3;x", STILL.length() + 12);
        fault(STILL + "call 0 ?", STILL.length() + 5);
    }

    private static void emptyText() {
        Due.sentence("the TEXT's length (an empty one, too)");
        fault("", 0);
        fault(" ", 1);
        SoulShore x = new SoulShore();
        x.type(65);
        x.clear();
        Due.asks(x, "read()", SoulShore::read, -10);
    }

    // ---- what is read

    private static SoulShore rich() {
        SoulShore x = Shores.callers(Shores.shelf(0, 5, 4, 9, 3, 3), 0, 1, 4);
        x.current(3, 2);
        x.soul(1, 7, 3);
        x.seen(1, 5);
        x.note(0, 5, 1, 5);
        x.mark(2, 5, 10);
        x.gulls(3);
        x.image(1);
        x.calls(0);
        x.tides(5);
        x.soul(9, 9, 9);
        x.from(0);
        return x;
    }

    private static void takesThePlaceOfAll() {
        Due.sentence("A SHORE that is read takes the place of all .. (SEEN ones, NOTES, MARKS none; nothing to undo)");
        String text = "shore 0 1 2 3 4 0 1 2 3 4 0 1;soul 5 9 0;soul 1 2 3;caller 2;walk 2;walk 0;call 0;";
        SoulShore plain = new SoulShore();
        Due.type(plain, text);
        SoulShore x = rich();
        Due.type(x, text);
        plain.gulls(0);
        x.gulls(0);
        Due.is("read()", plain.read(), 7);
        Due.is("read()", x.read(), 7);
        Shores.counts(x, 2, 1, 2, 1, 0, 0, 0, 0, 0, 0, text.length());
        Due.no(x, "undo()", SoulShore::undo);
        x.gulls(4);
        plain.gulls(4);
        Due.is("digest() of a shore that was rich, and of a new one", x.digest(), plain.digest());
        Due.is("read() again", x.read(), 7);
        Due.is("digest() again", x.digest(), plain.digest());
        items(STILL, 1);
        Shores.counts(items(STILL, 1), 0, 0, 0, 0, 0, 0, 0, 0, 0, 0, STILL.length());
    }

    private static void leavesTheRest() {
        Due.sentence("A SHORE that is read takes the place of all but IMAGES, THE TEXT, THE FRACTION, STATUS");
        SoulShore x = rich();
        SoulShore plain = rich();
        plain.from(1);
        Due.is("read()", Due.told(x, STILL), 1);
        Shores.fraction(x, 63, 10);
        Due.is("status(0)", x.status(0), 1);
        Due.is("status(1)", x.status(1), 1);
        Due.is("status(2)", x.status(2), 0);
        Due.is("clear()", x.clear(), STILL.length());
        Due.no(x, "from(0)", y -> y.from(0));
        Due.is("from(1)", x.from(1), 1);
        Due.is("digest() of the image", x.digest(), plain.digest());
    }

    private static void faultLeavesAll() {
        Due.sentence("-10 less the FAULT: all stays");
        String[] texts = {"", "shore", "shore 4 4 4 4 4 4 4 4 4 4 4 4 4;", STILL + "soul 0 9 9;caller 6;",
            STILL + "soul 5 9 1;soul 4 8 1;soul 3 7 2;soul 2 6 2;caller 5;walk 2;walk 2;call 0;call 0;",
            STILL + "soul 5 9 1;tides 99;tides"};
        for (String text : texts) {
            SoulShore x = rich();
            SoulShore plain = rich();
            Due.type(x, text);
            Due.type(plain, text);
            Due.is("read() of " + text, x.read() <= -10 ? 1 : 0, 1);
            Due.is("digest()", x.digest(), plain.digest());
            Due.is("clear()", x.clear(), plain.clear());
            Due.is("undo()", x.undo(), plain.undo());
            Due.is("undo()", x.undo(), plain.undo());
            Due.is("undo()", x.undo(), plain.undo());
            Due.is("digest()", x.digest(), plain.digest());
            Due.is("from(1)", x.from(1), plain.from(1));
            Due.is("digest()", x.digest(), plain.digest());
            for (int what = 0; what <= 2; what++) {
                Due.is("status(" + what + ")", x.status(what), plain.status(what));
            }
        }
    }
}
