/** What "Terms" says of bounds, sentence by sentence, on both sides of each. The TEXT is TextTest's. */
public final class TermsTest {
    private static final int LEAST = Shores.LEAST, MOST = Shores.MOST;

    public static void main(String[] args) {
        cells();
        currents();
        tideNumbers();
        tidesEndAt999();
        soulNumbers();
        weights();
        adriftAtFirst();
        dryAtFirst();
        dryEndsAt99();
        dryOnTheShelfAlone();
        callerNumbers();
        lookedFor();
        comberAtFirst();
        weighsTemper();
        weighsSermon();
        weighsSneeze();
        weighsWig();
        weighsSoft();
        weighsWeedy();
        weighsByTides();
        feelsPlain();
        feelsFootman();
        feelsBlank();
        feelsJudge();
        feelsRich();
        feelsChild();
        feelsTheEnds();
        driftEnds();
        walkEnds();
        walkFindsThere();
        walkAheadOfItsTide();
        callerHoldsNone();
        callerTakesFromTheShelf();
        callerTakesTheLeast();
        handsBackDry();
        beyond999();
        walkBeyond999();
        yearsBeyond999();
        wherenessNone();
        takesNone();
        walkOfNone();
        walkRising();
        orderOfWhoCanTakeNone();
        orderOfNobody();
        orderRising();
        swapsWithOneWhoHoldsNone();
        swapsOfOwnNotHeld();
        seenAsItIsWhenAsked();
        seenOfAdrift();
        tellNone();
        lookNone();
        lookLeast();
        askNone();
        askLeast();
        claimAlike();
        claimCut();
        claimAsFarAsNine();
        gullsEnds();
        yearsNobody();
        yearsCut();
        yearsEnds();
        undoEight();
        undoNone();
        undoKept();
        undoTogether();
        imagesTwo();
        imagesKeepAll();
        imagesKeepWhatMayBeUndone();
        statusCounts();
        statusOfNoRefusal();
        fractionAtFirst();
        fractionLowest();
        badAheadOfNo();
        badAheadOfFull();
        Due.end();
    }

    // ---- what a shore is

    private static void cells() {
        Due.sentence("CELLS 0 .. 11");
        SoulShore x = new SoulShore();
        for (int c : new int[] {LEAST, -1, 12, MOST}) {
            Due.bad10(x, "current(" + c + ", 0)", y -> y.current(c, 0));
            Due.bad(x, "soul(0, 1, " + c + ")", y -> y.soul(0, 1, c));
            Due.bad(x, "comes(" + c + ", 0)", y -> y.comes(c, 0));
            Due.bad(x, "seen(0, " + c + ")", y -> y.seen(0, c));
        }
        for (int c = 0; c <= 11; c++) {
            Due.is("comes(" + c + ", 0)", x.comes(c, 0), 1 << c);
            Due.is("current(" + c + ", 1)", x.current(c, 1), 0);
        }
        Due.is("soul(0, 1, 0)", x.soul(0, 1, 0), 0);
        Due.is("soul(0, 1, 11)", x.soul(0, 1, 11), 1);
        Due.is("its cell", x.of(0, 2), 0);
        Due.is("its cell", x.of(1, 2), 11);
        Due.is("seen(0, 0)", x.seen(0, 0), 1);
        Due.is("seen(0, 11)", x.seen(0, 11), 2);
    }

    private static void currents() {
        Due.sentence("each with a CURRENT (-2 .. 2; 0 at first)");
        for (int c = 0; c <= 11; c++) {
            int cell = c;
            SoulShore x = new SoulShore();
            Due.is("current at first", x.current(c, -2), 0);
            Due.is("current", x.current(c, 2), -2);
            Due.bad10(x, "current(" + c + ", 3)", y -> y.current(cell, 3));
            Due.bad10(x, "current(" + c + ", -3)", y -> y.current(cell, -3));
            Due.bad10(x, "current(" + c + ", MOST)", y -> y.current(cell, MOST));
            Due.bad10(x, "current(" + c + ", LEAST)", y -> y.current(cell, LEAST));
            Due.is("a refused one tells none", x.current(c, 0), 2);
            Due.is("the others", x.comes((c + 5) % 12, 1), 1 << (c + 5) % 12);
        }
    }

    private static void tideNumbers() {
        Due.sentence("TIDES have numbers, 0 at first");
        SoulShore x = new SoulShore();
        Due.is("count(2)", x.count(2), 0);
        x.tides(1);
        Due.is("count(2)", x.count(2), 1);
        x.shore();
        Due.is("count(2) behind shore()", x.count(2), 0);
    }

    private static void tidesEndAt999() {
        Due.sentence("TIDES .. (999 at most)");
        int[][] due = {{998, 1, 999}, {998, 2, 999}, {999, 1, 999}, {999, 60, 999},
            {938, 60, 998}, {939, 60, 999}, {940, 60, 999}};
        for (int[] d : due) {
            SoulShore x = Shores.read(Shores.STILL + "soul 0 1 5;soul 0 2 0;walk 1;");
            Shores.pass(x, d[0] - 1);
            Due.is("the TIDE", x.count(2), d[0]);
            Due.is("tides(" + d[1] + ") at " + d[0], x.tides(d[1]), 1);
            Due.is("the TIDE behind tides(" + d[1] + ") at " + d[0], x.count(2), d[2]);
        }
        SoulShore x = Shores.pass(new SoulShore(), 998);
        Due.is("walks(0) at 998", x.walks(0), 0);
        Due.is("the TIDE", x.count(2), 999);
        Due.no(x, "walks(0) at 999", y -> y.walks(0));
        Due.is("undo()", x.undo(), 998);
    }

    private static void soulNumbers() {
        Due.sentence("SOULS 0 .. 5, as they come");
        SoulShore x = Shores.callers(new SoulShore(), 0);
        for (int s = 0; s <= 5; s++) {
            int next = s;
            Due.bad(x, "of(" + s + ", 0) ahead of it", y -> y.of(next, 0));
            Due.bad(x, "where(" + s + ", 0) ahead of it", y -> y.where(next, 0));
            Due.bad(x, "feels(" + s + ", 0) ahead of it", y -> y.feels(next, 0));
            Due.bad(x, "note(" + s + ") ahead of it", y -> y.note(next, 1, 0, 1));
            Due.bad(x, "is(" + s + ") ahead of it", y -> y.is(next));
            Due.bad(x, "look(" + s + ") ahead of it", y -> y.look(next));
            Due.bad10(x, "walk(1 << " + s + ", -2) ahead of it", y -> y.walk(1 << next, -2));
            Due.is("soul", x.soul(s, 1 + s, 2 * s), s);
            Due.is("count(0)", x.count(0), s + 1);
            Due.is("of(" + s + ", 0)", x.of(s, 0), s);
            Due.is("where(" + s + ", 0)", x.where(s, 0), 2 * s);
            Due.is("is(" + s + ")", x.is(s), 63);
            Due.is("walk(1 << " + s + ", -2)", x.walk(1 << s, -2), s == 0 ? 1 : 2 * s);
        }
        Due.full(x, "a 7th", y -> y.soul(0, 1, 0));
        Due.bad(x, "of(6, 0)", y -> y.of(6, 0));
        Due.bad10(x, "walk(64, -2)", y -> y.walk(64, -2));
    }

    private static void weights() {
        Due.sentence("a WEIGHT (1 .. 9)");
        SoulShore x = new SoulShore();
        for (int w : new int[] {LEAST, 0, 10, MOST}) {
            Due.bad(x, "soul(0, " + w + ", 0)", y -> y.soul(0, w, 0));
        }
        Due.is("soul(0, 1, 0)", x.soul(0, 1, 0), 0);
        Due.is("soul(0, 9, 0)", x.soul(0, 9, 0), 1);
        Due.is("of(0, 1)", x.of(0, 1), 1);
        Due.is("of(1, 1)", x.of(1, 1), 9);
        for (int w : new int[] {LEAST, 0, 10, MOST}) {
            Due.bad(x, "note(0, " + w + ", 0, 1)", y -> y.note(0, w, 0, 1));
        }
        Due.is("note(0, 1, 0, 1)", x.note(0, 1, 0, 1), 1);
        Due.is("note(0, 9, 0, 1)", x.note(0, 9, 0, 1), 2);
    }

    private static void adriftAtFirst() {
        Due.sentence("each is ADRIFT there at first");
        SoulShore x = new SoulShore();
        x.soul(0, 5, 0);
        Due.is("also where the COMBER is", x.of(0, 2), 0);
        Due.is("ADRIFT", x.count(3), 1);
        Due.is("on THE SHELF", x.count(4), 0);
        Due.is("who HOLDS it", x.of(0, 3), -1);
        x.tides(1);
        Due.is("found by a WALK alone", x.count(3), 1);
        Due.is("walks(0)", x.walks(0), 1);
        Due.is("ADRIFT", x.count(3), 0);
        Due.is("on THE SHELF", x.count(4), 1);
    }

    private static void dryAtFirst() {
        Due.sentence("DRY (.. 0 at first)");
        SoulShore x = Shores.pass(Shores.shelf(4, 9), 7);
        Due.is("of(0, 4)", x.of(0, 4), 8);
        x.soul(4, 9, 3);
        Due.is("of(1, 4)", x.of(1, 4), 0);
        Due.is("of(1, 5)", x.of(1, 5), 5);
        x.shore();
        x.soul(4, 9, 3);
        Due.is("of(0, 4) on a shore anew", x.of(0, 4), 0);
    }

    private static void dryEndsAt99() {
        Due.sentence("DRY of those on THE SHELF is 1 more (99 at most)");
        SoulShore x = Shores.pass(Shores.shelf(0, 1), 97);
        Due.is("of(0, 4)", x.of(0, 4), 98);
        x.tides(1);
        Due.is("of(0, 4)", x.of(0, 4), 99);
        x.tides(1);
        Due.is("of(0, 4)", x.of(0, 4), 99);
        x.walks(1);
        Due.is("of(0, 4) behind a WALK", x.of(0, 4), 99);
        Due.is("the TIDE", x.count(2), 101);
        x.undo();
        x.undo();
        x.undo();
        Due.is("of(0, 4) undone", x.of(0, 4), 98);
        x = Shores.read(Shores.STILL + "soul 0 1 0;walk 1;tides 97;");
        Due.is("of(0, 4) of a TEXT", x.of(0, 4), 98);
        x = Shores.read(Shores.STILL + "soul 0 1 0;walk 1;tides 99;");
        Due.is("of(0, 4) of a TEXT", x.of(0, 4), 99);
    }

    private static void dryOnTheShelfAlone() {
        Due.sentence("how many TIDES on THE SHELF");
        SoulShore x = Shores.callers(Shores.shelf(0, 5, 0, 9), 0);
        x.soul(0, 3, 7);
        Due.is("calls(0)", x.calls(0), 0);
        x.tides(3);
        Due.is("HELD", x.of(0, 4), 1);
        Due.is("on THE SHELF", x.of(1, 4), 4);
        Due.is("ADRIFT", x.of(2, 4), 0);
        x.returns(0);
        x.tides(2);
        Due.is("on THE SHELF again", x.of(0, 4), 3);
    }

    private static void callerNumbers() {
        Due.sentence("CALLERS 0 .. 5, as they come");
        SoulShore x = Shores.read(Shores.STILL + "soul 0 5 0;walk 1;");
        for (int i = 0; i <= 5; i++) {
            int next = i;
            Due.bad(x, "about(" + i + ", 0) ahead of him", y -> y.about(next, 0));
            Due.bad(x, "feels(0, " + i + ") ahead of him", y -> y.feels(0, next));
            Due.bad(x, "calls(" + i + ") ahead of him", y -> y.calls(next));
            Due.bad(x, "returns(" + i + ") ahead of him", y -> y.returns(next));
            Due.bad(x, "mark(" + i + ") ahead of him", y -> y.mark(next, 1, 1));
            Due.bad(x, "kinds(" + i + ") ahead of him", y -> y.kinds(next));
            Due.bad(x, "ask(" + i + ") ahead of him", y -> y.ask(next));
            Due.is("caller", x.caller(i), i);
            Due.is("count(1)", x.count(1), i + 1);
            Due.is("about(" + i + ", 0)", x.about(i, 0), i);
            Due.is("kinds(" + i + ")", x.kinds(i), 63);
            Due.is("calls(" + i + ")", x.calls(i), 0);
            Due.is("of(0, 3)", x.of(0, 3), i);
            Due.is("returns(" + i + ")", x.returns(i), 0);
        }
        Due.full(x, "a 7th", y -> y.caller(0));
        Due.bad(x, "about(6, 0)", y -> y.about(6, 0));
        Due.bad(x, "calls(6)", y -> y.calls(6));
    }

    private static void lookedFor() {
        Due.sentence("the SOUL of the same number is one's OWN (there or not), "
            + "its WEIGHT what one looks for (none there: 5)");
        SoulShore x = Shores.callers(new SoulShore(), 0, 1, 2, 3, 4, 5);
        for (int n = 0; n <= 5; n++) {
            Due.is("about(" + n + ", 2) ahead of it", x.about(n, 2), 5);
            x.soul(3, n == 0 ? 1 : 4 + n, 0);
            Due.is("about(" + n + ", 2) behind it", x.about(n, 2), n == 0 ? 1 : 4 + n);
        }
        x.walks(0);
        x.tides(5);
        Due.is("its WEIGHT, not what it weighs", x.about(5, 2), 9);
        x.calls(0);
        Due.is("also while it is HELD", x.about(x.about(0, 1), 2), x.of(x.about(0, 1), 1));
    }

    private static void comberAtFirst() {
        Due.sentence("THE COMBER: a CELL (0 at first)");
        SoulShore x = new SoulShore();
        Due.is("count(5)", x.count(5), 0);
        x.walks(1);
        Due.is("count(5)", x.count(5), 1);
        x.shore();
        Due.is("count(5) behind shore()", x.count(5), 0);
    }

    // ---- what a soul weighs

    /** By notes: of all weights this one alone can be of the kind. */
    private static void weighs(int kind, int w, int d, int due) {
        SoulShore x = new SoulShore();
        x.soul(0, 5, 0);
        for (int v = 0; v <= 30; v++) {
            x.note(0, w, d, v);
            Due.is("kind " + kind + " of weight " + w + ", dry by " + d + ", weighs " + v,
                x.is(0) >> kind & 1, v == due ? 1 : 0);
            x.forget(1);
        }
    }

    private static void weighsTemper() {
        Due.sentence("0 TEMPER: w");
        for (int d : new int[] {0, 2, 3, 4, 5, 99}) {
            weighs(0, 1, d, 1);
            weighs(0, 9, d, 9);
        }
    }

    private static void weighsSermon() {
        Due.sentence("1 SERMON (under TEMPER): 2 more than TEMPER");
        for (int d : new int[] {0, 2, 3, 4, 5, 99}) {
            weighs(1, 1, d, 3);
            weighs(1, 9, d, 11);
        }
    }

    private static void weighsSneeze() {
        Due.sentence("2 SNEEZE (under TEMPER): half (cut up) of TEMPER");
        int[] due = {1, 1, 2, 2, 3, 3, 4, 4, 5};
        for (int w = 1; w <= 9; w++) {
            weighs(2, w, 0, due[w - 1]);
            weighs(2, w, 5, due[w - 1]);
            weighs(2, w, 99, due[w - 1]);
        }
    }

    private static void weighsWig() {
        Due.sentence("3 WIG (under SERMON): as SERMON, but twice that, if d is 3 or more");
        for (int d : new int[] {0, 1, 2}) {
            weighs(3, 1, d, 3);
            weighs(3, 9, d, 11);
        }
        for (int d : new int[] {3, 4, 98, 99}) {
            weighs(3, 1, d, 6);
            weighs(3, 9, d, 22);
        }
    }

    private static void weighsSoft() {
        Due.sentence("4 SOFT (under SNEEZE): as SNEEZE, but 0, if d is 5 or more");
        for (int d : new int[] {0, 3, 4}) {
            weighs(4, 1, d, 1);
            weighs(4, 8, d, 4);
            weighs(4, 9, d, 5);
        }
        for (int d : new int[] {5, 6, 99}) {
            weighs(4, 1, d, 0);
            weighs(4, 9, d, 0);
        }
    }

    private static void weighsWeedy() {
        Due.sentence("5 WEEDY (under TEMPER): TEMPER, and 3, less d, but no less than TEMPER");
        int[][] due = {{0, 3}, {1, 2}, {2, 1}, {3, 0}, {4, 0}, {5, 0}, {98, 0}, {99, 0}};
        for (int[] d : due) {
            weighs(5, 1, d[0], 1 + d[1]);
            weighs(5, 9, d[0], 9 + d[1]);
        }
    }

    private static void weighsByTides() {
        Due.sentence("KINDS of SOULS .. say what one weighs with a WEIGHT of w, DRY by d");
        SoulShore x = new SoulShore();
        for (int kind = 0; kind <= 5; kind++) {
            x.soul(kind, 9, 0);
        }
        int[][] due = {{9, 11, 5, 11, 5, 12}, {9, 11, 5, 11, 5, 11}, {9, 11, 5, 11, 5, 10},
            {9, 11, 5, 22, 5, 9}, {9, 11, 5, 22, 5, 9}, {9, 11, 5, 22, 0, 9}};
        for (int d = 0; d <= 5; d++) {
            for (int kind = 0; kind <= 5; kind++) {
                Due.is("of(" + kind + ", 5), dry by " + d, x.of(kind, 5), due[d][kind]);
            }
            x.walks(0);
        }
        Shores.pass(x, 200);
        for (int kind = 0; kind <= 5; kind++) {
            Due.is("of(" + kind + ", 5), dry by 99", x.of(kind, 5), due[5][kind]);
        }
    }

    // ---- how heavy it feels

    /** By marks: of all that might be felt this alone can be of the kind. */
    private static void feels(int kind, int weighs, int due) {
        SoulShore x = Shores.callers(new SoulShore(), 0);
        for (int v = 0; v <= 60; v++) {
            x.mark(0, weighs, v);
            Due.is("to kind " + kind + " " + weighs + " feels " + v, x.kinds(0) >> kind & 1, v == due ? 1 : 0);
            x.forget(2);
        }
    }

    private static void feelsPlain() {
        Due.sentence("0 PLAIN: x");
        for (int w = 0; w <= 30; w++) {
            feels(0, w, w);
        }
    }

    private static void feelsFootman() {
        Due.sentence("1 FOOTMAN (under PLAIN): the even number that PLAIN is, or that is one less");
        int[][] due = {{0, 0}, {1, 0}, {2, 2}, {3, 2}, {4, 4}, {21, 20}, {22, 22}, {29, 28}, {30, 30}};
        for (int[] d : due) {
            feels(1, d[0], d[1]);
        }
    }

    private static void feelsBlank() {
        Due.sentence("2 BLANK (under PLAIN): PLAIN, 5 at most");
        int[][] due = {{0, 0}, {1, 1}, {4, 4}, {5, 5}, {6, 5}, {7, 5}, {30, 5}};
        for (int[] d : due) {
            feels(2, d[0], d[1]);
        }
    }

    private static void feelsJudge() {
        Due.sentence("3 JUDGE (under FOOTMAN): FOOTMAN and 1");
        int[][] due = {{0, 1}, {1, 1}, {2, 3}, {3, 3}, {29, 29}, {30, 31}};
        for (int[] d : due) {
            feels(3, d[0], d[1]);
        }
    }

    private static void feelsRich() {
        Due.sentence("4 RICH (under PLAIN): twice PLAIN");
        int[][] due = {{0, 0}, {1, 2}, {5, 10}, {22, 44}, {29, 58}, {30, 60}};
        for (int[] d : due) {
            feels(4, d[0], d[1]);
        }
    }

    private static void feelsChild() {
        Due.sentence("5 CHILD (under BLANK): 1 less than BLANK, 0 at least");
        int[][] due = {{0, 0}, {1, 0}, {2, 1}, {4, 3}, {5, 4}, {6, 4}, {30, 4}};
        for (int[] d : due) {
            feels(5, d[0], d[1]);
        }
    }

    private static void feelsTheEnds() {
        Due.sentence("KINDS of CALLERS .. say how heavy what weighs x (0 .. 30) feels");
        SoulShore x = Shores.callers(Shores.shelf(4, 9, 3, 9), 0, 1, 2, 3, 4, 5);
        x.tides(4);
        int[][] due = {{0, 0, 0, 1, 0, 0}, {22, 22, 5, 23, 44, 4}};
        for (int s = 0; s <= 1; s++) {
            Due.is("weighs", x.of(s, 5), 22 * s);
            for (int i = 0; i <= 5; i++) {
                Due.is("feels(" + s + ", " + i + ")", x.feels(s, i), due[s][i]);
            }
        }
    }

    // ---- tides, walks, callings, handings back

    private static void driftEnds() {
        Due.sentence("each SOUL that is ADRIFT goes by the CURRENT of its CELL (not beyond 0, 11)");
        int[][] due = {{0, -2, 0}, {0, -1, 0}, {0, 0, 0}, {1, -2, 0}, {1, -1, 0}, {2, -2, 0}, {2, -1, 1}, {3, -2, 1},
            {11, 2, 11}, {11, 1, 11}, {11, 0, 11}, {10, 2, 11}, {10, 1, 11}, {9, 2, 11}, {9, 1, 10}, {8, 2, 10}};
        for (int[] d : due) {
            SoulShore x = new SoulShore();
            x.current(d[0], d[1]);
            x.soul(0, 1, d[0]);
            String from = " of cell " + d[0] + " by " + d[1];
            Due.is("where(0, 1)" + from, x.where(0, 1), d[2]);
            Due.is("comes()" + from, x.comes(d[2], 1), 1 << d[0] | 1 << d[2]);
            x.tides(1);
            Due.is("of(0, 2)" + from, x.of(0, 2), d[2]);
        }
    }

    private static void walkEnds() {
        Due.sentence("THE COMBER goes so (not beyond 0, 11)");
        SoulShore x = new SoulShore();
        x.walks(-1);
        Due.is("walks(-1) at 0", x.count(5), 0);
        x.walks(1);
        Due.is("walks(1) at 0", x.count(5), 1);
        x.walks(-1);
        Due.is("walks(-1) at 1", x.count(5), 0);
        for (int c = 1; c <= 11; c++) {
            x.walks(1);
            Due.is("walks(1)", x.count(5), c);
        }
        x.walks(1);
        Due.is("walks(1) at 11", x.count(5), 11);
        x.walks(0);
        Due.is("walks(0) at 11", x.count(5), 11);
        x.walks(-1);
        Due.is("walks(-1) at 11", x.count(5), 10);
        x.walks(1);
        x.soul(0, 1, 11);
        Due.is("what is at 11 is found by walks(1)", x.walks(1), 1);
        for (int n = 0; n < 11; n++) {
            x.walks(-1);
        }
        x.soul(0, 1, 0);
        Due.is("what is at 0 is found by walks(-1)", x.walks(-1), 1);
    }

    private static void walkFindsThere() {
        Due.sentence("all that are ADRIFT there come to THE SHELF");
        SoulShore x = Shores.read(Shores.STILL + "soul 0 1 0;soul 0 2 1;soul 0 3 2;soul 0 4 1;");
        Due.is("walks(1)", x.walks(1), 2);
        Due.is("the CELL that he left", x.of(0, 2), 0);
        Due.is("the next one", x.of(2, 2), 2);
        Due.is("who is there", x.of(1, 2), -1);
        Due.is("who is there", x.of(3, 2), -1);
        Due.is("walks(0) finds them no more", x.walks(0), 0);
        x = Shores.callers(Shores.shelf(0, 5), 0);
        x.calls(0);
        Due.is("nor what is HELD", x.walks(0), 0);
        Due.is("who HOLDS it", x.of(0, 3), 0);
    }

    private static void walkAheadOfItsTide() {
        Due.sentence("come to THE SHELF (DRY 0); then a TIDE goes by");
        SoulShore x = Shores.read("shore 2 3 1 2 2 2 2 2 2 2 2 2;soul 0 1 1;soul 0 2 2;");
        Due.is("walks(1)", x.walks(1), 1);
        Due.is("found ahead of the TIDE", x.of(0, 2), -1);
        Due.is("dry by that TIDE", x.of(0, 4), 1);
        Due.is("what comes by that TIDE is ADRIFT", x.of(1, 2), 1);
        Due.is("the TIDE", x.count(2), 1);
        Due.is("walks(0)", x.walks(0), 1);
        Due.is("dry", x.of(0, 4), 2);
        Due.is("dry", x.of(1, 4), 1);
    }

    private static void callerHoldsNone() {
        Due.sentence("a CALLER who HOLDS none TAKES");
        SoulShore x = Shores.callers(Shores.shelf(0, 5, 0, 5), 0);
        Due.is("calls(0)", x.calls(0), 0);
        Due.no(x, "calls(0)", y -> y.calls(0));
        Due.is("returns(0)", x.returns(0), 0);
        Due.is("calls(0)", x.calls(0), 0);
    }

    private static void callerTakesFromTheShelf() {
        Due.sentence("the SOUL on THE SHELF that feels nearest to what he looks for");
        SoulShore x = Shores.callers(Shores.shelf(0, 5, 0, 8, 0, 9), 0, 0);
        x.soul(0, 8, 11);
        Due.is("calls(0)", x.calls(0), 0);
        Due.is("1 looks for 8", x.calls(1), 1);
        x.returns(0);
        x.returns(1);
        x.caller(0);
        x.caller(0);
        Due.is("3 looks for 8, his own is ADRIFT", x.calls(3), 1);
        Due.is("1 looks for 8, that is HELD", x.calls(1), 2);
        Due.is("2 looks for 9, that is HELD", x.calls(2), 0);
        Due.no(x, "0 finds none", y -> y.calls(0));
    }

    private static void callerTakesTheLeast() {
        Due.sentence("of like ones the least");
        // 5 is looked for by caller 4: 4 and 6 are as far
        SoulShore x = Shores.callers(Shores.shelf(0, 9, 0, 6, 0, 4, 0, 6), 0, 0, 0, 0, 0);
        Due.is("calls(4)", x.calls(4), 1);
        Due.is("calls(3) looks for 6", x.calls(3), 3);
        x.returns(4);
        x.calls(2);
        x = Shores.callers(Shores.shelf(0, 9, 0, 4, 0, 6), 0, 0, 0, 0);
        Due.is("calls(3)", x.calls(3), 1);
        x = Shores.callers(Shores.shelf(0, 5, 0, 5), 0, 0);
        Due.is("calls(1), both feel alike", x.calls(1), 0);
        x = Shores.callers(Shores.shelf(0, 9, 0, 6, 0, 4, 0, 5), 0, 0, 0, 0, 0);
        Due.is("nearer, though not the least", x.calls(4), 3);
    }

    private static void handsBackDry() {
        Due.sentence("what he HOLDS comes to THE SHELF (DRY as it was)");
        SoulShore x = Shores.callers(Shores.shelf(4, 9), 0);
        x.tides(3);
        x.calls(0);
        x.tides(60);
        Due.is("returns(0)", x.returns(0), 0);
        Due.is("dry", x.of(0, 4), 4);
        Due.is("weighs", x.of(0, 5), 5);
        x.tides(1);
        Due.is("dry", x.of(0, 4), 5);
        Due.is("weighs", x.of(0, 5), 0);
    }

    // ---- what is asked

    private static SoulShore at999() {
        SoulShore x = Shores.pass(new SoulShore(), 998);
        x.walks(0);
        x.current(5, 2);
        x.current(7, -1);
        x.current(6, 1);
        x.soul(0, 1, 5);
        return x;
    }

    private static void beyond999() {
        Due.sentence("Nothing is changed by these; TIDES go beyond 999 in them");
        SoulShore x = at999();
        Due.is("the TIDE", x.count(2), 999);
        Due.asks(x, "where(0, 1)", y -> y.where(0, 1), 7);
        Due.asks(x, "where(0, 2)", y -> y.where(0, 2), 6);
        Due.asks(x, "where(0, 60)", y -> y.where(0, 60), 6);
        Due.asks(x, "comes(6, 2)", y -> y.comes(6, 2), 1 << 5 | 1 << 6);
        x.seen(2, 6);
        Due.asks(x, "which()", SoulShore::which, 1);
        x.seen(2, 5);
        Due.asks(x, "which()", SoulShore::which, 0);
        x.forget(0);
        Due.asks(x, "tell()", SoulShore::tell, 0);
        Due.is("tides(1)", x.tides(1), 1);
        Due.is("none went by", x.of(0, 2), 5);
    }

    private static void walkBeyond999() {
        Due.sentence("TIDES go beyond 999 in them: WALK");
        SoulShore x = at999();
        // it is at 5, 7, 6, 7, 6, ..: he comes to 6 by the sixth step, it is at 7 then
        Due.asks(x, "walk(1, -2)", y -> y.walk(1, -2), 7);
        Due.no(x, "walks(1)", y -> y.walks(1));
    }

    private static void yearsBeyond999() {
        Due.sentence("TIDES go beyond 999 in them: YEARS");
        SoulShore first = new SoulShore();
        SoulShore last = Shores.pass(new SoulShore(), 999);
        for (int n = 0; n < 6; n++) {
            for (SoulShore x : new SoulShore[] {first, last}) {
                x.soul(3 + n % 3, 9 - n, n % 2);
                x.caller(n);
            }
        }
        int most = 0;
        for (int seed = 0; seed < 40; seed++) {
            int got = last.years(seed, 60);
            Due.is("years(" + seed + ", 60) at 999", got, first.years(seed, 60));
            most = Math.max(most, got);
        }
        Due.is("some have their own", most > 0 ? 1 : 0, 1);
        Due.is("the TIDE", last.count(2), 999);
    }

    private static void wherenessNone() {
        Due.sentence("Where a SOUL that is ADRIFT is behind m TIDES; none: it is not");
        SoulShore x = new SoulShore();
        x.soul(0, 5, 0);
        Due.is("where(0, 0), ADRIFT", x.where(0, 0), 0);
        Due.is("of(0, 2), ADRIFT", x.of(0, 2), 0);
        x.walks(0);
        Due.asks(x, "where(0, 0), on THE SHELF", y -> y.where(0, 0), -1);
        Due.asks(x, "where(0, 60), on THE SHELF", y -> y.where(0, 60), -1);
        Due.asks(x, "of(0, 2), on THE SHELF", y -> y.of(0, 2), -1);
        x.caller(0);
        x.calls(0);
        Due.asks(x, "where(0, 0), HELD", y -> y.where(0, 0), -1);
        Due.asks(x, "of(0, 2), HELD", y -> y.of(0, 2), -1);
        Due.bad(x, "where(0, 61), HELD", y -> y.where(0, 61));
        Due.bad(x, "where(0, -1), HELD", y -> y.where(0, -1));
    }

    private static void takesNone() {
        Due.sentence("which SOUL a CALLER would TAKE now; none");
        SoulShore x = Shores.callers(new SoulShore(), 0, 0);
        Due.asks(x, "about(0, 3) without a SOUL", y -> y.about(0, 3), -1);
        x.soul(0, 5, 0);
        Due.asks(x, "about(0, 3), it is ADRIFT", y -> y.about(0, 3), -1);
        x.walks(0);
        Due.asks(x, "about(0, 3), it is on THE SHELF", y -> y.about(0, 3), 0);
        x.calls(1);
        Due.asks(x, "about(0, 3), it is HELD", y -> y.about(0, 3), -1);
        x.soul(0, 5, 0);
        x.walks(0);
        Due.asks(x, "about(0, 3)", y -> y.about(0, 3), 1);
        Due.asks(x, "about(1, 3), he HOLDS one", y -> y.about(1, 3), -1);
        x.returns(1);
        Due.asks(x, "about(1, 3)", y -> y.about(1, 3), 0);
    }

    private static void walkOfNone() {
        Due.sentence("the fewest WALKS behind which all these are not ADRIFT any more");
        SoulShore x = Shores.callers(Shores.shelf(0, 5, 0, 5), 0);
        x.calls(0);
        x.soul(0, 5, 0);
        x.soul(0, 5, 2);
        Due.asks(x, "walk(0, -2)", y -> y.walk(0, -2), 0);
        Due.asks(x, "walk(0, 0)", y -> y.walk(0, 0), -5);
        Due.asks(x, "walk(3, -2), on THE SHELF and HELD", y -> y.walk(3, -2), 0);
        Due.asks(x, "walk(3, 0)", y -> y.walk(3, 0), -5);
        Due.asks(x, "walk(4, -2), where he is", y -> y.walk(4, -2), 1);
        Due.asks(x, "walk(4, 0)", y -> y.walk(4, 0), 0);
        Due.asks(x, "walk(4, 1)", y -> y.walk(4, 1), -5);
        Due.asks(x, "walk(15, -2)", y -> y.walk(15, -2), 3);
        Due.bad10(x, "walk(16, -2)", y -> y.walk(16, -2));
    }

    private static void walkRising() {
        Due.sentence("the k-th step (-1, 0, 1) of the first such row (rising)");
        SoulShore x = Shores.read("shore 2 2 2 2 1 2 2 2 2 2 2 2;soul 0 5 4;");
        // it is at 4, 3, 3, ..: by three steps on, none other
        for (int k = 0; k <= 2; k++) {
            Due.is("walk(1, " + k + ")", x.walk(1, k), 2);
        }
        Due.is("walk(1, 3)", x.walk(1, 3), -5);
        for (int step = -1; step <= 1; step++) {
            x = new SoulShore();
            Shores.comberAt(x, 5);
            x.soul(0, 5, 5 + step);
            Due.is("walk(1, -2)", x.walk(1, -2), 1);
            Due.is("walk(1, 0)", x.walk(1, 0), step + 1);
        }
        // he is at 6, it is at 3, 5, 3, 5, ..: -1 and 0, or 0 and -1
        x = new SoulShore();
        Shores.comberAt(x, 6);
        x.current(3, 2);
        x.current(5, -2);
        x.soul(0, 5, 3);
        Due.is("walk(1, -2)", x.walk(1, -2), 2);
        Due.is("walk(1, 0)", x.walk(1, 0), 0);
        Due.is("walk(1, 1)", x.walk(1, 1), 1);
        Due.is("walk(1, 2)", x.walk(1, 2), -5);
        // he is at 2, it is at 0, 2, ..: where it was it is found no more
        x = new SoulShore();
        Shores.comberAt(x, 2);
        x.current(0, 2);
        x.soul(0, 5, 0);
        Due.is("walk(1, -2)", x.walk(1, -2), 2);
        Due.is("walk(1, 0)", x.walk(1, 0), 0);
        Due.is("walk(1, 1)", x.walk(1, 1), 2);
        // two that are as far on both sides, three steps off: the lower one is the first
        x = new SoulShore();
        Shores.comberAt(x, 6);
        x.soul(0, 5, 3);
        x.soul(0, 5, 9);
        Due.is("walk(3, -2)", x.walk(3, -2), 9);
        for (int k = 0; k <= 8; k++) {
            Due.is("walk(3, " + k + ")", x.walk(3, k), k < 3 ? 0 : 2);
        }
    }

    private static void orderOfWhoCanTakeNone() {
        Due.sentence("THE SHELF as it is; who can TAKE none goes without");
        SoulShore x = Shores.callers(new SoulShore(), 0, 0, 0);
        Due.is("order(-1), THE SHELF is empty", x.order(-1), 0);
        for (int k = 0; k <= 2; k++) {
            Due.is("order(" + k + ")", x.order(k), k);
        }
        Due.asks(x, "order(3)", y -> y.order(3), -5);
        // one SOUL for three: who comes first has it
        x = Shores.callers(Shores.shelf(0, 5), 0, 0, 0);
        Due.is("order(-1)", x.order(-1), 1);
        Due.is("order(0)", x.order(0), 0);
        Due.is("order(2)", x.order(2), 2);
        x = Shores.callers(new SoulShore(), 0, 0, 0);
        x.soul(0, 5, 11);
        x.soul(0, 5, 0);
        x.walks(0);
        Due.is("order(-1), 1 has to be the first", x.order(-1), 1);
        Due.is("order(0)", x.order(0), 1);
        Due.is("order(1)", x.order(1), 0);
        Due.is("order(2)", x.order(2), 2);
    }

    private static void orderOfNobody() {
        Due.sentence("all CALLERS who HOLD none call one behind the other");
        SoulShore x = new SoulShore();
        Due.asks(x, "order(-1), nobody is there", y -> y.order(-1), 0);
        Due.asks(x, "order(0)", y -> y.order(0), -5);
        x = Shores.callers(Shores.shelf(0, 5, 0, 7), 0, 0);
        x.calls(0);
        x.calls(1);
        Due.asks(x, "order(-1), all HOLD one", y -> y.order(-1), 2);
        Due.asks(x, "order(0)", y -> y.order(0), -5);
        x.returns(0);
        Due.asks(x, "order(-1)", y -> y.order(-1), 2);
        Due.asks(x, "order(0)", y -> y.order(0), 0);
        Due.asks(x, "order(1)", y -> y.order(1), -5);
        // who has called in the meantime calls no more, though his own is still on THE SHELF
        x = Shores.callers(Shores.shelf(0, 9, 1, 5), 0, 0);
        Due.is("order(-1)", x.order(-1), 2);
        x.soul(0, 5, 0);
        x.walks(0);
        Due.is("calls(1)", x.calls(1), 2);
        Due.asks(x, "order(-1)", y -> y.order(-1), 1);
        Due.asks(x, "order(0)", y -> y.order(0), 0);
        Due.asks(x, "order(1)", y -> y.order(1), -5);
    }

    private static void orderRising() {
        Due.sentence("who calls as the k-th in the first such order (rising)");
        SoulShore x = Shores.callers(Shores.shelf(0, 5, 0, 5, 0, 5, 0, 5, 0, 5, 0, 5), 0, 0, 0, 0, 0, 0);
        Due.is("order(-1), the first of all orders", x.order(-1), 6);
        for (int k = 0; k <= 5; k++) {
            Due.is("order(" + k + ")", x.order(k), k);
        }
        Due.is("order(6)", x.order(6), -5);
        // each feels just what he looks for in the SOUL behind his own: the last of all orders
        x = Shores.callers(Shores.shelf(1, 9, 1, 7, 1, 5, 1, 3, 1, 1, 2, 1), 0, 0, 0, 0, 0, 0);
        Due.is("order(-1), the last of all orders", x.order(-1), 6);
        for (int k = 0; k <= 5; k++) {
            Due.is("order(" + k + ")", x.order(k), 5 - k);
        }
        Due.is("order(6)", x.order(6), -5);
        // who is the first of all would take what 4 takes else, and 4's own is ADRIFT
        x = new SoulShore();
        for (int[] soul : new int[][] {{1, 5, 0}, {0, 9, 0}, {0, 1, 0}, {0, 3, 0}, {0, 5, 11}, {0, 5, 0}}) {
            x.soul(soul[0], soul[1], soul[2]);
        }
        Shores.callers(x, 0, 0, 0, 0, 0).walks(0);
        int[] due = {1, 2, 3, 4, 0};
        Due.is("order(-1)", x.order(-1), 4);
        for (int k = 0; k <= 4; k++) {
            Due.is("order(" + k + ")", x.order(k), due[k]);
        }
        // each of two has the other one's, whoever comes first
        x = Shores.callers(Shores.shelf(1, 1, 2, 3), 0, 0);
        Due.is("order(-1), none has his own", x.order(-1), 0);
        Due.is("order(0)", x.order(0), 0);
        Due.is("order(1)", x.order(1), 1);
    }

    private static void swapsWithOneWhoHoldsNone() {
        Due.sentence("two CALLERS change what they HOLD (one HOLDS none: he has it then, the other one none)");
        SoulShore x = Shores.callers(Shores.shelf(0, 5), 0, 0);
        Due.asks(x, "swaps(), nobody HOLDS one", SoulShore::swaps, 0);
        x.calls(1);
        Due.asks(x, "swaps(), 1 HOLDS 0, 0 none", SoulShore::swaps, 1);
        x.returns(1);
        x.calls(0);
        Due.asks(x, "swaps(), 0 HOLDS 0, 1 none", SoulShore::swaps, 0);
        // all six, one behind the other in a ring, and in a row that ends with none
        x = Shores.callers(new SoulShore(), 0, 0, 0, 0, 0, 0);
        for (int s = 0; s <= 5; s++) {
            x.soul(0, 5, 0);
            x.walks(0);
            Due.is("calls", x.calls((s + 1) % 6), s);
        }
        Due.asks(x, "swaps() of a ring of six", SoulShore::swaps, 5);
        x.returns(0);
        Due.asks(x, "swaps() of a row of five", SoulShore::swaps, 5);
        x.returns(1);
        Due.asks(x, "swaps() of a row of four", SoulShore::swaps, 4);
    }

    private static void swapsOfOwnNotHeld() {
        Due.sentence("each CALLER whose OWN SOUL is HELD by somebody HOLDS it");
        // his OWN on THE SHELF, ADRIFT, or none there: nothing has to be put right for him
        SoulShore x = Shores.callers(new SoulShore(), 0, 0, 0);
        x.soul(0, 5, 11);
        x.soul(0, 9, 0);
        x.walks(0);
        Due.is("calls(2)", x.calls(2), 1);
        Due.is("swaps()", x.swaps(), 1);
        x.soul(0, 7, 0);
        x.walks(0);
        Due.is("calls(1)", x.calls(1), 2);
        Due.is("swaps()", x.swaps(), 1);
        x.returns(2);
        Due.is("swaps()", x.swaps(), 1);
        x.returns(1);
        Due.is("swaps()", x.swaps(), 0);
        // a SOUL whose CALLER is not there
        x = Shores.callers(Shores.shelf(0, 9, 0, 5), 0);
        x.soul(0, 9, 0);
        x.shore();
        x.soul(0, 5, 11);
        x.soul(0, 5, 0);
        x.walks(0);
        x.caller(0);
        Due.is("calls(0)", x.calls(0), 1);
        Due.is("swaps(), 1 is not there", x.swaps(), 0);
        x.caller(0);
        Due.is("swaps(), 1 is there", x.swaps(), 1);
    }

    private static void seenAsItIsWhenAsked() {
        Due.sentence("behind m TIDES from now on (as it is when that is asked, not when it was told)");
        SoulShore x = Shores.read("shore 3 3 3 3 3 3 3 3 3 3 3 3;soul 0 5 0;soul 0 5 1;");
        x.seen(1, 2);
        Due.is("which()", x.which(), 2);
        x.tides(1);
        Due.is("which() behind a TIDE", x.which(), 1);
        x.tides(1);
        Due.is("which() behind two", x.which(), 0);
        x.undo();
        Due.is("which() undone", x.which(), 1);
        x.current(1, 0);
        Due.is("which() by another CURRENT", x.which(), 0);
        x.soul(0, 5, 2);
        Due.is("which(), that stands at 3 behind one", x.which(), 0);
        x.current(2, 0);
        Due.is("which(), 1 and 2 stay at 2", x.which(), 2 | 4);
    }

    private static void seenOfAdrift() {
        Due.sentence("SOULS (bits) that are ADRIFT and will be there by all SEEN");
        SoulShore x = Shores.callers(Shores.shelf(0, 5, 0, 5), 0);
        x.calls(0);
        Due.is("which(), none ADRIFT", x.which(), 0);
        x.soul(0, 5, 0);
        for (int n = 0; n < 3; n++) {
            x.soul(0, 5, n + 1);
        }
        Due.is("which(), no SEEN", x.which(), 4 | 8 | 16 | 32);
        x.seen(0, 0);
        Due.is("which()", x.which(), 4);
        x.seen(60, 0);
        Due.is("which(), both", x.which(), 4);
        x.seen(60, 1);
        Due.is("which(), not all", x.which(), 0);
        x.forget(0);
        x.seen(60, 3);
        Due.is("which(), the last", x.which(), 32);
    }

    private static void tellNone() {
        Due.sentence("the number of TIDES m (0 .. 20) that parts them best .. of like ones the least; none: no SOUL");
        SoulShore x = new SoulShore();
        Due.asks(x, "tell(), no SOUL", SoulShore::tell, -1);
        x.soul(0, 5, 4);
        Due.asks(x, "tell(), one SOUL", SoulShore::tell, 0);
        x.soul(0, 5, 4);
        Due.asks(x, "tell(), two in a CELL", SoulShore::tell, 0);
        for (int n = 0; n < 4; n++) {
            x.soul(0, 5, n);
        }
        Due.asks(x, "tell(), six", SoulShore::tell, 0);
        x.seen(0, 11);
        Due.asks(x, "tell(), none was SEEN", SoulShore::tell, -1);
        x.forget(0);
        for (int n = 0; n < 5; n++) {
            x.walks(n == 0 ? 0 : 1);
        }
        Due.asks(x, "tell(), none is ADRIFT", SoulShore::tell, -1);
    }

    private static void lookNone() {
        Due.sentence("LOOK .. none: no KIND");
        SoulShore x = new SoulShore();
        x.soul(0, 5, 0);
        x.soul(0, 5, 0);
        Due.asks(x, "look(0), all KINDS", y -> y.look(0), 0);
        x.note(0, 1, 0, 30);
        Due.asks(x, "is(0)", y -> y.is(0), 0);
        Due.asks(x, "look(0), no KIND", y -> y.look(0), -1);
        Due.asks(x, "look(1)", y -> y.look(1), 0);
        x.forget(1);
        x.note(0, 9, 3, 22);
        Due.asks(x, "is(0)", y -> y.is(0), 8);
        Due.asks(x, "look(0), one KIND", y -> y.look(0), 0);
    }

    private static void lookLeast() {
        Due.sentence("DRY d (0 .. 9) by which .. the most of these KINDS that weigh alike are fewest; "
            + "of like ones the least");
        // TEMPER and WEEDY are told apart at 0, SERMON and WIG from 3, SNEEZE and SOFT from 5
        SoulShore x = new SoulShore();
        x.soul(0, 4, 0);
        x.note(0, 4, 3, 4);
        Due.is("is(0): TEMPER, WEEDY", x.is(0), 1 | 32);
        Due.is("look(0)", x.look(0), 0);
        x.forget(1);
        x.note(0, 4, 2, 6);
        Due.is("is(0): SERMON, WIG", x.is(0), 2 | 8);
        Due.is("look(0)", x.look(0), 3);
        x.forget(1);
        x.note(0, 4, 4, 2);
        Due.is("is(0): SNEEZE, SOFT", x.is(0), 4 | 16);
        Due.is("look(0)", x.look(0), 5);
        x.forget(1);
        x.note(0, 4, 1, 6);
        Due.is("is(0): SERMON, WIG, WEEDY", x.is(0), 2 | 8 | 32);
        // by 0: 6 6 7, by 1: 6 6 6, by 2: 6 6 5, by 3: 6 12 4
        Due.is("look(0)", x.look(0), 3);
        // of WEIGHT 2: TEMPER 2, SNEEZE 1, SOFT 1, WEEDY 5 .. 2; the most alike: 2 at 0 .. 2, 2 at 3, 4, 2 from 5
        x.soul(0, 2, 0);
        x.note(1, 1, 3, 1);
        Due.is("is(1): TEMPER, SNEEZE, SOFT, WEEDY", x.is(1), 1 | 4 | 16 | 32);
        for (int s = 2; s <= 5; s++) {
            x.soul(0, 9, 0);
        }
        Due.is("swaps()", x.swaps(), 0);
        Due.is("look(1)", x.look(1), 0);
        x.note(1, 2, 1, 2);
        Due.is("is(1): TEMPER", x.is(1), 1);
        Due.is("look(1)", x.look(1), 0);
    }

    private static void askNone() {
        Due.sentence("ASK .. none: no KIND");
        SoulShore x = Shores.callers(new SoulShore(), 0, 0);
        Due.asks(x, "ask(0), all KINDS", y -> y.ask(0), 6);
        x.mark(0, 0, 60);
        Due.asks(x, "kinds(0)", y -> y.kinds(0), 0);
        Due.asks(x, "ask(0), no KIND", y -> y.ask(0), -1);
        Due.asks(x, "ask(1)", y -> y.ask(1), 6);
        x.forget(2);
        x.mark(0, 30, 31);
        Due.asks(x, "kinds(0)", y -> y.kinds(0), 8);
        Due.asks(x, "ask(0), one KIND", y -> y.ask(0), 0);
    }

    private static void askLeast() {
        Due.sentence("the weight x (0 .. 30) by which the most of these KINDS that feel alike are fewest; "
            + "of like ones the least");
        SoulShore x = Shores.callers(new SoulShore(), 0);
        x.mark(0, 4, 4);
        Due.is("kinds(0): PLAIN, FOOTMAN, BLANK", x.kinds(0), 1 | 2 | 4);
        // 6: 6 6 5; 7: 7 6 5
        Due.is("ask(0)", x.ask(0), 7);
        x.mark(0, 2, 2);
        Due.is("ask(0), as before", x.ask(0), 7);
        x.mark(0, 6, 6);
        // 1: 1 0
        Due.is("kinds(0): PLAIN, FOOTMAN", x.kinds(0), 1 | 2);
        Due.is("ask(0)", x.ask(0), 1);
        x.forget(2);
        x.mark(0, 3, 3);
        x.mark(0, 5, 5);
        Due.is("kinds(0): PLAIN, BLANK, JUDGE", x.kinds(0), 1 | 4 | 8);
        // 0: 0 0 1, 2: 2 2 3, 6: 6 5 7
        Due.is("ask(0)", x.ask(0), 6);
        x.forget(2);
        x.mark(0, 0, 1);
        Due.is("kinds(0): JUDGE", x.kinds(0), 8);
        Due.is("ask(0)", x.ask(0), 0);
        x.forget(2);
        x.mark(0, 0, 0);
        x.mark(0, 1, 0);
        Due.is("kinds(0): FOOTMAN, CHILD", x.kinds(0), 2 | 32);
        // 2: 2 1
        Due.is("ask(0)", x.ask(0), 2);
        for (int s = 0; s <= 5; s++) {
            x.soul(0, 9, 0);
        }
        Due.is("swaps()", x.swaps(), 0);
        Due.is("ask(0), behind it", x.ask(0), 2);
    }

    /** The pairs that rest, by trying all, of two to whom having it is worth so much without a claim. */
    private static long[] resting(int worthA, int worthB) {
        long[] found = new long[101];
        int n = 0;
        for (int i = 0; i <= 9; i++) {
            for (int j = 0; j <= 9; j++) {
                int a = i > j ? 0 : worthA + i / 2;
                int b = i > j ? worthB + j / 2 : 0;
                boolean rests = true;
                for (int other = 0; other <= 9; other++) {
                    rests &= (other > j ? 0 : worthA + other / 2) <= a;
                    rests &= (i > other ? worthB + other / 2 : 0) <= b;
                }
                if (rests) {
                    n++;
                    found[n] = 10 * i + j;
                }
            }
        }
        found[0] = n;
        return found;
    }

    private static void claimIs(SoulShore x, int a, int b, int s) {
        int farA = Math.abs(x.feels(s, a) - x.about(a, 2));
        int farB = Math.abs(x.feels(s, b) - x.about(b, 2));
        long[] due = resting(9 - farA, 9 - farB);
        String call = "claim(" + a + ", " + b + ", " + s + "), as far as " + farA + " and " + farB;
        Due.asks(x, call, y -> y.claim(a, b, s, -1), due[0]);
        for (int k = 0; k < due[0]; k++) {
            Due.is(call + ", " + k, x.claim(a, b, s, k), due[k + 1]);
        }
        Due.asks(x, call + " behind the last", y -> y.claim(a, b, s, (int) due[0]), -5);
    }

    private static void claimAlike() {
        Due.sentence("who claims less has it (a, if both claim alike)");
        // nothing is far: a has it at no less than b's 0, or just below what b could go under
        SoulShore x = Shores.callers(Shores.shelf(0, 5, 0, 5), 0, 0);
        Due.is("claim(-1)", x.claim(0, 1, 0, -1), 2);
        Due.is("claim(0): both claim 0", x.claim(0, 1, 0, 0), 0);
        Due.is("claim(1): 0 and 1", x.claim(0, 1, 0, 1), 1);
        Due.is("claim(2)", x.claim(0, 1, 0, 2), -5);
        Due.bad10(x, "a and b alike", y -> y.claim(1, 1, 0, -1));
        // both would rather not have it: whoever has it claims the most that still has him have it
        x = Shores.callers(Shores.shelf(3, 9, 3, 9), 4, 4);
        x.tides(3);
        Due.is("claim(-1)", x.claim(0, 1, 0, -1), 2);
        Due.is("claim(0): both claim 9 less 1 and 9", x.claim(0, 1, 0, 0), 89);
        Due.is("claim(1): both claim 9", x.claim(0, 1, 0, 1), 99);
    }

    private static void claimCut() {
        Due.sentence("9 more than half (cut) of his claim");
        // a alone wants it: just below b's claim, and also 1 less where half of it is no less
        SoulShore x = Shores.callers(Shores.shelf(0, 9, 0, 1), 0, 4);
        long[] due = {0, 1, 11, 22, 23, 33, 44, 45, 55, 66, 67, 77, 88, 89, 99};
        Due.is("far", Math.abs(x.feels(0, 1) - x.about(1, 2)), 17);
        Due.is("claim(-1)", x.claim(0, 1, 0, -1), due.length);
        for (int k = 0; k < due.length; k++) {
            Due.is("claim(" + k + ")", x.claim(0, 1, 0, k), due[k]);
        }
    }

    private static void claimAsFarAsNine() {
        Due.sentence("less how far it feels from what he looks for, to the other one 0");
        // six who look for 1 .. 6 and feel 16; then they look for 9 .. 4 and feel 22; then by all kinds
        SoulShore x = Shores.callers(Shores.shelf(0, 1, 0, 2, 0, 3, 0, 4, 0, 5, 3, 6), 0, 0, 0, 0, 0, 0);
        x.tides(2);
        for (int a = 0; a <= 5; a++) {
            for (int b = 0; b <= 5; b++) {
                if (a != b) {
                    claimIs(x, a, b, 5);
                    claimIs(x, a, b, a);
                }
            }
        }
        for (int weight = 1; weight <= 9; weight++) {
            x = Shores.callers(Shores.shelf(3, weight, 0, 9, 4, 1, 1, 7, 5, 4, 0, 5), 0, 1, 2, 3, 4, 5);
            x.tides(4);
            for (int n = 0; n <= 5; n++) {
                claimIs(x, n, (n + 1) % 6, 0);
                claimIs(x, (n + 3) % 6, n, 0);
                claimIs(x, n, (n + 2) % 6, n);
            }
        }
    }

    private static void gullsEnds() {
        Due.sentence("by c of 10 (0 .. 10) each SOUL that is ADRIFT, apart, is taken by a gull now");
        SoulShore x = Shores.read(Shores.STILL + "soul 0 7 1;soul 3 9 0;walk 1;");
        Due.bad(x, "gulls(-1)", y -> y.gulls(-1));
        Due.bad(x, "gulls(11)", y -> y.gulls(11));
        Due.is("gulls(0)", x.gulls(0), 1);
        Shores.fraction(x, 7, 1);
        x.gulls(1);
        Shores.fraction(x, 63, 10);
        x.gulls(9);
        Shores.fraction(x, 7, 10);
        x.gulls(10);
        Shores.fraction(x, 0, 1);
        x.walks(1);
        Due.is("none is ADRIFT", x.count(3), 0);
        x.gulls(3);
        Shores.fraction(x, 0, 1);
        x = new SoulShore();
        for (int n = 0; n < 6; n++) {
            x.soul(5, 9, n);
        }
        x.gulls(1);
        // 6 of 12
        Shores.fraction(x, 324, 5);
        x.gulls(0);
        Shores.fraction(x, 72, 1);
    }

    private static void yearsNobody() {
        Due.sentence("then CALLER X .. (not there, or HOLDS one, or can TAKE none: nobody), calls: RIGHT behind them");
        for (int seed : new int[] {0, 1, 2, 12345, 65535, 500000, 999998, 999999}) {
            for (int callers = 0; callers <= 6; callers++) {
                yearsAreWalksAndCalls(seed, callers);
            }
        }
    }

    private static void yearsCut() {
        Due.sentence("then CALLER X by 1048576 (cut), by 6 left over");
        SoulShore x = Shores.callers(Shores.shelf(0, 5), 0);
        // X is 1902 times 1048576 and 467 more, and 1038 times 1048576 less 575: CALLERS 0 and 5
        Due.is("years(4034, 1)", x.years(4034, 1), 1);
        Due.is("years(1984, 1)", x.years(1984, 1), 0);
        // X is just 1605 times 1048576: CALLER 3, and 1 less than 193 times: CALLER 0
        Due.is("years(501379, 1)", x.years(501379, 1), 0);
        Due.is("years(899870, 1)", x.years(899870, 1), 1);
        x = Shores.callers(Shores.shelf(0, 9, 0, 9, 0, 9, 0, 5), 0, 0, 0, 0);
        Due.is("years(501379, 1), 3 is there", x.years(501379, 1), 1);
    }

    private static void yearsEnds() {
        Due.sentence("by a SEED (0 .. 999999), n (0 .. 60) TIDES");
        SoulShore x = Shores.callers(Shores.shelf(0, 5, 0, 7), 0, 0);
        x.calls(0);
        for (int seed : new int[] {LEAST, -1, 1000000, MOST}) {
            Due.bad(x, "years(" + seed + ", 0)", y -> y.years(seed, 0));
            Due.bad(x, "years(" + seed + ", 60)", y -> y.years(seed, 60));
        }
        for (int n : new int[] {LEAST, -1, 61, MOST}) {
            Due.bad(x, "years(0, " + n + ")", y -> y.years(0, n));
            Due.bad(x, "years(999999, " + n + ")", y -> y.years(999999, n));
        }
        Due.asks(x, "years(0, 0)", y -> y.years(0, 0), 1);
        Due.asks(x, "years(999999, 0)", y -> y.years(999999, 0), 1);
        Due.asks(x, "years(0, 60)", y -> y.years(0, 60), 2);
        Due.asks(x, "years(999999, 60)", y -> y.years(999999, 60), 2);
    }

    /** YEARS against walks and calls on the shore itself. */
    private static void yearsAreWalksAndCalls(int seed, int callers) {
        SoulShore x = Shores.read("shore 2 1 2 1 1 0 2 3 1 0 1 2;soul 3 9 2;soul 0 3 0;soul 1 2 1;soul 4 6 4;soul 5 1 7;");
        x.soul(2, 7, 3);
        for (int i = 0; i < callers; i++) {
            x.caller((5 * i + seed) % 6);
        }
        SoulShore real = new SoulShore();
        Due.told(real, "shore 2 1 2 1 1 0 2 3 1 0 1 2;soul 3 9 2;soul 0 3 0;soul 1 2 1;soul 4 6 4;soul 5 1 7;");
        real.soul(2, 7, 3);
        for (int i = 0; i < callers; i++) {
            real.caller((5 * i + seed) % 6);
        }
        java.math.BigInteger v = java.math.BigInteger.valueOf(seed);
        for (int n = 0; n <= 60; n++) {
            Due.is("years(" + seed + ", " + n + ") of " + callers, x.years(seed, n), real.right());
            v = v.multiply(java.math.BigInteger.valueOf(1103515245)).add(java.math.BigInteger.valueOf(12345))
                .mod(java.math.BigInteger.ONE.shiftLeft(31));
            int now = v.intValueExact();
            real.walks((now >> 16) % 3 - 1);
            real.calls((now >> 20) % 6);
        }
    }

    private static void undoEight() {
        Due.sentence("as ahead of the last TIDES gone by, WALK, CALLING, HANDING BACK (8 at most");
        for (int told = 7; told <= 10; told++) {
            SoulShore x = Shores.callers(Shores.shelf(0, 5), 0);
            x.soul(0, 5, 11);
            int[][] facts = new int[told][];
            for (int n = 0; n < told; n++) {
                facts[n] = undoneFacts(x);
                switch (n % 4) {
                    case 0 -> x.calls(0);
                    case 1 -> x.tides(2);
                    case 2 -> x.returns(0);
                    default -> x.walks(1);
                }
                Due.is("count(9)", x.count(9), Math.min(n + 1, 8));
            }
            for (int n = told - 1; n >= Math.max(0, told - 8); n--) {
                Due.is("undo() of " + told + " to " + n, x.undo(), facts[n][0]);
                int[] now = undoneFacts(x);
                for (int f = 0; f < now.length; f++) {
                    Due.is("fact " + f + " of " + told + " undone to " + n, now[f], facts[n][f]);
                }
            }
            Due.is("count(9)", x.count(9), 0);
            Due.no(x, "undo() of one more", SoulShore::undo);
        }
    }

    /** The TIDE, THE COMBER, and of two SOULS where they are, who HOLDS them, DRY. */
    private static int[] undoneFacts(SoulShore x) {
        return new int[] {x.count(2), x.count(5),
            x.of(0, 2), x.of(0, 3), x.of(0, 4), x.of(1, 2), x.of(1, 3), x.of(1, 4)};
    }

    private static SoulShore toUndo() {
        SoulShore x = Shores.callers(Shores.shelf(0, 5), 0);
        x.tides(1);
        x.calls(0);
        Due.is("count(9)", x.count(9), 2);
        return x;
    }

    private static void undoNone() {
        Due.sentence("behind a CURRENT told, a SOUL, a CALLER that comes none may be");
        SoulShore x = toUndo();
        x.current(0, 0);
        Due.is("count(9) behind current()", x.count(9), 0);
        Due.no(x, "undo() behind current()", SoulShore::undo);
        x = toUndo();
        x.soul(0, 5, 0);
        Due.is("count(9) behind soul()", x.count(9), 0);
        Due.no(x, "undo() behind soul()", SoulShore::undo);
        x = toUndo();
        x.caller(0);
        Due.is("count(9) behind caller()", x.count(9), 0);
        Due.no(x, "undo() behind caller()", SoulShore::undo);
        x.tides(1);
        Due.is("what comes behind it may be", x.undo(), 2);
        x = toUndo();
        x.shore();
        Due.no(x, "undo() behind shore()", SoulShore::undo);
        x = toUndo();
        Due.told(x, Shores.STILL + "tides 5;");
        Due.no(x, "undo() behind read()", SoulShore::undo);
    }

    private static void undoKept() {
        Due.sentence("behind a CURRENT told, a SOUL, a CALLER that comes none may be: behind all else it may");
        SoulShore x = toUndo();
        x.current(12, 0);
        x.current(0, 3);
        x.soul(6, 1, 0);
        x.caller(6);
        x.type(65);
        x.read();
        x.clear();
        x.calls(0);
        x.returns(1);
        x.tides(61);
        x.walks(2);
        x.seen(1, 1);
        x.note(0, 1, 1, 1);
        x.mark(0, 1, 1);
        x.forget(0);
        x.gulls(5);
        x.years(5, 60);
        x.image(0);
        x.from(1);
        x.order(-1);
        x.walk(1, -2);
        Due.is("count(9)", x.count(9), 2);
        Due.is("undo()", x.undo(), 2);
        Due.is("undo()", x.undo(), 1);
        Due.no(x, "undo()", SoulShore::undo);
    }

    private static void undoTogether() {
        Due.sentence("n TIDES go by (1 .. 60; together one that may be undone, also if none goes by; at 999 none goes by)");
        SoulShore x = Shores.pass(Shores.shelf(0, 5), 900);
        x.current(0, 0);
        x.tides(60);
        Due.is("count(9)", x.count(9), 1);
        x.tides(60);
        Due.is("the TIDE", x.count(2), 999);
        x.tides(60);
        Due.is("count(9)", x.count(9), 3);
        Due.is("undo() of none", x.undo(), 999);
        Due.is("undo() of 38", x.undo(), 961);
        Due.is("undo() of 60", x.undo(), 901);
        Due.no(x, "undo()", SoulShore::undo);
    }

    private static void imagesTwo() {
        Due.sentence("IMAGES 0, 1");
        SoulShore x = new SoulShore();
        for (int i : new int[] {LEAST, -1, 2, MOST}) {
            Due.bad(x, "image(" + i + ")", y -> y.image(i));
            Due.bad(x, "from(" + i + ")", y -> y.from(i));
        }
        Due.no(x, "from(0)", y -> y.from(0));
        Due.no(x, "from(1)", y -> y.from(1));
        Due.is("image(1)", x.image(1), 1);
        Due.no(x, "from(0)", y -> y.from(0));
        Due.is("from(1)", x.from(1), 1);
        Due.is("image(0)", x.image(0), 1);
        Due.is("from(0)", x.from(0), 1);
    }

    /** All rows full, and eight that may be undone. */
    private static SoulShore full() {
        SoulShore x = new SoulShore();
        for (int n = 0; n < 6; n++) {
            x.soul(5 - n, 9 - n, n % 2);
            x.caller(n);
        }
        for (int n = 0; n < 6; n++) {
            x.note(n, 1 + n, 10 * n, 5 * n);
            x.mark(5 - n, 6 * n, 12 * n);
            x.seen(12 * n, n);
            x.current(11 - n, n % 5 - 2);
            x.current(n, 2 - n % 5);
        }
        x.current(0, 0);
        x.current(1, 0);
        x.walks(0);
        x.walks(1);
        for (int i = 5; i >= 0; i--) {
            x.calls(i);
            x.tides(1 + i);
        }
        return x;
    }

    private static void imagesKeepAll() {
        Due.sentence("IMAGES 0, 1 keep all but them, THE TEXT, THE FRACTION and STATUS");
        SoulShore x = full();
        Shores.counts(x, 6, 6, 23, 0, 0, 1, 5, 6, 6, 8, 0);
        long digest = x.digest();
        x.image(0);
        x.shore();
        x.image(1);
        long empty = x.digest();
        x.from(0);
        Due.is("digest()", x.digest(), digest);
        x.from(1);
        Due.is("digest()", x.digest(), empty);
        x.soul(0, 1, 0);
        x.caller(0);
        x.note(0, 1, 1, 1);
        x.mark(0, 1, 1);
        x.seen(0, 0);
        x.current(11, 2);
        x.walks(0);
        x.from(0);
        Due.is("digest()", x.digest(), digest);
        x.from(1);
        Due.is("digest()", x.digest(), empty);
        x.shore();
        for (int n = 0; n < 6; n++) {
            x.soul((n + 2) % 6, 1 + n, 11);
            x.caller(5 - n);
            x.seen(0, 0);
        }
        for (int n = 0; n < 6; n++) {
            x.note(0, 1, 1, 1);
            x.mark(0, 1, 1);
        }
        x.image(1);
        x.from(0);
        Due.is("digest() behind one as full", x.digest(), digest);
        x.shore();
        x.image(1);
        x.type(65);
        x.gulls(0);
        x.from(7);
        x.from(0);
        Due.is("THE TEXT stays", x.count(10), 1);
        Due.is("STATUS stays", x.status(0), 1);
        x.shore();
        x.soul(0, 9, 3);
        x.gulls(5);
        x.from(1);
        Shores.fraction(x, 9, 2);
    }

    private static void imagesKeepWhatMayBeUndone() {
        Due.sentence("what may be undone they keep; it goes on from one");
        SoulShore plain = full();
        SoulShore x = full();
        x.image(1);
        x.shore();
        x.soul(0, 1, 11);
        for (int n = 0; n < 9; n++) {
            x.walks(1);
        }
        x.from(1);
        for (int n = 8; n > 0; n--) {
            Due.is("digest() ahead of undo", x.digest(), plain.digest());
            Due.is("undo()", x.undo(), plain.undo());
        }
        Due.is("digest()", x.digest(), plain.digest());
        Due.no(x, "undo()", SoulShore::undo);
        x.from(1);
        Due.is("count(9) from it again", x.count(9), 8);
        x.walks(1);
        x.undo();
        Due.is("the 9th drops the first", x.count(9), 7);
        x.from(1);
        Due.is("the image's stay", x.count(9), 8);
    }

    private static void statusCounts() {
        Due.sentence("STATUS: how many calls were refused as BAD, NO, FULL (each answer told so below is such a one)");
        SoulShore x = new SoulShore();
        Due.is("status(0)", x.status(0), 0);
        Due.is("status(1)", x.status(1), 0);
        Due.is("status(2)", x.status(2), 0);
        x.current(12, 0);
        x.walk(0, -1);
        x.order(-2);
        x.claim(0, 0, 0, 0);
        Due.is("-10 is BAD", x.status(0), 4);
        Due.is("status(3)", x.status(3), -1);
        Due.is("status(3) is BAD", x.status(0), 5);
        Due.is("part(2)", x.part(2), -2);
        Due.is("part(2) is BAD", x.status(0), 6);
        Due.is("count(11)", x.count(11), -2);
        Due.is("count(11) is BAD", x.status(0), 7);
        x.undo();
        x.from(1);
        Due.is("status(1)", x.status(1), 2);
        for (int n = 0; n < 8; n++) {
            x.soul(0, 1, 0);
        }
        Due.is("status(2)", x.status(2), 2);
        Due.is("status(0)", x.status(0), 7);
        Due.is("status(1)", x.status(1), 2);
    }

    private static void statusOfNoRefusal() {
        Due.sentence("STATUS: each answer told so below is such a one: no other one is");
        SoulShore x = Shores.shelf(0, 5);
        Due.asks(x, "where(0, 0): NONE", y -> y.where(0, 0), -1);
        Due.asks(x, "of(0, 2): NONE", y -> y.of(0, 2), -1);
        Due.asks(x, "of(0, 3): NONE", y -> y.of(0, 3), -1);
        Due.asks(x, "tell(): NONE", SoulShore::tell, -1);
        Due.asks(x, "walk(0, 0): -5", y -> y.walk(0, 0), -5);
        Due.asks(x, "order(0): -5", y -> y.order(0), -5);
        Due.asks(x, "read(): -10 less the FAULT", SoulShore::read, -10);
        x.current(0, 1);
        Due.is("current() of -2: -2", x.current(0, -2), 1);
        Due.is("current(): what it was", x.current(0, 0), -2);
        Due.is("status(0)", x.status(0), 0);
    }

    private static void fractionAtFirst() {
        Due.sentence("THE FRACTION is 0 by 1 at first");
        SoulShore x = new SoulShore();
        Shores.fraction(x, 0, 1);
        x.soul(0, 9, 0);
        x.shore();
        Shores.fraction(x, 0, 1);
        x.gulls(11);
        Shores.fraction(x, 0, 1);
    }

    private static void fractionLowest() {
        Due.sentence("lowest terms, below above 0");
        int[][] due = {{1, 1}, {9, 10}, {4, 5}, {7, 10}, {3, 5}, {1, 2}, {2, 5}, {3, 10}, {1, 5}, {1, 10}, {0, 1}};
        SoulShore x = new SoulShore();
        x.soul(0, 1, 0);
        for (int c = 0; c <= 10; c++) {
            x.gulls(c);
            Shores.fraction(x, due[c][0], due[c][1]);
        }
        x.soul(0, 9, 0);
        for (int c = 0; c <= 10; c++) {
            x.gulls(c);
            Shores.fraction(x, 10 - c, 1);
        }
        x.soul(0, 5, 0);
        x.gulls(5);
        Shores.fraction(x, 15, 2);
        x.gulls(9);
        Shores.fraction(x, 3, 2);
    }

    private static void badAheadOfNo() {
        Due.sentence("the first of: BAD -2 a number is not as told; NO -3 as told");
        SoulShore x = Shores.pass(Shores.callers(new SoulShore(), 0), 999);
        Due.no(x, "walks(1) at 999", y -> y.walks(1));
        Due.bad(x, "walks(2) at 999", y -> y.walks(2));
        Due.bad(x, "walks(-2) at 999", y -> y.walks(-2));
        Due.no(x, "calls(0), nothing there", y -> y.calls(0));
        Due.bad(x, "calls(1), nothing there", y -> y.calls(1));
        Due.no(x, "returns(0) of nothing", y -> y.returns(0));
        Due.bad(x, "returns(1) of nothing", y -> y.returns(1));
        Due.no(x, "from(1), none kept", y -> y.from(1));
        Due.bad(x, "from(2), none kept", y -> y.from(2));
    }

    private static void badAheadOfFull() {
        Due.sentence("the first of: BAD -2 a number is not as told; FULL -4");
        SoulShore x = full();
        Due.full(x, "soul(5, 9, 11)", y -> y.soul(5, 9, 11));
        Due.bad(x, "soul(6, 9, 11)", y -> y.soul(6, 9, 11));
        Due.bad(x, "soul(5, 10, 11)", y -> y.soul(5, 10, 11));
        Due.bad(x, "soul(5, 9, 12)", y -> y.soul(5, 9, 12));
        Due.full(x, "caller(5)", y -> y.caller(5));
        Due.bad(x, "caller(6)", y -> y.caller(6));
        Due.full(x, "seen(60, 11)", y -> y.seen(60, 11));
        Due.bad(x, "seen(61, 11)", y -> y.seen(61, 11));
        Due.bad(x, "seen(60, 12)", y -> y.seen(60, 12));
        Due.full(x, "note(5, 9, 99, 30)", y -> y.note(5, 9, 99, 30));
        Due.bad(x, "note(6, 9, 99, 30)", y -> y.note(6, 9, 99, 30));
        Due.bad(x, "note(5, 10, 99, 30)", y -> y.note(5, 10, 99, 30));
        Due.bad(x, "note(5, 9, 100, 30)", y -> y.note(5, 9, 100, 30));
        Due.bad(x, "note(5, 9, 99, 31)", y -> y.note(5, 9, 99, 31));
        Due.full(x, "mark(5, 30, 60)", y -> y.mark(5, 30, 60));
        Due.bad(x, "mark(6, 30, 60)", y -> y.mark(6, 30, 60));
        Due.bad(x, "mark(5, 31, 60)", y -> y.mark(5, 31, 60));
        Due.bad(x, "mark(5, 30, 61)", y -> y.mark(5, 30, 61));
        for (int n = 0; n < 150; n++) {
            x.type(127);
        }
        Due.full(x, "type(127)", y -> y.type(127));
        Due.bad(x, "type(128)", y -> y.type(128));
    }
}
