import java.util.Arrays;

/** Each promise of the document by hand: ordinary inputs, the edges it names, wrong inputs. */
public final class PromiseTest {
    private static final String STILL = Shores.STILL;
    private static final int LEAST = Shores.LEAST, MOST = Shores.MOST;

    public static void main(String[] args) {
        promise01NewObject();
        promise02Shore();
        promise03Current();
        promise04Soul();
        promise05Caller();
        promise06Type();
        promise07Clear();
        promise08ReadItems();
        promise08ReadFaults();
        promise08ReadReplaces();
        promise08ReadEnds();
        promise09Tides();
        promise10Walks();
        promise11Calls();
        promise12Returns();
        promise13Undo();
        promise14Of();
        promise14Weighs();
        promise15About();
        promise16Feels();
        promise17Where();
        promise18Comes();
        promise19Walk();
        promise20Right();
        promise21Order();
        promise22Swaps();
        promise23Seen();
        promise24Which();
        promise25Tell();
        promise26Note();
        promise27Mark();
        promise28Forget();
        promise29Is();
        promise30Look();
        promise31Kinds();
        promise32Ask();
        promise33Claim();
        promise34Gulls();
        promise35Years();
        promise36Part();
        promise37Image();
        promise38From();
        promise39Status();
        promise40Count();
        promise41Digest();
        constants();
        Due.end();
    }

    private static void constants() {
        Due.is("NONE", SoulShore.NONE, -1);
        Due.is("BAD", SoulShore.BAD, -2);
        Due.is("NO", SoulShore.NO, -3);
        Due.is("FULL", SoulShore.FULL, -4);
    }

    private static void promise01NewObject() {
        Due.sentence("Promise 1: A new object");
        SoulShore x = new SoulShore();
        Shores.counts(x, 0, 0, 0, 0, 0, 0, 0, 0, 0, 0, 0);
        Due.is("part(0)", x.part(0), 0);
        Due.is("part(1)", x.part(1), 1);
        for (int what = 0; what <= 2; what++) {
            Due.is("status", x.status(what), 0);
        }
        for (int c = 0; c <= 11; c++) {
            Due.is("where", x.comes(c, 60), 1 << c);
        }
        Due.no(x, "undo()", SoulShore::undo);
        Due.no(x, "from(0)", y -> y.from(0));
        Due.no(x, "from(1)", y -> y.from(1));
        Due.is("another's digest", new SoulShore().digest(), new SoulShore().digest());
    }

    private static void promise02Shore() {
        Due.sentence("Promise 2: shore");
        SoulShore x = Shores.read("shore 0 1 2 3 4 0 1 2 3 4 0 1;soul 5 9 0;soul 1 2 3;caller 2;walk 2;walk 0;call 0;");
        x.seen(1, 1);
        x.note(0, 1, 1, 1);
        x.mark(0, 1, 1);
        x.image(1);
        x.gulls(3);
        x.tides(3);
        x.type(65);
        x.soul(9, 9, 9);
        long above = x.part(0);
        Due.is("shore()", x.shore(), 2);
        Shores.counts(x, 0, 0, 0, 0, 0, 0, 0, 0, 0, 0, 1);
        Due.is("part stays", x.part(0), above);
        Due.is("part stays", x.part(0) > 0 ? 1 : 0, 1);
        Due.is("status stays", x.status(0), 1);
        Due.is("current", x.current(0, 0), 0);
        Due.is("image stays", x.from(1), 1);
        Shores.counts(x, 2, 1, 2, 1, 0, 0, 1, 1, 1, 0, 1);
        Due.is("shore() again", x.shore(), 2);
        Due.is("shore() empty", x.shore(), 0);
        x.soul(3, 4, 5);
        Due.is("new soul is dry by 0", x.of(0, 4), 0);
        Due.is("new soul is held by none", x.of(0, 3), -1);
    }

    private static void promise03Current() {
        Due.sentence("Promise 3: current");
        SoulShore x = new SoulShore();
        for (int v = -2; v <= 2; v++) {
            Due.is("current", x.current(0, v), v == -2 ? 0 : v - 1);
            Due.is("current", x.current(11, v), v == -2 ? 0 : v - 1);
        }
        Due.is("current is kept", x.current(0, 1), 2);
        for (int c : new int[] {LEAST, -1, 12, MOST}) {
            Due.bad10(x, "current(" + c + ")", y -> y.current(c, 0));
        }
        for (int v : new int[] {LEAST, -3, 3, MOST}) {
            Due.bad10(x, "current(0, " + v + ")", y -> y.current(0, v));
        }
        x.tides(1);
        x.current(99, 0);
        Due.is("a refused one undoes nothing", x.count(9), 1);
        Due.is("the same current", x.current(0, 1), 1);
        Due.is("nothing may be undone behind it", x.count(9), 0);
    }

    private static void promise04Soul() {
        Due.sentence("Promise 4: soul");
        SoulShore x = new SoulShore();
        int[][] wrong = {{-1, 1, 0}, {6, 1, 0}, {0, 0, 0}, {0, 10, 0}, {0, 1, -1}, {0, 1, 12},
            {LEAST, 1, 0}, {MOST, 1, 0}, {0, LEAST, 0}, {0, MOST, 0}, {0, 1, LEAST}, {0, 1, MOST}};
        for (int[] w : wrong) {
            Due.bad(x, "soul" + Arrays.toString(w), y -> y.soul(w[0], w[1], w[2]));
        }
        x.tides(1);
        for (int s = 0; s < 6; s++) {
            Due.is("soul", x.soul(5 - s, 9 - s, 11 - s), s);
            Due.is("nothing may be undone behind it", x.count(9), 0);
        }
        for (int s = 0; s < 6; s++) {
            Due.is("kind", x.of(s, 0), 5 - s);
            Due.is("weight", x.of(s, 1), 9 - s);
            Due.is("cell", x.of(s, 2), 11 - s);
            Due.is("holder", x.of(s, 3), -1);
            Due.is("dry", x.of(s, 4), 0);
        }
        x.tides(1);
        Due.full(x, "soul(0, 1, 0)", y -> y.soul(0, 1, 0));
        Due.bad(x, "BAD ahead of FULL", y -> y.soul(0, 1, 12));
        Due.is("a refused one leaves what may be undone", x.count(9), 1);
    }

    private static void promise05Caller() {
        Due.sentence("Promise 5: caller");
        SoulShore x = new SoulShore();
        for (int kind : new int[] {LEAST, -1, 6, MOST}) {
            Due.bad(x, "caller(" + kind + ")", y -> y.caller(kind));
        }
        x.tides(1);
        for (int i = 0; i < 6; i++) {
            Due.is("caller", x.caller(5 - i), i);
            Due.is("nothing may be undone behind it", x.count(9), 0);
            Due.is("kind", x.about(i, 0), 5 - i);
        }
        x.tides(1);
        Due.full(x, "caller(0)", y -> y.caller(0));
        Due.bad(x, "caller(6)", y -> y.caller(6));
        Due.is("a refused one leaves what may be undone", x.count(9), 1);
    }

    private static void promise06Type() {
        Due.sentence("Promise 6: type");
        SoulShore x = new SoulShore();
        for (int c : new int[] {LEAST, -1, 128, 256, MOST}) {
            Due.bad(x, "type(" + c + ")", y -> y.type(c));
        }
        Due.is("type(0)", x.type(0), 1);
        Due.is("type(127)", x.type(127), 2);
        for (int n = 3; n <= 150; n++) {
            Due.is("type(32)", x.type(32), n);
        }
        Due.full(x, "the 151st", y -> y.type(32));
        Due.bad(x, "BAD ahead of FULL", y -> y.type(128));
        Due.is("count(10)", x.count(10), 150);
    }

    private static void promise07Clear() {
        Due.sentence("Promise 7: clear");
        SoulShore x = new SoulShore();
        Due.is("clear()", x.clear(), 0);
        Due.type(x, STILL);
        Due.is("clear()", x.clear(), 30);
        Due.is("count(10)", x.count(10), 0);
        Due.is("read() of nothing", x.read(), -10);
        Due.is("clear()", x.clear(), 0);
        Due.is("text anew", x.type(97), 1);
    }

    private static void promise08ReadItems() {
        Due.sentence("Promise 8: read");
        SoulShore x = new SoulShore();
        Due.is("shore alone", Due.told(x, STILL), 1);
        Due.is("no blanks where none is needed",
            Due.told(x, "shore2 2 2 2 2 2 2 2 2 2 2 2;soul5 9 11;caller5;walk2;tides99;"), 5);
        Shores.counts(x, 1, 1, 100, 1, 0, 1);
        Due.is("one tide", Due.told(x, STILL + "tides 1;"), 2);
        Due.is("one tide", x.count(2), 1);
        Due.is("blanks everywhere",
            Due.told(x, "   shore  0 1   2 3 4 00 01 02 03 04 2 2  ;   soul 05   09 00 ;  "), 2);
        Due.is("current 0", x.current(0, 0), -2);
        Due.is("current 4", x.current(4, 0), 2);
        Due.is("current 6", x.current(6, 0), -1);
        Due.is("kind", x.of(0, 0), 5);
        Due.is("weight", x.of(0, 1), 9);
        Due.is("cell", x.of(0, 2), 0);
        Due.is("six souls, six callers", Due.told(x, STILL + "soul 0 1 0;soul 0 2 0;soul 0 3 0;soul 0 4 0;"
            + "soul 0 5 0;soul 0 6 0;caller 0;caller 1;caller 2;caller 3;caller 4;"), 12);
        Shores.counts(x, 6, 5, 0, 6, 0);
        Due.is("the shore in full",
            Due.told(x, STILL + "soul 1 9 1;soul 4 9 0;walk 2;caller 0;call 0;soul 2 2 0;tides 7;walk 0;"), 9);
        Shores.counts(x, 3, 1, 9, 0, 2, 0, 0, 0, 0, 0);
        Due.is("held", x.of(0, 3), 0);
        Due.is("dry stays of what is held", x.of(0, 4), 1);
        Due.is("told later, found", x.of(2, 2), -1);
        Due.is("dry by the walk's tide", x.of(2, 4), 1);
    }

    private static void fault(String text, int place) {
        SoulShore x = Shores.read("shore 0 1 2 3 4 0 1 2 3 4 0 1;soul 5 9 0;soul 1 2 3;caller 2;walk 2;");
        x.tides(2);
        x.seen(3, 3);
        x.clear();
        Due.type(x, text);
        Due.asks(x, "read() of " + text, SoulShore::read, -10 - place);
        Due.is("count(9) stays", x.count(9), 1);
    }

    private static void promise08ReadFaults() {
        Due.sentence("Promise 8: read");
        fault("", 0);
        fault("   ", 3);
        fault("soul 0 1 0;", 0);
        fault(";", 0);
        fault("  7", 2);
        fault("shor", 0);
        fault("Shore", 0);
        fault("\tshore", 0);
        fault("shore", 5);
        fault("shore ", 6);
        fault("shore 5", 6);
        fault("shore 2 05", 8);
        fault("shore 2 2 2 2 2 2 2 2 2 2 2;", 27);
        fault("shore 2 2 2 2 2 2 2 2 2 2 2 2 2;", 30);
        fault("shore 2 2 2 2 2 2 2 2 2 2 2 2", 29);
        fault("shore 2 2 2 2 2 2 2 2 2 2 2 2 ", 30);
        fault("shore 2 2 222 2 2 2 2 2 2 2 2 2;", 10);
        fault("shore 2 2 0002 2 2 2 2 2 2 2 2 2;", 10);
        fault("shore -2", 6);
        fault("shore 2,2", 7);
        fault("shore 2 soul", 8);
        fault(STILL + STILL, 30);
        fault(STILL + ";", 30);
        fault(STILL + "  soul", 36);
        fault(STILL + "souls 0 1 0;", 30);
        fault(STILL + "sou", 30);
        fault(STILL + "5;", 30);
        fault(STILL + "123;", 30);
        fault(STILL + "soul 6 1 0;", 35);
        fault(STILL + "soul 0 0 0;", 37);
        fault(STILL + "soul 0 10 0;", 37);
        fault(STILL + "soul 0 1 12;", 39);
        fault(STILL + "soul 0 1 0 0;", 41);
        fault(STILL + "soul 0 1;", 38);
        fault(STILL + "soul 0 1 0", 40);
        fault(STILL + "soul 0 1 0 soul", 41);
        fault(STILL + "caller 6;", 37);
        fault(STILL + "walk 3;", 35);
        fault(STILL + "walk;", 34);
        fault(STILL + "tides 0;", 36);
        fault(STILL + "tides 100;", 36);
        fault(STILL + "tides 99", 38);
        fault(STILL + "call 0;", 35);
        fault(STILL + "caller 0;call 0;", 44);
        fault(STILL + "soul 0 1 0;walk 1;call 0;caller 0;", 53);
        fault(STILL + "soul 0 1 0;walk 1;caller 0;call 1;", 62);
        fault(STILL + "soul 0 1 0;walk 1;caller 0;call 0;call 0;", 69);
        fault(STILL + "soul 0 1 0;soul 0 1 0;walk 1;caller 0;call 0;call 0", 80);
        fault(STILL + "soul 0 1 0;walk 1;caller 0;call 00 call", 65);
        fault(STILL + "soul 0 1 0;walk 1;caller 0;call 000;", 62);
        fault(STILL + "soul 0 1 0;walk 1;caller 0;call\0;", 61);
        fault("shore2 2 2 2 2 2 2 2 2 2 2 2;" + "caller0;".repeat(7), 77);
        fault("shore2 2 2 2 2 2 2 2 2 2 2 2;" + "soul0 1 0;".repeat(6) + "soul", 89);
        fault(STILL + "walk 1;" + "walk@", 41);
        fault(STILL + "walkz 1;", 30);
        fault(STILL + "walka 1;", 30);
        fault(STILL + "walk`", 34);
        fault(STILL + "walk{1;", 34);
        fault(STILL + "walk/", 34);
        fault(STILL + "walk:", 34);
        fault(STILL + (char) 127, 30);
    }

    private static void promise08ReadReplaces() {
        Due.sentence("Promise 8: read");
        SoulShore x = Shores.read("shore 4 4 4 4 4 4 4 4 4 4 4 4;soul 0 1 0;soul 0 2 0;caller 0;caller 0;walk 2;tides 9;");
        x.gulls(5);
        x.image(0);
        x.tides(2);
        x.seen(1, 1);
        x.note(1, 1, 1, 1);
        x.mark(1, 1, 1);
        x.caller(77);
        long above = x.part(0);
        long below = x.part(1);
        Due.is("read()", Due.told(x, STILL + "soul 3 4 5;"), 2);
        Shores.counts(x, 1, 0, 0, 1, 0, 0, 0, 0, 0, 0, 41);
        Due.is("current", x.current(3, 0), 0);
        Due.is("part(0) stays", x.part(0), above);
        Due.is("part(1) stays", x.part(1), below);
        Due.is("status(0) stays", x.status(0), 1);
        Due.is("read() again", x.read(), 2);
        Due.is("image stays", x.from(0), 1);
        Shores.counts(x, 2, 2, 10, 2, 0, 1);
    }

    private static void promise08ReadEnds() {
        Due.sentence("Promise 8: read");
        String ends = "shore2 2 2 2 2 2 2 2 2 2 2 2;" + "tides99;".repeat(10);
        SoulShore x = new SoulShore();
        Due.is("tides to 999", Due.told(x, ends + "tides 50;soul 0 1 1;walk 2;"), 14);
        Shores.counts(x, 1, 0, 999, 0, 1, 1);
        Due.is("no tide goes by at 999", x.of(0, 4), 0);
        Due.is("tides at 998 and on", Due.told(x, ends + "tides 8;walk 1;soul 0 1 1;walk 2;"), 15);
        Shores.counts(x, 1, 0, 999, 0, 1, 1);
        Due.is("tides behind 999", Due.told(x, ends + "soul 0 1 0;walk 1;tides 99;"), 14);
        Shores.counts(x, 1, 0, 999, 0, 1, 0);
        Due.is("dry by 9", x.of(0, 4), 9);
    }

    private static void promise09Tides() {
        Due.sentence("Promise 9: tides");
        SoulShore x = new SoulShore();
        for (int n : new int[] {LEAST, -1, 0, 61, MOST}) {
            Due.bad(x, "tides(" + n + ")", y -> y.tides(n));
        }
        Due.is("tides(1)", x.tides(1), 0);
        x = Shores.read("shore 4 2 2 2 2 2 2 2 2 2 2 0;soul 0 1 0;soul 0 1 11;soul 0 1 5;walk 2;");
        Shores.counts(x, 3, 0, 1, 3);
        Due.is("tides(60)", x.tides(60), 3);
        Shores.counts(x, 3, 0, 61, 3, 0, 1, 0, 0, 0, 1);
        Due.is("on by 2", x.of(0, 2), 2);
        Due.is("back by 2", x.of(1, 2), 9);
        Due.is("still", x.of(2, 2), 5);
        x = Shores.read("shore 0 1 2 2 2 2 2 2 2 2 3 4;soul 0 1 1;soul 0 1 10;");
        x.tides(3);
        Due.is("not beyond 0", x.of(0, 2), 0);
        Due.is("not beyond 11", x.of(1, 2), 11);
        x = Shores.read(STILL + "soul 0 1 0;soul 0 1 0;walk 1;caller 0;call 0;");
        for (int n = 0; n < 16; n++) {
            x.tides(60);
        }
        Shores.counts(x, 2, 1, 961, 0, 1, 0, 0, 0, 0, 8);
        Due.is("dry by 99 at most", x.of(1, 4), 99);
        Due.is("what is held dries no more", x.of(0, 4), 1);
        x.tides(37);
        Due.is("tides(60) at 998", x.tides(60), 0);
        Due.is("999 at most", x.count(2), 999);
        x.soul(0, 1, 3);
        x.current(3, 1);
        Due.is("at 999", x.tides(5), 1);
        Due.is("none goes by", x.of(2, 2), 3);
        Due.is("it may be undone", x.count(9), 1);
        Due.is("undo()", x.undo(), 999);
    }

    private static void promise10Walks() {
        Due.sentence("Promise 10: walks");
        SoulShore x = Shores.read("shore 2 4 2 2 2 2 2 2 2 2 2 2;soul 0 1 0;soul 0 2 1;soul 0 3 1;soul 0 4 3;");
        for (int s : new int[] {LEAST, -2, 2, MOST}) {
            Due.bad(x, "walks(" + s + ")", y -> y.walks(s));
        }
        Due.is("walks(1)", x.walks(1), 2);
        Shores.counts(x, 4, 0, 1, 2, 2, 1, 0, 0, 0, 1);
        Due.is("dry by the tide behind it", x.of(1, 4), 1);
        Due.is("no cell any more", x.of(1, 2), -1);
        Due.is("others stay", x.of(0, 2), 0);
        Due.is("walks(-1)", x.walks(-1), 1);
        Due.is("walks(-1) at 0", x.walks(-1), 0);
        Shores.counts(x, 4, 0, 3, 1, 3, 0);
        Due.is("walks(0)", x.walks(0), 0);
        x = Shores.read("shore 2 2 2 2 2 2 2 2 2 2 2 1;soul 0 1 11;");
        for (int n = 0; n < 10; n++) {
            Due.is("walks(1)", x.walks(1), n == 9 ? 1 : 0);
        }
        x.soul(0, 1, 11);
        x.walks(1);
        Due.is("walks(1) at 11", x.walks(1), 0);
        Due.is("not beyond 11", x.count(5), 11);
        Due.is("it drifted under him", x.of(1, 2), -1);
        for (int n = 0; n < 16; n++) {
            x.tides(60);
        }
        x.tides(25);
        x.walks(1);
        x.walks(1);
        Due.is("tide", x.count(2), 999);
        Due.no(x, "walks(0) at 999", y -> y.walks(0));
        Due.bad(x, "walks(2) at 999", y -> y.walks(2));
        x.undo();
        Due.is("undone", x.count(2), 998);
        Due.is("walks(0) at 998", x.walks(0), 0);
        Due.is("tide", x.count(2), 999);
    }

    private static void promise11Calls() {
        Due.sentence("Promise 11: calls");
        SoulShore x = new SoulShore();
        Due.bad(x, "calls(0) of none", y -> y.calls(0));
        x.caller(0);
        for (int i : new int[] {LEAST, -1, 1, 6, MOST}) {
            Due.bad(x, "calls(" + i + ")", y -> y.calls(i));
        }
        Due.no(x, "calls(0) of an empty shelf", y -> y.calls(0));
        x.soul(0, 5, 3);
        Due.no(x, "calls(0) while all are adrift", y -> y.calls(0));
        // he looks for 7: 5 is as far as 9, so the least
        x = Shores.shelf(0, 7, 0, 5, 0, 9, 0, 8);
        x.caller(0);
        x.caller(0);
        x.caller(0);
        x.caller(0);
        x.caller(0);
        Due.is("calls(1) looks for 5", x.calls(1), 1);
        Shores.counts(x, 4, 5, 1, 0, 3, 0, 0, 0, 0, 1);
        Due.is("held", x.of(1, 3), 1);
        Due.no(x, "calls(1) holds one", y -> y.calls(1));
        Due.is("calls(4) looks for 5 when there is none", x.calls(4), 0);
        Due.is("calls(0) looks for 7", x.calls(0), 3);
        Due.is("calls(2)", x.calls(2), 2);
        Due.no(x, "calls(3) finds none", y -> y.calls(3));
        // alike far: the least
        x = Shores.shelf(0, 6, 0, 9, 0, 5, 0, 7);
        x.caller(0);
        x.calls(0);
        x.caller(2);
        Due.is("of like ones the least", x.calls(1), 1);
        // what weighs it is, as it feels to him
        x = Shores.shelf(1, 4, 3, 1, 0, 5);
        x.caller(4);
        Due.is("calls(0): 12, 6, 10 of 4", x.calls(0), 1);
    }

    private static void promise12Returns() {
        Due.sentence("Promise 12: returns");
        SoulShore x = new SoulShore();
        Due.bad(x, "returns(0) of none", y -> y.returns(0));
        x = Shores.shelf(5, 3, 0, 9);
        x.caller(0);
        x.caller(0);
        for (int i : new int[] {LEAST, -1, 2, 6, MOST}) {
            Due.bad(x, "returns(" + i + ")", y -> y.returns(i));
        }
        Due.no(x, "returns(0) of one who holds none", y -> y.returns(0));
        Due.is("calls(0)", x.calls(0), 0);
        x.tides(5);
        Due.no(x, "returns(1)", y -> y.returns(1));
        Due.is("returns(0)", x.returns(0), 0);
        Shores.counts(x, 2, 2, 6, 0, 2, 0, 0, 0, 0, 3);
        Due.is("dry as it was", x.of(0, 4), 1);
        Due.is("the other is dry", x.of(1, 4), 6);
        x.tides(1);
        Due.is("dry by one more", x.of(0, 4), 2);
        Due.no(x, "returns(0) again", y -> y.returns(0));
    }

    private static void promise13Undo() {
        Due.sentence("Promise 13: undo");
        SoulShore x = new SoulShore();
        Due.no(x, "undo()", SoulShore::undo);
        x = Shores.read("shore 3 3 3 3 3 3 3 3 3 3 3 3;soul 0 5 3;soul 4 5 0;caller 0;caller 1;");
        long[] digests = new long[6];
        digests[0] = x.digest();
        x.walks(0);
        digests[1] = x.digest();
        x.tides(4);
        digests[2] = x.digest();
        x.calls(0);
        digests[3] = x.digest();
        x.tides(60);
        digests[4] = x.digest();
        x.returns(0);
        int[] tides = {0, 1, 5, 5, 65};
        for (int n = 4; n >= 0; n--) {
            Due.is("undo()", x.undo(), tides[n]);
            Due.is("digest() behind undo", x.digest(), digests[n]);
        }
        Due.no(x, "undo() of none", SoulShore::undo);
        for (int n = 1; n <= 12; n++) {
            x.walks(1);
            Due.is("8 at most", x.count(9), Math.min(n, 8));
        }
        for (int n = 11; n >= 4; n--) {
            Due.is("undo()", x.undo(), n);
            Due.is("comber", x.count(5), Math.min(n, 11));
        }
        Due.no(x, "undo() of the 9th", SoulShore::undo);
        x.tides(1);
        x.seen(1, 1);
        x.note(0, 1, 1, 1);
        x.mark(0, 1, 1);
        Due.is("undo()", x.undo(), 4);
        Shores.counts(x, 2, 2, 4, 2, 0, 4, 1, 1, 1, 0);
    }

    private static void promise14Of() {
        Due.sentence("Promise 14: of");
        SoulShore x = new SoulShore();
        Due.bad(x, "of(0, 0) of none", y -> y.of(0, 0));
        x = Shores.read(STILL + "soul 1 2 3;soul 4 9 0;soul 5 5 0;caller 0;walk 1;call 0;tides 3;");
        for (int s : new int[] {LEAST, -1, 3, 6, MOST}) {
            Due.bad(x, "of(" + s + ", 0)", y -> y.of(s, 0));
        }
        for (int what : new int[] {LEAST, -1, 6, MOST}) {
            Due.bad(x, "of(0, " + what + ")", y -> y.of(0, what));
        }
        int[][] due = {{1, 2, 3, -1, 0, 4}, {4, 9, -1, 0, 1, 5}, {5, 5, -1, -1, 4, 5}};
        for (int s = 0; s < 3; s++) {
            for (int what = 0; what < 6; what++) {
                Due.is("of(" + s + ", " + what + ")", x.of(s, what), due[s][what]);
            }
        }
    }

    /** All kinds, at the weights and the dryness where they turn. */
    private static void promise14Weighs() {
        Due.sentence("Promise 14: of");
        for (int w = 1; w <= 9; w += 2) {
            SoulShore x = Shores.shelf(0, w, 1, w, 2, w, 3, w, 4, w, 5, w);
            int half = (w + 1) / 2;
            int[][] due = {
                {w, w + 2, half, w + 2, half, w + 2},
                {w, w + 2, half, w + 2, half, w + 1},
                {w, w + 2, half, 2 * w + 4, half, w},
                {w, w + 2, half, 2 * w + 4, half, w},
                {w, w + 2, half, 2 * w + 4, 0, w}};
            for (int d = 1; d <= 5; d++) {
                for (int s = 0; s < 6; s++) {
                    Due.is("weighs by " + d + " of " + s, x.of(s, 5), due[d - 1][s]);
                }
                x.tides(1);
            }
        }
        SoulShore x = Shores.read(STILL + "soul 5 4 1;soul 2 4 1;soul 4 8 1;soul 2 1 1;");
        Due.is("weedy by 0", x.of(0, 5), 7);
        Due.is("half of 4", x.of(1, 5), 2);
        Due.is("half of 8", x.of(2, 5), 4);
        Due.is("half of 1", x.of(3, 5), 1);
    }

    private static void promise15About() {
        Due.sentence("Promise 15: about");
        SoulShore x = new SoulShore();
        Due.bad(x, "about(0, 0) of none", y -> y.about(0, 0));
        x = Shores.read(STILL + "soul 1 2 0;soul 4 9 0;caller 0;caller 3;caller 5;");
        for (int i : new int[] {LEAST, -1, 3, 6, MOST}) {
            Due.bad(x, "about(" + i + ", 0)", y -> y.about(i, 0));
        }
        for (int what : new int[] {LEAST, -1, 4, MOST}) {
            Due.bad(x, "about(0, " + what + ")", y -> y.about(0, what));
        }
        Due.is("kind", x.about(1, 0), 3);
        Due.is("holds none", x.about(1, 1), -1);
        Due.is("looks for the weight, not what it weighs", x.about(0, 2), 2);
        Due.is("looks for 9", x.about(1, 2), 9);
        Due.is("looks for 5", x.about(2, 2), 5);
        Due.is("takes none", x.about(0, 3), -1);
        x.walks(0);
        // they weigh 4 and 5; he looks for 2
        Due.is("takes 0", x.about(0, 3), 0);
        Due.is("asking takes none", x.count(4), 2);
        Due.is("both feel 5: the least", x.about(1, 3), 0);
        x.calls(1);
        Due.is("holds 0", x.about(1, 1), 0);
        Due.is("who holds one takes none", x.about(1, 3), -1);
        Due.is("takes what is left", x.about(0, 3), 1);
        x.soul(0, 7, 4);
        Due.is("his own came", x.about(2, 2), 7);
        x.returns(1);
        Due.is("holds none", x.about(1, 1), -1);
    }

    private static void promise16Feels() {
        Due.sentence("Promise 16: feels");
        SoulShore x = new SoulShore();
        for (int kind = 0; kind < 6; kind++) {
            x.caller(kind);
        }
        Due.bad(x, "feels(0, 0) of no soul", y -> y.feels(0, 0));
        x.soul(2, 1, 3);
        x.soul(0, 4, 3);
        x.soul(0, 5, 3);
        x.soul(0, 6, 3);
        x.soul(4, 9, 0);
        x.soul(3, 9, 0);
        x.walks(-1);
        x.tides(5);
        int[] weights = {1, 4, 5, 6, 0, 22};
        int[][] due = {
            {1, 0, 1, 1, 2, 0}, {4, 4, 4, 5, 8, 3}, {5, 4, 5, 5, 10, 4},
            {6, 6, 5, 7, 12, 4}, {0, 0, 0, 1, 0, 0}, {22, 22, 5, 23, 44, 4}};
        for (int s = 0; s < 6; s++) {
            Due.is("weighs", x.of(s, 5), weights[s]);
            for (int i = 0; i < 6; i++) {
                Due.is("feels(" + s + ", " + i + ")", x.feels(s, i), due[s][i]);
            }
        }
        for (int n : new int[] {LEAST, -1, 6, MOST}) {
            Due.bad(x, "feels(" + n + ", 0)", y -> y.feels(n, 0));
            Due.bad(x, "feels(0, " + n + ")", y -> y.feels(0, n));
        }
        SoulShore none = Shores.read(STILL + "soul 0 1 0;");
        Due.bad(none, "feels(0, 0) of no caller", y -> y.feels(0, 0));
    }

    private static void promise17Where() {
        Due.sentence("Promise 17: where");
        SoulShore x = Shores.read("shore 4 4 4 2 3 0 2 2 2 2 4 4;soul 0 1 0;soul 0 1 1;soul 0 1 3;soul 0 1 10;");
        for (int s : new int[] {LEAST, -1, 4, 6, MOST}) {
            Due.bad(x, "where(" + s + ", 0)", y -> y.where(s, 0));
        }
        for (int m : new int[] {LEAST, -1, 61, MOST}) {
            Due.bad(x, "where(0, " + m + ")", y -> y.where(0, m));
        }
        int[] due = {0, 2, 4, 5, 3, 3};
        for (int m = 0; m < due.length; m++) {
            Due.is("where(0, " + m + ")", x.where(0, m), due[m]);
        }
        Due.is("where(0, 60)", x.where(0, 60), 3);
        Due.is("where(3, 60)", x.where(3, 60), 11);
        Due.is("nothing has gone", x.of(0, 2), 0);
        x.tides(1);
        Due.is("from now on", x.where(0, 1), 4);
        x.soul(0, 1, 0);
        x.walks(-1);
        Due.is("not adrift", x.where(4, 0), -1);
        Due.is("not adrift", x.where(4, 60), -1);
        x.caller(0);
        x.calls(0);
        Due.is("held", x.where(4, 5), -1);
        for (int n = 0; n < 20; n++) {
            x.tides(60);
        }
        x.soul(0, 1, 0);
        Due.is("beyond 999", x.where(5, 3), 5);
    }

    private static void promise18Comes() {
        Due.sentence("Promise 18: comes");
        SoulShore x = Shores.read("shore 4 4 4 2 3 0 2 2 2 2 4 4;");
        for (int c : new int[] {LEAST, -1, 12, MOST}) {
            Due.bad(x, "comes(" + c + ", 0)", y -> y.comes(c, 0));
        }
        for (int m : new int[] {LEAST, -1, 61, MOST}) {
            Due.bad(x, "comes(0, " + m + ")", y -> y.comes(0, m));
        }
        Due.is("comes(3, 0)", x.comes(3, 0), 8);
        // 1 and 5 come to 3 at once, 3 stays; 4 comes behind 2, 2 behind 3, 0 behind 4
        Due.is("comes(3, 1)", x.comes(3, 1), 1 << 1 | 1 << 3 | 1 << 5);
        Due.is("comes(3, 2)", x.comes(3, 2), 1 << 1 | 1 << 3 | 1 << 5 | 1 << 4);
        Due.is("comes(3, 60)", x.comes(3, 60), 63);
        Due.is("comes(11, 1)", x.comes(11, 1), 1 << 10 | 1 << 11);
        Due.is("comes(0, 1)", x.comes(0, 1), 0);
        Due.is("comes(0, 0)", x.comes(0, 0), 1);
        Due.is("comes(6, 60)", x.comes(6, 60), 64);
    }

    private static void walkIs(SoulShore x, int souls, int... steps) {
        Due.asks(x, "walk(" + souls + ", -2)", y -> y.walk(souls, -2), steps.length);
        for (int k = 0; k < steps.length; k++) {
            Due.is("walk(" + souls + ", " + k + ")", x.walk(souls, k), steps[k] + 1);
        }
        Due.asks(x, "behind the last step", y -> y.walk(souls, steps.length), -5);
        Due.asks(x, "far behind the last step", y -> y.walk(souls, MOST), -5);
    }

    private static void promise19Walk() {
        Due.sentence("Promise 19: walk");
        SoulShore x = new SoulShore();
        walkIs(x, 0);
        Due.bad10(x, "walk(1, -2) of no soul", y -> y.walk(1, -2));
        x = Shores.read("shore 2 3 2 2 2 2 2 2 2 2 2 2;soul 0 1 1;soul 0 2 2;soul 0 3 4;");
        for (int souls : new int[] {LEAST, -1, 8, 64, MOST}) {
            Due.bad10(x, "walk(" + souls + ", -2)", y -> y.walk(souls, -2));
        }
        for (int k : new int[] {LEAST, -3, -1}) {
            Due.bad10(x, "walk(0, " + k + ")", y -> y.walk(0, k));
        }
        walkIs(x, 0);
        walkIs(x, 1, 1);
        // at 0 a step back is no step, and comes first
        walkIs(x, 2, 1, 1);
        walkIs(x, 4, 1, 1, 1, 1);
        walkIs(x, 7, 1, 1, 1, 1);
        x.walks(1);
        walkIs(x, 1);
        walkIs(x, 3, 1);
        Due.is("nothing has gone", x.count(3), 2);
        // it is at 8, 6, 4, 2, 2, .., so at 2 by the fourth walk; of all rows to 2 the first waits by steps back
        x = Shores.read("shore 2 2 2 2 0 2 0 2 0 2 0 2;soul 0 1 8;");
        walkIs(x, 1, -1, -1, 1, 1);
        promise19Far();
    }

    private static void promise19Far() {
        Due.sentence("Promise 19: walk");
        SoulShore x = Shores.read("shore 2 2 2 2 2 2 2 2 2 2 2 2;soul 0 1 0;soul 0 1 11;walk 2;");
        walkIs(x, 3, -1, 1, 1, 1, 1, 1, 1, 1, 1, 1, 1, 1);
        // just 20 steps
        x = farShore(new int[] {-2, -2, 1, 2, 2, -1, 1, 1, 1, 2, 1, 2}, new int[] {3, 4, 11, 1, 7, 2}, 9);
        walkIs(x, 63, -1, -1, -1, -1, -1, -1, -1, -1, -1, 1, 1, 1, 1, 1, 1, 1, 1, 1, 1, 1);
        // 21 steps: none, whatever k is, but a k that is not as told is BAD
        x = farShore(new int[] {-1, 2, -1, 1, 1, 2, 2, -1, 1, 2, 2, 0}, new int[] {6, 2, 5, 9, 0, 3}, 11);
        for (int k : new int[] {-2, 0, 19, 20, MOST}) {
            Due.asks(x, "walk(63, " + k + ")", y -> y.walk(63, k), -6);
        }
        Due.bad10(x, "walk(63, -1)", y -> y.walk(63, -1));
        // beyond 999
        x = Shores.read(STILL + "soul 0 1 4;");
        for (int n = 0; n < 17; n++) {
            x.tides(60);
        }
        walkIs(x, 1, 1, 1, 1, 1);
    }

    private static SoulShore farShore(int[] currents, int[] cells, int comber) {
        SoulShore x = new SoulShore();
        for (int c = 0; c < currents.length; c++) {
            x.current(c, currents[c]);
        }
        for (int n = 0; n < comber; n++) {
            x.walks(1);
        }
        for (int c : cells) {
            x.soul(0, 5, c);
        }
        return x;
    }

    private static void promise20Right() {
        Due.sentence("Promise 20: right");
        SoulShore x = Shores.shelf(0, 2, 0, 6, 0, 9);
        Due.is("right()", x.right(), 0);
        for (int i = 0; i < 4; i++) {
            x.caller(0);
        }
        x.calls(1);
        Due.is("right()", x.right(), 1);
        x.calls(2);
        x.calls(0);
        Due.is("right()", x.right(), 3);
        x.returns(0);
        Due.is("right()", x.right(), 2);
        Due.is("calls(3)", x.calls(3), 0);
        Due.is("right()", x.right(), 2);
    }

    private static void orderIs(SoulShore x, int right, int... row) {
        Due.asks(x, "order(-1)", y -> y.order(-1), right);
        for (int k = 0; k < row.length; k++) {
            Due.is("order(" + k + ")", x.order(k), row[k]);
        }
        Due.asks(x, "order behind the last", y -> y.order(row.length), -5);
        Due.asks(x, "order(MOST)", y -> y.order(MOST), -5);
    }

    private static void promise21Order() {
        Due.sentence("Promise 21: order");
        SoulShore x = new SoulShore();
        orderIs(x, 0);
        for (int k : new int[] {LEAST, -2}) {
            Due.bad10(x, "order(" + k + ")", y -> y.order(k));
        }
        x.caller(0);
        x.caller(1);
        orderIs(x, 0, 0, 1);
        // they weigh 6 and 5; caller 0 looks for 4, so he would take 1's, if he came first
        x = Shores.shelf(1, 4, 0, 5);
        x.caller(0);
        x.caller(0);
        Due.is("takes", x.about(0, 3), 1);
        orderIs(x, 2, 1, 0);
        Due.is("nobody has called", x.count(4), 2);
        // three: 1 has to go ahead of 0, 2 is none the worse at the end
        x.soul(0, 9, 11);
        x.caller(0);
        orderIs(x, 2, 1, 0, 2);
        x.calls(1);
        orderIs(x, 2, 0, 2);
        x.calls(0);
        orderIs(x, 2, 2);
        x.returns(0);
        x.returns(1);
        x.calls(2);
        Due.is("2 holds", x.about(2, 1), 0);
        orderIs(x, 1, 1, 0);
    }

    private static void swapsAre(int due, int... held) {
        // each soul is found and taken before the next one comes; what nobody is to hold stays adrift
        SoulShore x = new SoulShore();
        for (int n = 0; n < held.length; n++) {
            x.caller(0);
        }
        for (int s = 0; s < 6; s++) {
            int holder = -1;
            for (int i = 0; i < held.length; i++) {
                holder = held[i] == s ? i : holder;
            }
            x.soul(0, 5, holder < 0 ? 11 : 0);
            x.walks(0);
            x.calls(holder);
        }
        for (int i = 0; i < held.length; i++) {
            Due.is("holds", x.about(i, 1), held[i]);
        }
        Due.asks(x, "swaps() of " + Arrays.toString(held), SoulShore::swaps, due);
    }

    private static void promise22Swaps() {
        Due.sentence("Promise 22: swaps");
        Due.is("swaps()", new SoulShore().swaps(), 0);
        swapsAre(0, -1, -1);
        swapsAre(0, 0, 1, 2, 3, 4, 5);
        swapsAre(1, 1, 0, 2, 3, 4, 5);
        swapsAre(2, 1, 2, 0, -1, -1, -1);
        swapsAre(5, 1, 2, 3, 4, 5, 0);
        swapsAre(3, 1, 0, 3, 2, 5, 4);
        swapsAre(1, 1, -1);
        swapsAre(2, 1, 2, -1);
        swapsAre(5, 1, 2, 3, 4, 5, -1);
        swapsAre(0, 5, -1, 2);
        swapsAre(1, 1, 4);
        swapsAre(2, 5, 2, 0, -1);
        swapsAre(3, 1, 2, 3, -1, -1);
    }

    private static void promise23Seen() {
        Due.sentence("Promise 23: seen");
        SoulShore x = new SoulShore();
        for (int m : new int[] {LEAST, -1, 61, MOST}) {
            Due.bad(x, "seen(" + m + ", 0)", y -> y.seen(m, 0));
        }
        for (int c : new int[] {LEAST, -1, 12, MOST}) {
            Due.bad(x, "seen(0, " + c + ")", y -> y.seen(0, c));
        }
        Due.is("seen(60, 11)", x.seen(60, 11), 1);
        for (int n = 2; n <= 5; n++) {
            Due.is("seen(0, 0)", x.seen(0, 0), n);
        }
        Due.full(x, "a 6th", y -> y.seen(0, 0));
        Due.bad(x, "BAD ahead of FULL", y -> y.seen(0, 12));
        Due.is("count(6)", x.count(6), 5);
    }

    private static void promise24Which() {
        Due.sentence("Promise 24: which");
        SoulShore x = new SoulShore();
        Due.is("which()", x.which(), 0);
        x = Shores.read("shore 3 3 3 3 3 2 2 2 2 2 2 2;soul 0 1 0;soul 0 1 3;soul 0 1 5;soul 0 1 11;");
        Due.is("which()", x.which(), 15);
        x.seen(60, 5);
        Due.is("which()", x.which(), 7);
        x.seen(2, 5);
        Due.is("which()", x.which(), 6);
        x.seen(0, 3);
        Due.is("which()", x.which(), 2);
        x.tides(1);
        Due.is("as it is when asked", x.which(), 0);
        x.undo();
        x.seen(1, 5);
        Due.is("by all", x.which(), 0);
        x.forget(0);
        x.soul(0, 1, 1);
        x.walks(1);
        Due.is("those adrift alone", x.which(), 15);
        x.seen(2, 3);
        Due.is("which()", x.which(), 1);
    }

    private static void promise25Tell() {
        Due.sentence("Promise 25: tell");
        SoulShore x = new SoulShore();
        Due.is("tell()", x.tell(), -1);
        x = Shores.read("shore 3 3 3 3 3 2 2 2 2 2 2 2;soul 0 1 0;soul 0 1 3;");
        Due.asks(x, "tell()", SoulShore::tell, 0);
        x.seen(0, 9);
        Due.is("tell()", x.tell(), -1);
        x.forget(0);
        x.tides(20);
        Due.is("tell() of two in one cell", x.tell(), 0);
        x.shore();
        x.soul(0, 1, 0);
        x.walks(0);
        Due.is("tell() of none adrift", x.tell(), -1);
    }

    private static void promise26Note() {
        Due.sentence("Promise 26: note");
        SoulShore x = new SoulShore();
        Due.bad(x, "note of no soul", y -> y.note(0, 1, 0, 0));
        x.soul(0, 1, 0);
        for (int s : new int[] {LEAST, -1, 1, 6, MOST}) {
            Due.bad(x, "note(" + s + ")", y -> y.note(s, 1, 0, 0));
        }
        for (int w : new int[] {LEAST, 0, 10, MOST}) {
            Due.bad(x, "note(0, " + w + ")", y -> y.note(0, w, 0, 0));
        }
        for (int d : new int[] {LEAST, -1, 100, MOST}) {
            Due.bad(x, "note(0, 1, " + d + ")", y -> y.note(0, 1, d, 0));
        }
        for (int v : new int[] {LEAST, -1, 31, MOST}) {
            Due.bad(x, "note(0, 1, 0, " + v + ")", y -> y.note(0, 1, 0, v));
        }
        Due.is("note", x.note(0, 9, 99, 30), 1);
        for (int n = 2; n <= 6; n++) {
            Due.is("note", x.note(0, 1, 0, 0), n);
        }
        Due.full(x, "a 7th", y -> y.note(0, 1, 0, 0));
        Due.bad(x, "BAD ahead of FULL", y -> y.note(1, 1, 0, 0));
        Due.is("count(7)", x.count(7), 6);
    }

    private static void promise27Mark() {
        Due.sentence("Promise 27: mark");
        SoulShore x = new SoulShore();
        Due.bad(x, "mark of no caller", y -> y.mark(0, 0, 0));
        x.caller(0);
        for (int i : new int[] {LEAST, -1, 1, 6, MOST}) {
            Due.bad(x, "mark(" + i + ")", y -> y.mark(i, 0, 0));
        }
        for (int v : new int[] {LEAST, -1, 31, MOST}) {
            Due.bad(x, "mark(0, " + v + ")", y -> y.mark(0, v, 0));
        }
        for (int v : new int[] {LEAST, -1, 61, MOST}) {
            Due.bad(x, "mark(0, 0, " + v + ")", y -> y.mark(0, 0, v));
        }
        Due.is("mark", x.mark(0, 30, 60), 1);
        for (int n = 2; n <= 6; n++) {
            Due.is("mark", x.mark(0, 0, 0), n);
        }
        Due.full(x, "a 7th", y -> y.mark(0, 0, 0));
        Due.bad(x, "BAD ahead of FULL", y -> y.mark(1, 0, 0));
        Due.is("count(8)", x.count(8), 6);
    }

    private static void promise28Forget() {
        Due.sentence("Promise 28: forget");
        SoulShore x = Shores.read(STILL + "soul 0 1 0;caller 0;");
        x.seen(1, 1);
        x.note(0, 1, 1, 1);
        x.note(0, 1, 1, 1);
        x.mark(0, 1, 1);
        x.mark(0, 1, 1);
        x.mark(0, 1, 1);
        for (int what : new int[] {LEAST, -1, 3, MOST}) {
            Due.bad(x, "forget(" + what + ")", y -> y.forget(what));
        }
        Due.is("forget(1)", x.forget(1), 2);
        Shores.counts(x, 1, 1, 0, 1, 0, 0, 1, 0, 3);
        Due.is("forget(0)", x.forget(0), 1);
        Shores.counts(x, 1, 1, 0, 1, 0, 0, 0, 0, 3);
        Due.is("forget(2)", x.forget(2), 3);
        Shores.counts(x, 1, 1, 0, 1, 0, 0, 0, 0, 0);
        Due.is("forget(2) of none", x.forget(2), 0);
        Due.is("note anew", x.note(0, 1, 1, 1), 1);
    }

    private static void promise29Is() {
        Due.sentence("Promise 29: is");
        SoulShore x = new SoulShore();
        Due.bad(x, "is(0) of none", y -> y.is(0));
        x.soul(0, 5, 0);
        x.soul(0, 5, 0);
        for (int s : new int[] {LEAST, -1, 2, 6, MOST}) {
            Due.bad(x, "is(" + s + ")", y -> y.is(s));
        }
        Due.is("is(0)", x.is(0), 63);
        x.note(0, 4, 1, 6);
        // 4 by 1: 4, 6, 2, 6, 2, 6
        Due.is("is(0)", x.is(0), 2 | 8 | 32);
        Due.is("is(1) has no note", x.is(1), 63);
        x.note(0, 4, 3, 12);
        Due.is("is(0)", x.is(0), 8);
        x.note(0, 4, 3, 13);
        Due.is("is(0)", x.is(0), 0);
        x.note(1, 3, 4, 2);
        Due.is("is(1)", x.is(1), 4 | 16);
        x.note(1, 3, 5, 0);
        Due.is("is(1)", x.is(1), 16);
    }

    private static void promise30Look() {
        Due.sentence("Promise 30: look");
        SoulShore x = new SoulShore();
        Due.bad(x, "look(0) of none", y -> y.look(0));
        x.soul(0, 4, 0);
        for (int s : new int[] {LEAST, -1, 1, 6, MOST}) {
            Due.bad(x, "look(" + s + ")", y -> y.look(s));
        }
        // 4 by 0: 4 6 2 6 2 7, two alike at most; by no dryness are all unlike
        Due.is("look(0) of all kinds", x.look(0), 0);
        x.note(0, 4, 1, 6);
        // 1, 3, 5: by 0 6 6 7, by 1 6 6 6, by 3 6 12 4
        Due.is("look(0) of 1, 3, 5", x.look(0), 3);
        x.forget(1);
        x.note(0, 1, 0, 1);
        // 0, 2, 4: by 0 4 2 2, by 5 4 2 0
        Due.is("look(0) of 0, 2, 4", x.look(0), 5);
        x.note(0, 1, 1, 2);
        Due.is("look(0) of none", x.look(0), -1);
        x.forget(1);
        x.note(0, 4, 3, 12);
        Due.asks(x, "look(0) of one", y -> y.look(0), 0);
        // 2 and 5 alike: the soul's own weight counts, not the one noted
        SoulShore light = Shores.read(STILL + "soul 0 1 0;");
        light.note(0, 1, 0, 1);
        Due.is("look(0) of 1, 1, 1", light.look(0), 5);
    }

    private static void promise31Kinds() {
        Due.sentence("Promise 31: kinds");
        SoulShore x = new SoulShore();
        Due.bad(x, "kinds(0) of none", y -> y.kinds(0));
        x.caller(0);
        x.caller(0);
        for (int i : new int[] {LEAST, -1, 2, 6, MOST}) {
            Due.bad(x, "kinds(" + i + ")", y -> y.kinds(i));
        }
        Due.is("kinds(0)", x.kinds(0), 63);
        // 5: 5 4 5 5 10 4
        x.mark(0, 5, 5);
        Due.is("kinds(0)", x.kinds(0), 1 | 4 | 8);
        Due.is("kinds(1) has no mark", x.kinds(1), 63);
        x.mark(0, 6, 7);
        Due.is("kinds(0)", x.kinds(0), 8);
        x.mark(1, 5, 4);
        Due.is("kinds(1)", x.kinds(1), 2 | 32);
        x.mark(1, 6, 6);
        Due.is("kinds(1)", x.kinds(1), 2);
        x.mark(1, 6, 5);
        Due.is("kinds(1)", x.kinds(1), 0);
    }

    private static void promise32Ask() {
        Due.sentence("Promise 32: ask");
        SoulShore x = new SoulShore();
        Due.bad(x, "ask(0) of none", y -> y.ask(0));
        x.caller(0);
        for (int i : new int[] {LEAST, -1, 1, 6, MOST}) {
            Due.bad(x, "ask(" + i + ")", y -> y.ask(i));
        }
        // 6: 6 6 5 7 12 4, two alike, and by no weight ahead of it
        Due.is("ask(0) of all kinds", x.ask(0), 6);
        x.mark(0, 5, 5);
        // 0, 2, 3: 0: 0 0 1; 6: 6 5 7
        Due.is("ask(0) of 0, 2, 3", x.ask(0), 6);
        x.forget(2);
        x.mark(0, 0, 0);
        // all but 3: by 7: 7 6 5 14 4
        Due.is("ask(0) of all but 3", x.ask(0), 7);
        x.mark(0, 5, 4);
        // 1, 5: 0: 0 0; 2: 2 1
        Due.is("ask(0) of 1, 5", x.ask(0), 2);
        x.mark(0, 9, 4);
        Due.asks(x, "ask(0) of one", y -> y.ask(0), 0);
        x.mark(0, 9, 5);
        Due.is("ask(0) of none", x.ask(0), -1);
    }

    private static void claimIs(SoulShore x, int a, int b, int s, int... pairs) {
        Due.asks(x, "claim(-1)", y -> y.claim(a, b, s, -1), pairs.length);
        for (int k = 0; k < pairs.length; k++) {
            Due.is("claim(" + k + ")", x.claim(a, b, s, k), pairs[k]);
        }
        Due.asks(x, "claim behind the last", y -> y.claim(a, b, s, pairs.length), -5);
        Due.asks(x, "claim(MOST)", y -> y.claim(a, b, s, MOST), -5);
    }

    private static void promise33Claim() {
        Due.sentence("Promise 33: claim");
        SoulShore x = new SoulShore();
        Due.bad10(x, "claim of none", y -> y.claim(0, 1, 0, -1));
        x = Shores.read(STILL + "soul 0 5 0;soul 0 5 0;soul 3 9 0;soul 0 5 0;caller 0;caller 0;caller 4;walk 1;tides 3;");
        for (int n : new int[] {LEAST, -1, 3, 6, MOST}) {
            Due.bad10(x, "claim(" + n + ", 0, 0, -1)", y -> y.claim(n, 0, 0, -1));
            Due.bad10(x, "claim(0, " + n + ", 0, -1)", y -> y.claim(0, n, 0, -1));
        }
        for (int n : new int[] {LEAST, -1, 4, 6, MOST}) {
            Due.bad10(x, "claim(0, 1, " + n + ", -1)", y -> y.claim(0, 1, n, -1));
        }
        Due.bad10(x, "claim of one with himself", y -> y.claim(1, 1, 0, -1));
        Due.bad10(x, "claim(-2)", y -> y.claim(0, 1, 0, -2));
        Due.bad10(x, "claim(LEAST)", y -> y.claim(0, 1, 0, LEAST));
        // 9 and half of the claim to who has it: b goes below all but 0; a goes up to 2, if b claims more than 1
        claimIs(x, 0, 1, 0, 0, 1);
        // it feels 22, 5 is looked for: 8 and less is lost by having it, so b claims 9, and a what costs least
        Due.is("weighs", x.of(2, 5), 22);
        claimIs(x, 0, 1, 2, 89, 99);
        // caller 2, rich, looks for 9 and feels 10: 8 are left, so the same
        claimIs(x, 2, 0, 0, 0, 1);
        // 1 looks for 1 and feels 18: he wants not to have it, so 0 has it by the most half that still wins
        x = Shores.read(STILL + "soul 0 9 0;soul 0 1 0;caller 0;caller 4;");
        claimIs(x, 0, 1, 0, 0, 1, 11, 22, 23, 33, 44, 45, 55, 66, 67, 77, 88, 89, 99);
        claimIs(x, 1, 0, 0, 10, 20, 21, 32, 42, 43, 54, 64, 65, 76, 86, 87, 98);
    }

    private static void promise34Gulls() {
        Due.sentence("Promise 34: gulls");
        SoulShore x = new SoulShore();
        for (int c : new int[] {LEAST, -1, 11, MOST}) {
            Due.bad(x, "gulls(" + c + ")", y -> y.gulls(c));
        }
        Due.is("gulls(3)", x.gulls(3), 1);
        Shores.fraction(x, 0, 1);
        x = Shores.read(STILL + "soul 1 3 0;soul 3 1 4;soul 0 9 0;soul 2 3 1;walk 1;soul 5 1 11;");
        // adrift: 3, 2, 4
        int[][] due = {{9, 1}, {81, 10}, {36, 5}, {63, 10}, {27, 5}, {9, 2}, {18, 5}, {27, 10}, {9, 5}, {9, 10}, {0, 1}};
        for (int c = 0; c <= 10; c++) {
            Due.is("gulls(" + c + ")", x.gulls(c), 1);
            Shores.fraction(x, due[c][0], due[c][1]);
        }
        Due.is("none is taken", x.count(3), 3);
        x.gulls(3);
        Due.bad(x, "gulls(11)", y -> y.gulls(11));
        Shores.fraction(x, 63, 10);
    }

    private static void promise35Years() {
        Due.sentence("Promise 35: years");
        SoulShore x = new SoulShore();
        for (int seed : new int[] {LEAST, -1, 1000000, MOST}) {
            Due.bad(x, "years(" + seed + ", 1)", y -> y.years(seed, 1));
        }
        for (int n : new int[] {LEAST, -1, 61, MOST}) {
            Due.bad(x, "years(1, " + n + ")", y -> y.years(1, n));
        }
        Due.is("years(999999, 60)", x.years(999999, 60), 0);
        // by 0: X is 12345 first, so walk 0 % 3 - 1 = -1, caller 0
        Due.is("years(0, 1)", Shores.read(STILL + "soul 0 1 0;caller 0;").years(0, 1), 1);
        // by 1: X is 1103527590 first, so walk 16838 % 3 - 1 = 1, caller 1052 % 6 = 2
        x = Shores.read(STILL + "soul 0 1 0;soul 0 2 0;soul 0 3 1;caller 0;caller 0;caller 0;walk 1;");
        Due.is("years(1, 0)", x.years(1, 0), 0);
        Due.asks(x, "years(1, 1)", y -> y.years(1, 1), 1);
        Due.is("it is not so yet", x.right(), 0);
        Due.is("looked for by none", Shores.read(STILL + "soul 0 1 0;caller 0;walk 1;").years(1, 1), 0);
        x.calls(0);
        Due.is("years behind a call", x.years(1, 1), 2);
        Due.is("years(1, 60)", x.years(1, 60) >= 2 ? 1 : 0, 1);
    }

    private static void promise36Part() {
        Due.sentence("Promise 36: part");
        SoulShore x = Shores.read(STILL + "soul 0 5 0;");
        Shores.fraction(x, 0, 1);
        x.gulls(3);
        Shores.fraction(x, 7, 2);
        for (int what : new int[] {LEAST, -1, 2, MOST}) {
            Due.bad(x, "part(" + what + ")", y -> y.part(what));
        }
        x.shore();
        Shores.fraction(x, 7, 2);
    }

    private static void promise37Image() {
        Due.sentence("Promise 37: image");
        SoulShore x = new SoulShore();
        for (int i : new int[] {LEAST, -1, 2, MOST}) {
            Due.bad(x, "image(" + i + ")", y -> y.image(i));
        }
        x.soul(0, 1, 0);
        Due.asks(x, "image(0)", y -> y.image(0), 1);
        x.soul(0, 2, 0);
        Due.is("image(1)", x.image(1), 1);
        x.soul(0, 3, 0);
        x.from(0);
        Due.is("of 0", x.count(0), 1);
        x.from(1);
        Due.is("of 1", x.count(0), 2);
        x.shore();
        x.image(0);
        x.from(1);
        x.from(0);
        Due.is("kept anew", x.count(0), 0);
    }

    private static void promise38From() {
        Due.sentence("Promise 38: from");
        SoulShore x = new SoulShore();
        for (int i : new int[] {LEAST, -1, 2, MOST}) {
            Due.bad(x, "from(" + i + ")", y -> y.from(i));
        }
        Due.no(x, "from(0)", y -> y.from(0));
        Due.told(x, "shore 0 1 2 3 4 4 3 2 1 0 0 1;soul 3 9 4;soul 1 1 8;soul 0 2 0;caller 3;caller 4;walk 1;call 0;");
        x.tides(7);
        x.walks(1);
        x.returns(0);
        x.seen(3, 3);
        x.note(0, 1, 2, 3);
        x.mark(0, 1, 2);
        long digest = x.digest();
        Due.is("image(1)", x.image(1), 1);
        Due.no(x, "from(0)", y -> y.from(0));
        x.undo();
        x.undo();
        x.forget(0);
        x.forget(1);
        x.forget(2);
        x.current(0, 2);
        x.shore();
        x.soul(0, 1, 1);
        x.caller(0);
        x.gulls(1);
        x.type(65);
        Due.is("from(1)", x.from(1), 1);
        Due.is("text stays", x.clear() > 0 ? 1 : 0, 1);
        Shores.fraction(x, 9, 10);
        x.shore();
        Due.is("from(1) once more", x.from(1), 1);
        Due.told(x, STILL);
        x.from(1);
        Shores.counts(x, 3, 2, 9, 2, 1, 1, 1, 1, 1, 3, 30);
        Due.is("current", x.comes(0, 1), 1 | 2);
        Due.is("undo() of what it kept", x.undo(), 9);
        Due.is("held then", x.of(2, 3), 0);
        Due.is("undo()", x.undo(), 8);
        Due.is("undo()", x.undo(), 1);
        x.from(1);
        x.walks(1);
        x.undo();
        x.undo();
        x.from(1);
        Due.is("undo() stays in the image", x.undo(), 9);
        SoulShore y = new SoulShore();
        Due.told(y, "shore 0 1 2 3 4 4 3 2 1 0 0 1;soul 3 9 4;soul 1 1 8;soul 0 2 0;caller 3;caller 4;walk 1;call 0;");
        y.image(0);
        y.tides(7);
        y.walks(1);
        y.returns(0);
        y.seen(3, 3);
        y.note(0, 1, 2, 3);
        y.mark(0, 1, 2);
        y.image(1);
        y.from(0);
        y.from(1);
        Due.is("the same digest", y.digest(), digest);
    }

    private static void promise39Status() {
        Due.sentence("Promise 39: status");
        SoulShore x = new SoulShore();
        Due.refused(x, "status(3)", y -> y.status(3), -1, 0);
        Due.refused(x, "status(-1)", y -> y.status(-1), -1, 0);
        Due.refused(x, "status(LEAST)", y -> y.status(LEAST), -1, 0);
        Due.refused(x, "status(MOST)", y -> y.status(MOST), -1, 0);
        Due.is("status(0)", x.status(0), 4);
        x.undo();
        x.walk(0, -1);
        x.order(-2);
        x.order(5);
        x.read();
        for (int n = 0; n < 151; n++) {
            x.type(5);
        }
        Due.is("status(0)", x.status(0), 6);
        Due.is("status(1)", x.status(1), 1);
        Due.is("status(2)", x.status(2), 1);
        x.image(0);
        x.caller(9);
        x.from(0);
        x.shore();
        Due.is("status(0) stays", x.status(0), 7);
    }

    private static void promise40Count() {
        Due.sentence("Promise 40: count");
        SoulShore x = Shores.read(STILL
            + "soul 0 5 0;soul 0 5 0;soul 0 5 1;soul 0 5 7;soul 0 5 7;caller 0;walk 1;walk 2;call 0;");
        x.tides(1);
        x.tides(1);
        x.seen(1, 1);
        for (int n = 0; n < 3; n++) {
            x.note(0, 1, 1, 1);
        }
        for (int n = 0; n < 4; n++) {
            x.mark(0, 1, 1);
        }
        Due.type(x, "abcdefgh");
        Shores.counts(x, 5, 1, 4, 2, 2, 1, 1, 3, 4, 2, 8);
        for (int what : new int[] {LEAST, -1, 11, MOST}) {
            Due.bad(x, "count(" + what + ")", y -> y.count(what));
        }
    }

    private static long mixed(long... values) {
        long h = 1613;
        for (long v : values) {
            h = 31 * h + v;
        }
        return h;
    }

    private static void promise41Digest() {
        Due.sentence("Promise 41: digest");
        SoulShore x = new SoulShore();
        long[] empty = new long[25];
        empty[24] = 1;
        Due.is("digest()", x.digest(), mixed(empty));
        x = Shores.read("shore 0 1 2 3 4 0 1 2 3 4 0 1;soul 3 9 0;soul 4 7 0;soul 1 1 1;walk 0;caller 5;caller 2;call 1;");
        x.tides(2);
        x.seen(60, 11);
        x.seen(1, 2);
        x.note(2, 3, 4, 5);
        x.mark(1, 6, 7);
        x.mark(0, 8, 9);
        x.gulls(1);
        Due.type(x, "ab");
        // soul 1 weighs 4 and feels 4, 0 weighs 11 and feels 5; caller 1 looks for 7: 0 is nearer
        Due.is("held", x.about(1, 1), 0);
        Due.asks(x, "digest()", SoulShore::digest, mixed(
            3, 2, 3, 1, 1, 0, 2, 1, 2, 1, 2,
            -2, -1, 0, 1, 2, -2, -1, 0, 1, 2, -2, -1,
            3, 9, -1, 1, 1,
            4, 7, -1, -1, 3,
            1, 1, 0, -1, 0,
            5, 2,
            60, 11, 1, 2,
            2, 3, 4, 5,
            1, 6, 7, 0, 8, 9,
            27, 10));
    }
}
