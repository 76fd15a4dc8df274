import java.util.ArrayList;
import java.util.List;

/**
 * What a call must not change: a refused one nothing but STATUS, one that asks nothing at all. Each is called on
 * a shore that has a twin; behind it both are followed through all that they keep.
 */
public final class StaysTest {
    private static final int LEAST = Shores.LEAST, MOST = Shores.MOST;

    public static void main(String[] args) {
        refusedOnFull();
        refusedOnEmpty();
        refusedAt999();
        asked();
        askedOnEmpty();
        asksOneBehindTheOther();
        gullsAlone();
        imageAlone();
        shoreAnew();
        Due.end();
    }

    /** All rows full, eight that may be undone, both images kept, a text that can be read, a fraction. */
    private static SoulShore full() {
        SoulShore x = new SoulShore();
        Due.type(x, "shore 0 1 2 3 4 0 1 2 3 4 0 1;soul 5 9 0;soul 1 2 3;caller 2;walk 2;walk 0;call 0;");
        while (x.count(10) < 150) {
            x.type(' ');
        }
        int[] cells = {0, 0, 1, 7, 9, 11};
        int[] currents = {0, 0, 1, 2, -1, 0, -2, 1, -1, 0, 1, -1};
        for (int n = 0; n < 6; n++) {
            x.soul(n, 1 + n, cells[n]);
            x.caller(5 - n);
        }
        for (int c = 0; c <= 11; c++) {
            x.current(c, currents[c]);
        }
        x.image(1);
        int[] weighed = {5, 7, 3, 7, 0, 8};
        int[] felt = {4, 10, 7, 5, 4, 5};
        for (int n = 0; n < 6; n++) {
            x.note(n, 5, n == 4 ? 5 : 0, weighed[n]);
            x.mark(n, n == 2 ? 6 : 5, felt[n]);
            x.seen(n, 9);
        }
        x.walks(0);
        x.tides(2);
        x.calls(1);
        x.walks(1);
        x.image(0);
        x.calls(4);
        x.returns(1);
        x.tides(1);
        x.calls(2);
        x.walks(1);
        x.walks(1);
        x.gulls(7);
        return x;
    }

    private static SoulShore empty() {
        return new SoulShore();
    }

    private static SoulShore at999() {
        SoulShore x = Shores.pass(Shores.callers(Shores.shelf(0, 5), 0, 0), 990);
        x.calls(0);
        x.tides(60);
        return x;
    }

    /** All that a shore answers from here on: asked, undone, from its images, from its text. */
    private static List<Long> followed(SoulShore x) {
        List<Long> all = new ArrayList<>();
        for (int what = 0; what <= 2; what++) {
            all.add((long) x.status(what));
        }
        state(x, all);
        undone(x, all);
        for (int i = 0; i <= 1; i++) {
            all.add((long) x.from(i));
            state(x, all);
            undone(x, all);
        }
        all.add((long) x.read());
        state(x, all);
        all.add((long) x.clear());
        return all;
    }

    private static void state(SoulShore x, List<Long> all) {
        all.add(x.digest());
        all.add(x.part(0));
        all.add(x.part(1));
        all.add((long) x.which());
        all.add((long) x.order(-1));
        all.add((long) x.swaps());
    }

    private static void undone(SoulShore x, List<Long> all) {
        for (int n = 0; n < 9; n++) {
            all.add((long) x.undo());
            all.add(x.digest());
        }
    }

    private interface Made {
        SoulShore make();
    }

    /** reason: 0 BAD, 1 NO, 2 FULL, -1 none. */
    private static void stays(Made made, String call, Due.Call c, long answer, int reason) {
        SoulShore x = made.make();
        Due.is(call, c.on(x), answer);
        List<Long> got = followed(x);
        List<Long> due = followed(made.make());
        if (reason >= 0) {
            due.set(reason, due.get(reason) + 1);
        }
        Due.is("rows behind " + call, got.size(), due.size());
        for (int n = 0; n < due.size(); n++) {
            Due.is("row " + n + " behind " + call, got.get(n), due.get(n));
        }
    }

    private static void bad(Made made, String call, Due.Call c) {
        stays(made, call, c, -2, 0);
    }

    private static void bad10(Made made, String call, Due.Call c) {
        stays(made, call, c, -10, 0);
    }

    private static void no(Made made, String call, Due.Call c) {
        stays(made, call, c, -3, 1);
    }

    private static void full(Made made, String call, Due.Call c) {
        stays(made, call, c, -4, 2);
    }

    private static void asks(Made made, String call, Due.Call c, long answer) {
        stays(made, call, c, answer, -1);
    }

    private static void refusedOnFull() {
        Due.sentence("Refused, changing nothing but STATUS");
        Made made = StaysTest::full;
        Due.is("count(9)", full().count(9), 8);
        for (int wrong : new int[] {LEAST, -3, 12, MOST}) {
            bad10(made, "current(" + wrong + ", 1)", x -> x.current(wrong, 1));
            bad10(made, "current(1, " + wrong + ")", x -> x.current(1, wrong));
            bad(made, "soul(" + wrong + ", 1, 1)", x -> x.soul(wrong, 1, 1));
            bad(made, "soul(1, " + wrong + ", 1)", x -> x.soul(1, wrong, 1));
            bad(made, "soul(1, 1, " + wrong + ")", x -> x.soul(1, 1, wrong));
            bad(made, "caller(" + wrong + ")", x -> x.caller(wrong));
            bad(made, "walks(" + wrong + ")", x -> x.walks(wrong));
            bad(made, "calls(" + wrong + ")", x -> x.calls(wrong));
            bad(made, "returns(" + wrong + ")", x -> x.returns(wrong));
            bad(made, "of(" + wrong + ", 0)", x -> x.of(wrong, 0));
            bad(made, "of(0, " + wrong + ")", x -> x.of(0, wrong));
            bad(made, "about(" + wrong + ", 0)", x -> x.about(wrong, 0));
            bad(made, "about(0, " + wrong + ")", x -> x.about(0, wrong));
            bad(made, "feels(" + wrong + ", 0)", x -> x.feels(wrong, 0));
            bad(made, "feels(0, " + wrong + ")", x -> x.feels(0, wrong));
            bad(made, "where(" + wrong + ", 0)", x -> x.where(wrong, 0));
            bad(made, "comes(" + wrong + ", 0)", x -> x.comes(wrong, 0));
            bad(made, "seen(0, " + wrong + ")", x -> x.seen(0, wrong));
            bad(made, "note(" + wrong + ", 1, 1, 1)", x -> x.note(wrong, 1, 1, 1));
            bad(made, "note(1, " + wrong + ", 1, 1)", x -> x.note(1, wrong, 1, 1));
            bad(made, "mark(" + wrong + ", 1, 1)", x -> x.mark(wrong, 1, 1));
            bad(made, "forget(" + wrong + ")", x -> x.forget(wrong));
            bad(made, "is(" + wrong + ")", x -> x.is(wrong));
            bad(made, "look(" + wrong + ")", x -> x.look(wrong));
            bad(made, "kinds(" + wrong + ")", x -> x.kinds(wrong));
            bad(made, "ask(" + wrong + ")", x -> x.ask(wrong));
            bad10(made, "claim(" + wrong + ", 1, 0, -1)", x -> x.claim(wrong, 1, 0, -1));
            bad10(made, "claim(1, " + wrong + ", 0, -1)", x -> x.claim(1, wrong, 0, -1));
            bad10(made, "claim(1, 0, " + wrong + ", -1)", x -> x.claim(1, 0, wrong, -1));
            bad(made, "gulls(" + wrong + ")", x -> x.gulls(wrong));
            bad(made, "part(" + wrong + ")", x -> x.part(wrong));
            bad(made, "image(" + wrong + ")", x -> x.image(wrong));
            bad(made, "from(" + wrong + ")", x -> x.from(wrong));
            bad(made, "count(" + wrong + ")", x -> x.count(wrong));
            stays(made, "status(" + wrong + ")", x -> x.status(wrong), -1, 0);
        }
        for (int wrong : new int[] {LEAST, -1, 1000000, MOST}) {
            bad(made, "type(" + wrong + ")", x -> x.type(wrong));
            bad(made, "tides(" + wrong + ")", x -> x.tides(wrong));
            bad(made, "where(0, " + wrong + ")", x -> x.where(0, wrong));
            bad(made, "comes(0, " + wrong + ")", x -> x.comes(0, wrong));
            bad10(made, "walk(" + wrong + ", -2)", x -> x.walk(wrong, -2));
            bad(made, "seen(" + wrong + ", 0)", x -> x.seen(wrong, 0));
            bad(made, "note(1, 1, " + wrong + ", 1)", x -> x.note(1, 1, wrong, 1));
            bad(made, "note(1, 1, 1, " + wrong + ")", x -> x.note(1, 1, 1, wrong));
            bad(made, "mark(1, " + wrong + ", 1)", x -> x.mark(1, wrong, 1));
            bad(made, "mark(1, 1, " + wrong + ")", x -> x.mark(1, 1, wrong));
            bad(made, "years(" + wrong + ", 0)", x -> x.years(wrong, 0));
            bad(made, "years(0, " + wrong + ")", x -> x.years(0, wrong));
        }
        for (int k : new int[] {LEAST, -3, -1}) {
            bad10(made, "walk(0, " + k + ")", x -> x.walk(0, k));
        }
        for (int k : new int[] {LEAST, -3, -2}) {
            bad10(made, "order(" + k + ")", x -> x.order(k));
            bad10(made, "claim(0, 1, 0, " + k + ")", x -> x.claim(0, 1, 0, k));
        }
        bad(made, "tides(0)", x -> x.tides(0));
        bad(made, "tides(61)", x -> x.tides(61));
        bad10(made, "claim(1, 1, 0, -1)", x -> x.claim(1, 1, 0, -1));
        full(made, "soul(1, 1, 1)", x -> x.soul(1, 1, 1));
        full(made, "caller(1)", x -> x.caller(1));
        full(made, "type(1)", x -> x.type(1));
        full(made, "seen(1, 1)", x -> x.seen(1, 1));
        full(made, "note(1, 1, 1, 1)", x -> x.note(1, 1, 1, 1));
        full(made, "mark(1, 1, 1)", x -> x.mark(1, 1, 1));
        int holds = full().about(2, 1) >= 0 ? 2 : 4;
        no(made, "calls(" + holds + "), he HOLDS one", x -> x.calls(holds));
        no(made, "returns(1), he HOLDS none", x -> x.returns(1));
    }

    private static void refusedOnEmpty() {
        Due.sentence("Refused, changing nothing but STATUS: on a new shore");
        Made made = StaysTest::empty;
        no(made, "undo()", SoulShore::undo);
        no(made, "from(0)", x -> x.from(0));
        no(made, "from(1)", x -> x.from(1));
        bad(made, "calls(0)", x -> x.calls(0));
        bad(made, "returns(0)", x -> x.returns(0));
        bad(made, "of(0, 0)", x -> x.of(0, 0));
        bad(made, "about(0, 0)", x -> x.about(0, 0));
        bad(made, "feels(0, 0)", x -> x.feels(0, 0));
        bad(made, "where(0, 0)", x -> x.where(0, 0));
        bad10(made, "walk(1, -2)", x -> x.walk(1, -2));
        bad(made, "note(0, 1, 0, 0)", x -> x.note(0, 1, 0, 0));
        bad(made, "mark(0, 0, 0)", x -> x.mark(0, 0, 0));
        bad(made, "is(0)", x -> x.is(0));
        bad(made, "look(0)", x -> x.look(0));
        bad(made, "kinds(0)", x -> x.kinds(0));
        bad(made, "ask(0)", x -> x.ask(0));
        bad10(made, "claim(0, 1, 0, -1)", x -> x.claim(0, 1, 0, -1));
    }

    private static void refusedAt999() {
        Due.sentence("Refused, changing nothing but STATUS: at TIDE 999");
        Made made = StaysTest::at999;
        for (int s = -1; s <= 1; s++) {
            int step = s;
            no(made, "walks(" + s + ")", x -> x.walks(step));
        }
        bad(made, "walks(2)", x -> x.walks(2));
        no(made, "calls(1), THE SHELF is empty", x -> x.calls(1));
        no(made, "calls(0), he HOLDS one", x -> x.calls(0));
    }

    private static void asked() {
        Due.sentence("Nothing is changed by these");
        Made made = StaysTest::full;
        SoulShore told = full();
        String[] names = {"right", "swaps", "which", "tell", "digest"};
        Due.Call[] plain = {SoulShore::right, SoulShore::swaps, SoulShore::which, SoulShore::tell, SoulShore::digest};
        for (int n = 0; n < names.length; n++) {
            asks(made, names[n] + "()", plain[n], plain[n].on(told));
        }
        for (int a = 0; a <= 5; a++) {
            int v = a;
            asks(made, "of(" + v + ", 5)", x -> x.of(v, 5), told.of(v, 5));
            asks(made, "about(" + v + ", 3)", x -> x.about(v, 3), told.about(v, 3));
            asks(made, "feels(" + v + ", " + v + ")", x -> x.feels(v, v), told.feels(v, v));
            asks(made, "where(" + v + ", 60)", x -> x.where(v, 60), told.where(v, 60));
            asks(made, "comes(" + v + ", 60)", x -> x.comes(v, 60), told.comes(v, 60));
            asks(made, "walk(63, " + v + ")", x -> x.walk(63, v), told.walk(63, v));
            asks(made, "order(" + v + ")", x -> x.order(v), told.order(v));
            asks(made, "is(" + v + ")", x -> x.is(v), told.is(v));
            asks(made, "look(" + v + ")", x -> x.look(v), told.look(v));
            asks(made, "kinds(" + v + ")", x -> x.kinds(v), told.kinds(v));
            asks(made, "ask(" + v + ")", x -> x.ask(v), told.ask(v));
            asks(made, "claim(0, 1, " + v + ", -1)", x -> x.claim(0, 1, v, -1), told.claim(0, 1, v, -1));
            asks(made, "years(" + v + ", 60)", x -> x.years(v, 60), told.years(v, 60));
            asks(made, "count(" + v + ")", x -> x.count(v), told.count(v));
        }
        asks(made, "walk(63, -2)", x -> x.walk(63, -2), told.walk(63, -2));
        asks(made, "walk(63, MOST)", x -> x.walk(63, MOST), told.walk(63, -2) == -6 ? -6 : -5);
        asks(made, "order(-1)", x -> x.order(-1), told.order(-1));
        asks(made, "order(MOST)", x -> x.order(MOST), -5);
        asks(made, "claim(0, 1, 0, MOST)", x -> x.claim(0, 1, 0, MOST), -5);
        asks(made, "part(1)", x -> x.part(1), told.part(1));
        asks(made, "status(0)", x -> x.status(0), told.status(0));
    }

    private static void askedOnEmpty() {
        Due.sentence("Nothing is changed by these: on a new shore");
        Made made = StaysTest::empty;
        asks(made, "right()", SoulShore::right, 0);
        asks(made, "swaps()", SoulShore::swaps, 0);
        asks(made, "which()", SoulShore::which, 0);
        asks(made, "tell()", SoulShore::tell, -1);
        asks(made, "order(-1)", x -> x.order(-1), 0);
        asks(made, "order(0)", x -> x.order(0), -5);
        asks(made, "walk(0, -2)", x -> x.walk(0, -2), 0);
        asks(made, "walk(0, 0)", x -> x.walk(0, 0), -5);
        asks(made, "years(999999, 60)", x -> x.years(999999, 60), 0);
        asks(made, "forget(0)", x -> x.forget(0), 0);
        asks(made, "forget(1)", x -> x.forget(1), 0);
        asks(made, "forget(2)", x -> x.forget(2), 0);
        asks(made, "shore()", SoulShore::shore, 0);
        asks(made, "clear()", SoulShore::clear, 0);
        asks(made, "read()", SoulShore::read, -10);
        asks(made, "gulls(0)", x -> x.gulls(0), 1);
    }

    /** What is asked in between changes no later answer. */
    private static void asksOneBehindTheOther() {
        Due.sentence("Nothing is changed by these: also not what is asked next");
        SoulShore x = full();
        int[] first = answers(x, true);
        int[] again = answers(x, false);
        for (int n = 0; n < first.length; n++) {
            Due.is("answer " + n, again[first.length - 1 - n], first[n]);
        }
    }

    private static int[] answers(SoulShore x, boolean rising) {
        Due.Call[] calls = {SoulShore::swaps, y -> y.walk(63, -2), y -> y.walk(5, 0), y -> y.order(-1), y -> y.order(0),
            SoulShore::tell, y -> y.look(2), y -> y.ask(3), y -> y.years(77, 40), SoulShore::which, y -> y.walk(1, -2),
            SoulShore::right, y -> y.claim(3, 2, 1, 0), y -> y.order(1), y -> y.years(78, 60), y -> y.comes(4, 9)};
        int[] got = new int[calls.length];
        for (int n = 0; n < calls.length; n++) {
            got[n] = (int) calls[rising ? n : calls.length - 1 - n].on(x);
        }
        return got;
    }

    private static void gullsAlone() {
        Due.sentence("GULLS are THE FRACTION");
        SoulShore x = full();
        List<Long> due = followed(full());
        x.gulls(7);
        List<Long> got = followed(x);
        for (int n = 0; n < due.size(); n++) {
            Due.is("row " + n + " behind gulls(7) again", got.get(n), due.get(n));
        }
    }

    /** What is made anew is as what is new, whatever was there before. */
    private static void shoreAnew() {
        Due.sentence("All as at first (but for IMAGES, THE TEXT, THE FRACTION, STATUS): how many SOULS there were");
        SoulShore x = full();
        SoulShore plain = full();
        Due.is("shore()", x.shore(), 6);
        Shores.counts(x, 0, 0, 0, 0, 0, 0, 0, 0, 0, 0, 150);
        Shores.fraction(x, 27, 5);
        Due.no(x, "undo()", SoulShore::undo);
        for (int c = 0; c <= 11; c++) {
            Due.is("comes(" + c + ", 1)", x.comes(c, 1), 1 << c);
            Due.is("current(" + c + ", 0)", x.current(c, 0), 0);
        }
        x.clear();
        x.gulls(0);
        Due.is("digest()", x.digest(), new SoulShore().digest());
        Due.is("shore() of nobody", x.shore(), 0);
        for (int i = 0; i <= 1; i++) {
            x.from(i);
            plain.from(i);
            Due.is("of() in image " + i, x.of(0, 4), plain.of(0, 4));
            Due.is("which() in image " + i, x.which(), plain.which());
            Due.is("count(9) in image " + i, x.count(9), plain.count(9));
        }
    }

    private static void imageAlone() {
        Due.sentence("An IMAGE is kept");
        SoulShore x = full();
        SoulShore plain = full();
        x.image(0);
        Due.is("digest()", x.digest(), plain.digest());
        Due.is("count(9)", x.count(9), plain.count(9));
        Due.is("from(1)", x.from(1), plain.from(1));
        Due.is("digest() of the other one", x.digest(), plain.digest());
    }
}
