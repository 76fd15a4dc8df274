/** Shores that tests begin with. */
final class Shores {
    static final String STILL = "shore 2 2 2 2 2 2 2 2 2 2 2 2;";
    static final int LEAST = Integer.MIN_VALUE, MOST = Integer.MAX_VALUE;

    private Shores() {
    }

    /** A shore told by a text, which is forgotten behind it. */
    static SoulShore read(String text) {
        SoulShore x = new SoulShore();
        if (Due.told(x, text) < 0) {
            Due.is("read() of " + text, x.read(), 1);
        }
        x.clear();
        return x;
    }

    /** Souls of these kinds and weights, on the shelf at once, DRY 1; the COMBER at 0, the TIDE 1, no caller. */
    static SoulShore shelf(int... kindsAndWeights) {
        SoulShore x = new SoulShore();
        for (int n = 0; n + 1 < kindsAndWeights.length; n += 2) {
            x.soul(kindsAndWeights[n], kindsAndWeights[n + 1], 0);
        }
        x.walks(0);
        return x;
    }

    static SoulShore callers(SoulShore x, int... kinds) {
        for (int kind : kinds) {
            x.caller(kind);
        }
        return x;
    }

    /** The COMBER goes on to a cell. */
    static SoulShore comberAt(SoulShore x, int c) {
        while (x.count(5) != c && x.count(2) < 999) {
            x.walks(x.count(5) < c ? 1 : -1);
        }
        return x;
    }

    /** So many tides go by. */
    static SoulShore pass(SoulShore x, int tides) {
        for (int left = tides; left > 0; left -= 60) {
            x.tides(Math.min(left, 60));
        }
        return x;
    }

    static void counts(SoulShore x, int... due) {
        for (int what = 0; what < due.length; what++) {
            Due.is("count(" + what + ")", x.count(what), due[what]);
        }
    }

    static void fraction(SoulShore x, int above, int below) {
        Due.is("part(0)", x.part(0), above);
        Due.is("part(1)", x.part(1), below);
    }
}
