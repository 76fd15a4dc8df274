/** Counts the answers that are not the ones that are due. */
final class Due {
    private static int wrong = 0;
    private static int asked = 0;
    private static String sentence = "";

    private Due() {
    }

    /** The words of the document that the answers from here on are held against. */
    static void sentence(String words) {
        sentence = "\"" + words + "\": ";
    }

    static void is(String call, long got, long want) {
        asked++;
        if (got != want) {
            wrong++;
            System.out.println(sentence + call + " answered " + got + ", due is " + want);
        }
    }

    static void end() {
        System.out.println(asked + " answers, " + wrong + " not as due");
        if (wrong != 0 || asked == 0) {
            System.exit(1);
        }
    }

    static void type(SoulShore x, String text) {
        for (int n = 0; n < text.length(); n++) {
            x.type(text.charAt(n));
        }
    }

    /** What read() answers of this text. */
    static int told(SoulShore x, String text) {
        x.clear();
        type(x, text);
        return x.read();
    }

    /** A refused call: its answer, its reason in STATUS (0 BAD, 1 NO, 2 FULL), and nothing else changed. */
    static void refused(SoulShore x, String call, Call c, long answer, int reason) {
        long digest = x.digest();
        int[] before = {x.status(0), x.status(1), x.status(2)};
        is(call, c.on(x), answer);
        for (int what = 0; what <= 2; what++) {
            is(call + ": status(" + what + ")", x.status(what), before[what] + (what == reason ? 1 : 0));
        }
        is(call + ": digest()", x.digest(), digest);
    }

    static void bad(SoulShore x, String call, Call c) {
        refused(x, call, c, -2, 0);
    }

    static void bad10(SoulShore x, String call, Call c) {
        refused(x, call, c, -10, 0);
    }

    static void no(SoulShore x, String call, Call c) {
        refused(x, call, c, -3, 1);
    }

    static void full(SoulShore x, String call, Call c) {
        refused(x, call, c, -4, 2);
    }

    /** An answer that is no refusal: STATUS and all else stay. */
    static void asks(SoulShore x, String call, Call c, long answer) {
        refused(x, call, c, answer, -1);
    }

    interface Call {
        long on(SoulShore x);
    }
}
