import java.lang.reflect.Method;
import java.util.ArrayList;
import java.util.List;
import java.util.Random;

/** Long runs of calls on SoulShore and on ShoreModel, side by side: every answer and every digest alike. */
public final class ModelTest {
    private static final int RUNS = 1500, CALLS = 512;
    private static final int[] EXTREMES = {Integer.MIN_VALUE, -11, -3, -2, -1, 6, 12, 31, 61, 100, 128, Integer.MAX_VALUE};
    /** Names, and of each argument the least and the most that is told. */
    private static final String[] CALLS_TOLD = {
        "shore", "current 0 11 -2 2", "soul 0 5 1 9 0 11", "caller 0 5", "type 0 127", "clear", "read",
        "tides 1 60", "walks -1 1", "calls 0 5", "returns 0 5", "undo", "of 0 5 0 5", "about 0 5 0 3",
        "feels 0 5 0 5", "where 0 5 0 60", "comes 0 11 0 60", "walk 0 63 -2 20", "right", "order -1 6", "swaps",
        "seen 0 60 0 11", "which", "tell", "note 0 5 1 9 0 99 0 30", "mark 0 5 0 30 0 60", "forget 0 2", "is 0 5",
        "look 0 5", "kinds 0 5", "ask 0 5", "claim 0 5 0 5 0 5 -1 12", "gulls 0 10", "years 0 999999 0 60",
        "part 0 1", "image 0 1", "from 0 1", "status 0 2", "count 0 10", "digest"};
    /** How often a call is chosen, against the others; the order is that of CALLS_TOLD. */
    private static final int[] WEIGHTS = {
        1, 6, 10, 10, 2, 1, 2, 6, 40, 30, 15, 12, 12, 12,
        8, 8, 8, 12, 6, 12, 8,
        4, 6, 6, 5, 5, 2, 8, 8, 8, 8, 10, 5, 6, 4, 3, 3, 4, 6, 6};
    /** The calls whose first numbers are souls (s) and callers (i). */
    private static final String[] WHOSE = {
        "of s", "about i", "feels si", "where s", "calls i", "returns i", "note s", "mark i", "is s", "look s",
        "kinds i", "ask i", "claim iis"};

    private final Random random;
    private final SoulShore real = new SoulShore();
    private final ShoreModel model = new ShoreModel();
    private final List<String> told = new ArrayList<>();

    private ModelTest(long seed) {
        random = new Random(seed);
    }

    public static void main(String[] args) throws Exception {
        int runs = args.length > 0 ? Integer.parseInt(args[0]) : RUNS;
        for (int run = 0; run < runs; run++) {
            String wrong = new ModelTest(run).run();
            if (wrong != null) {
                System.out.println("run " + run + ": " + wrong);
                System.exit(1);
            }
        }
        System.out.println(runs + " runs like the model's");
    }

    private String run() throws Exception {
        int total = 0;
        for (int w : WEIGHTS) {
            total += w;
        }
        int typed = 0;
        String text = "";
        for (int n = 0; n < CALLS; n++) {
            String wrong;
            if (typed < text.length()) {
                wrong = both("type", text.charAt(typed));
                typed++;
                if (wrong == null && typed == text.length()) {
                    wrong = both("read");
                }
            } else if (random.nextInt(120) == 0 || n == 0 && random.nextBoolean()) {
                wrong = both("clear");
                text = new Teller(random).text();
                typed = 0;
            } else if (random.nextInt(90) == 0) {
                wrong = both("tides", 60);
            } else if (model.now.souls.size() + model.now.callers.size() < random.nextInt(12)) {
                wrong = random.nextBoolean()
                    ? both("soul", random.nextInt(6), 1 + random.nextInt(9), random.nextInt(12))
                    : both("caller", random.nextInt(6));
            } else {
                wrong = any(random.nextInt(total));
            }
            if (wrong == null && n % 16 == 0) {
                wrong = both("digest");
            }
            if (wrong != null) {
                return wrong;
            }
        }
        return null;
    }

    private String any(int ticket) throws Exception {
        int at = 0;
        for (int rest = ticket; rest >= WEIGHTS[at]; at++) {
            rest -= WEIGHTS[at];
        }
        String[] words = CALLS_TOLD[at].split(" ");
        int[] numbers = new int[(words.length - 1) / 2];
        for (int n = 0; n < numbers.length; n++) {
            int least = Integer.parseInt(words[2 * n + 1]);
            int most = Integer.parseInt(words[2 * n + 2]);
            numbers[n] = least + random.nextInt(most - least + 1);
            if (random.nextInt(60) == 0) {
                numbers[n] = random.nextBoolean() ? EXTREMES[random.nextInt(EXTREMES.length)]
                    : random.nextBoolean() ? least - 1 : most + 1;
            }
        }
        nameWhoIsThere(words[0], numbers);
        fitMore(words[0], numbers);
        return both(words[0], numbers);
    }

    private void nameWhoIsThere(String name, int[] a) {
        for (String call : WHOSE) {
            String[] words = call.split(" ");
            for (int n = 0; n < words[1].length() && words[0].equals(name); n++) {
                int there = words[1].charAt(n) == 's' ? model.now.souls.size() : model.now.callers.size();
                if (there > 0 && random.nextInt(8) != 0) {
                    a[n] = random.nextInt(there);
                }
            }
        }
    }

    /** Notes, marks and sights that fit something are told more often than chance would. */
    private void fitMore(String name, int[] a) {
        if (random.nextInt(4) == 0) {
            return;
        }
        if (name.equals("note")) {
            a[2] = random.nextInt(8);
            a[3] = ShoreModel.weigh(random.nextInt(6), Math.max(1, Math.min(9, a[1])), a[2]);
        }
        if (name.equals("mark") && a[1] >= 0 && a[1] <= 30) {
            a[2] = ShoreModel.feel(random.nextInt(6), a[1]);
        }
        if (name.equals("seen")) {
            a[0] = random.nextInt(6);
        }
        if (name.equals("claim") && random.nextBoolean()) {
            a[3] = -1;
        }
        if (name.equals("walk")) {
            a[0] &= (1 << model.now.souls.size()) - 1;
        }
    }

    private String both(String name, int... numbers) throws Exception {
        long want = model.call(name, numbers);
        long got = real(name, numbers);
        StringBuilder line = new StringBuilder(name);
        for (int v : numbers) {
            line.append(' ').append(v);
        }
        told.add(line + " => " + got);
        if (got == want) {
            return null;
        }
        StringBuilder all = new StringBuilder();
        for (String s : told) {
            all.append(s).append('\n');
        }
        return all + "due is " + want;
    }

    private long real(String name, int[] numbers) throws Exception {
        Class<?>[] types = new Class<?>[numbers.length];
        Object[] values = new Object[numbers.length];
        for (int n = 0; n < numbers.length; n++) {
            types[n] = int.class;
            values[n] = numbers[n];
        }
        Method method = SoulShore.class.getMethod(name, types);
        return ((Number) method.invoke(real, values)).longValue();
    }

    /** Texts that tell a shore, some with a fault. */
    private static final class Teller {
        private final Random random;
        private final StringBuilder out = new StringBuilder();

        Teller(Random random) {
            this.random = random;
        }

        String text() {
            word("shore");
            for (int c = 0; c < 12; c++) {
                number(random.nextInt(5));
            }
            end();
            int items = random.nextInt(16);
            boolean many = random.nextInt(6) == 0;
            for (int n = 0; n < items && out.length() < 140; n++) {
                item(many ? 5 : random.nextInt(6));
            }
            if (random.nextInt(3) == 0) {
                spoil();
            }
            if (out.length() > 160) {
                out.setLength(160);
            }
            return out.toString();
        }

        private void item(int sort) {
            switch (sort) {
                case 0, 1 -> {
                    word("soul");
                    number(random.nextInt(6));
                    number(1 + random.nextInt(9));
                    number(random.nextInt(random.nextBoolean() ? 12 : 3));
                }
                case 2 -> {
                    word("caller");
                    number(random.nextInt(6));
                }
                case 3 -> {
                    word("walk");
                    number(random.nextInt(3));
                }
                case 4 -> {
                    word("call");
                    number(random.nextInt(3));
                }
                default -> {
                    word("tides");
                    number(random.nextInt(8) == 0 ? random.nextInt(101) : 1 + random.nextInt(99));
                }
            }
            end();
        }

        private void word(String w) {
            out.append(w);
        }

        private void number(int v) {
            boolean behindWord = Character.isLetter(out.charAt(out.length() - 1));
            if (!behindWord || random.nextBoolean()) {
                out.append(random.nextInt(30) == 0 ? "  " : " ");
            }
            out.append(v < 10 && random.nextInt(12) == 0 ? "0" + v : "" + v);
        }

        private void end() {
            out.append(random.nextInt(25) == 0 ? " ; " : ";");
        }

        private void spoil() {
            int at = random.nextInt(out.length());
            String odd = ";; 059abe-AZ`{/:\u0000\u007f\n";
            switch (random.nextInt(4)) {
                case 0 -> out.setLength(at);
                case 1 -> out.deleteCharAt(at);
                case 2 -> out.insert(at, odd.charAt(random.nextInt(odd.length())));
                default -> out.setCharAt(at, odd.charAt(random.nextInt(odd.length())));
            }
        }
    }
}
