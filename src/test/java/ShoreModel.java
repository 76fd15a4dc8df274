import java.math.BigInteger;
import java.util.ArrayDeque;
import java.util.ArrayList;
import java.util.Arrays;
import java.util.HashMap;
import java.util.HashSet;
import java.util.List;
import java.util.Map;
import java.util.Set;
import java.util.function.IntUnaryOperator;
import java.util.regex.Matcher;
import java.util.regex.Pattern;

/** A second shore, told from the document anew and by other means: slow, by trying all where it can. */
final class ShoreModel {
    static final int ADRIFT = 0, SHELF = 1, HELD = 2;

    static final class Soul implements Cloneable {
        int kind, weight, place, cell, holder, dry;

        Soul twin() {
            Soul s = new Soul();
            s.kind = kind;
            s.weight = weight;
            s.place = place;
            s.cell = cell;
            s.holder = holder;
            s.dry = dry;
            return s;
        }
    }

    /** What is kept by images: everything but the text, the fraction, the status. */
    static final class World {
        int[] currents = new int[12];
        List<Soul> souls = new ArrayList<>();
        List<Integer> callers = new ArrayList<>();
        int comber, tide;
        List<int[]> seen = new ArrayList<>();
        List<int[]> notes = new ArrayList<>();
        List<int[]> marks = new ArrayList<>();
        /** Worlds ahead of what may be undone, the last one first. */
        ArrayDeque<World> past = new ArrayDeque<>();

        World twin(boolean withPast) {
            World w = new World();
            w.currents = currents.clone();
            for (Soul s : souls) {
                w.souls.add(s.twin());
            }
            w.callers.addAll(callers);
            w.comber = comber;
            w.tide = tide;
            w.seen.addAll(seen);
            w.notes.addAll(notes);
            w.marks.addAll(marks);
            if (withPast) {
                for (World p : past) {
                    w.past.addLast(p.twin(false));
                }
            }
            return w;
        }

        int drift(int c) {
            int to = c + currents[c];
            if (to < 0) {
                return 0;
            }
            return to > 11 ? 11 : to;
        }

        void tide() {
            for (Soul s : souls) {
                if (s.place == ADRIFT) {
                    s.cell = drift(s.cell);
                }
                if (s.place == SHELF && s.dry < 99) {
                    s.dry++;
                }
            }
            tide++;
        }

        int comb(int step) {
            comber += step;
            if (comber < 0) {
                comber = 0;
            }
            if (comber > 11) {
                comber = 11;
            }
            int n = 0;
            for (Soul s : souls) {
                if (s.place == ADRIFT && s.cell == comber) {
                    s.place = SHELF;
                    s.dry = 0;
                    n++;
                }
            }
            return n;
        }

        int holding(int i) {
            int found = -1;
            for (int s = 0; s < souls.size(); s++) {
                if (souls.get(s).place == HELD && souls.get(s).holder == i) {
                    found = s;
                }
            }
            return found;
        }

        int wanted(int i) {
            return i < souls.size() ? souls.get(i).weight : 5;
        }

        int far(int s, int i) {
            Soul soul = souls.get(s);
            return Math.abs(feel(callers.get(i), weigh(soul.kind, soul.weight, soul.dry)) - wanted(i));
        }

        int takes(int i) {
            if (i >= callers.size() || holding(i) >= 0) {
                return -1;
            }
            int best = -1;
            for (int s = souls.size() - 1; s >= 0; s--) {
                if (souls.get(s).place == SHELF && (best < 0 || far(s, i) <= far(best, i))) {
                    best = s;
                }
            }
            return best;
        }

        void take(int i, int s) {
            souls.get(s).place = HELD;
            souls.get(s).holder = i;
        }

        int right() {
            int n = 0;
            for (int i = 0; i < callers.size(); i++) {
                if (holding(i) == i) {
                    n++;
                }
            }
            return n;
        }

        int in(int place) {
            int n = 0;
            for (Soul s : souls) {
                if (s.place == place) {
                    n++;
                }
            }
            return n;
        }

        int ahead(int s, int m) {
            if (souls.get(s).place != ADRIFT) {
                return -1;
            }
            World w = twin(false);
            for (int t = 0; t < m; t++) {
                w.tide();
            }
            return w.souls.get(s).cell;
        }
    }

    World now = new World();
    World[] images = new World[2];
    StringBuilder text = new StringBuilder();
    BigInteger above = BigInteger.ZERO, below = BigInteger.ONE;
    int[] refused = new int[3];

    static int weigh(int kind, int w, int d) {
        if (kind == 0) {
            return w;
        }
        if (kind == 1) {
            return weigh(0, w, d) + 2;
        }
        if (kind == 2) {
            int t = weigh(0, w, d);
            return t / 2 + (t % 2 != 0 ? 1 : 0);
        }
        if (kind == 3) {
            return weigh(1, w, d) * (d >= 3 ? 2 : 1);
        }
        if (kind == 4) {
            return d >= 5 ? 0 : weigh(2, w, d);
        }
        int t = weigh(0, w, d);
        return Math.max(t, t + 3 - d);
    }

    static int feel(int kind, int x) {
        if (kind == 0) {
            return x;
        }
        if (kind == 1) {
            int plain = feel(0, x);
            return plain % 2 == 0 ? plain : plain - 1;
        }
        if (kind == 2) {
            return Math.min(feel(0, x), 5);
        }
        if (kind == 3) {
            return feel(1, x) + 1;
        }
        if (kind == 4) {
            return 2 * feel(0, x);
        }
        return Math.max(0, feel(2, x) - 1);
    }

    int bad(int answer) {
        refused[0]++;
        return answer;
    }

    int no() {
        refused[1]++;
        return -3;
    }

    int full() {
        refused[2]++;
        return -4;
    }

    static boolean in(int v, int a, int b) {
        return a <= v && v <= b;
    }

    boolean isSoul(int s) {
        return s >= 0 && s < now.souls.size();
    }

    boolean isCaller(int i) {
        return i >= 0 && i < now.callers.size();
    }

    void keepPast() {
        now.past.addFirst(now.twin(false));
        if (now.past.size() > 8) {
            now.past.removeLast();
        }
    }

    /** What a call with these arguments answers; arguments that it has not are left aside. */
    long call(String name, int[] a) {
        switch (name) {
            case "shore": {
                int n = now.souls.size();
                now = new World();
                return n;
            }
            case "current": {
                if (!in(a[0], 0, 11) || !in(a[1], -2, 2)) {
                    return bad(-10);
                }
                int was = now.currents[a[0]];
                now.currents[a[0]] = a[1];
                now.past.clear();
                return was;
            }
            case "soul":
                return soul(a[0], a[1], a[2]);
            case "caller":
                if (!in(a[0], 0, 5)) {
                    return bad(-2);
                }
                if (now.callers.size() == 6) {
                    return full();
                }
                now.callers.add(a[0]);
                now.past.clear();
                return now.callers.size() - 1;
            case "type":
                if (!in(a[0], 0, 127)) {
                    return bad(-2);
                }
                if (text.length() == 150) {
                    return full();
                }
                text.append((char) a[0]);
                return text.length();
            case "clear": {
                int n = text.length();
                text = new StringBuilder();
                return n;
            }
            case "read":
                return new Telling(text.toString()).read();
            case "tides":
                if (!in(a[0], 1, 60)) {
                    return bad(-2);
                }
                keepPast();
                for (int t = 0; t < a[0]; t++) {
                    if (now.tide < 999) {
                        now.tide();
                    }
                }
                return now.in(ADRIFT);
            case "walks": {
                if (!in(a[0], -1, 1)) {
                    return bad(-2);
                }
                if (now.tide == 999) {
                    return no();
                }
                keepPast();
                int n = now.comb(a[0]);
                now.tide();
                return n;
            }
            case "calls": {
                if (!isCaller(a[0])) {
                    return bad(-2);
                }
                int s = now.takes(a[0]);
                if (s < 0) {
                    return no();
                }
                keepPast();
                now.take(a[0], s);
                return s;
            }
            case "returns": {
                if (!isCaller(a[0])) {
                    return bad(-2);
                }
                int s = now.holding(a[0]);
                if (s < 0) {
                    return no();
                }
                keepPast();
                now.souls.get(s).place = SHELF;
                return s;
            }
            case "undo": {
                if (now.past.isEmpty()) {
                    return no();
                }
                World w = now.past.removeFirst();
                now.souls = w.souls;
                now.comber = w.comber;
                now.tide = w.tide;
                return now.tide;
            }
            case "of":
                return isSoul(a[0]) && in(a[1], 0, 5) ? of(a[0], a[1]) : bad(-2);
            case "about":
                if (!isCaller(a[0]) || !in(a[1], 0, 3)) {
                    return bad(-2);
                }
                return new int[] {now.callers.get(a[0]), now.holding(a[0]), now.wanted(a[0]), now.takes(a[0])}[a[1]];
            case "feels":
                return isSoul(a[0]) && isCaller(a[1])
                    ? feel(now.callers.get(a[1]), of(a[0], 5)) : bad(-2);
            case "where":
                return isSoul(a[0]) && in(a[1], 0, 60) ? now.ahead(a[0], a[1]) : bad(-2);
            case "comes":
                return comes(a[0], a[1]);
            case "walk":
                return walk(a[0], a[1]);
            case "right":
                return now.right();
            case "order":
                return order(a[0]);
            case "swaps":
                return swaps();
            default:
                return callAsked(name, a);
        }
    }

    private long callAsked(String name, int[] a) {
        switch (name) {
            case "seen":
                if (!in(a[0], 0, 60) || !in(a[1], 0, 11)) {
                    return bad(-2);
                }
                if (now.seen.size() == 5) {
                    return full();
                }
                now.seen.add(new int[] {a[0], a[1]});
                return now.seen.size();
            case "which": {
                int bits = 0;
                for (int s : fitting()) {
                    bits |= 1 << s;
                }
                return bits;
            }
            case "tell": {
                List<Integer> them = fitting();
                return parting(them, 0, 20, m -> (s -> now.ahead(s, m)));
            }
            case "note":
                if (!isSoul(a[0]) || !in(a[1], 1, 9) || !in(a[2], 0, 99) || !in(a[3], 0, 30)) {
                    return bad(-2);
                }
                if (now.notes.size() == 6) {
                    return full();
                }
                now.notes.add(new int[] {a[0], a[1], a[2], a[3]});
                return now.notes.size();
            case "mark":
                if (!isCaller(a[0]) || !in(a[1], 0, 30) || !in(a[2], 0, 60)) {
                    return bad(-2);
                }
                if (now.marks.size() == 6) {
                    return full();
                }
                now.marks.add(new int[] {a[0], a[1], a[2]});
                return now.marks.size();
            case "forget": {
                if (!in(a[0], 0, 2)) {
                    return bad(-2);
                }
                List<int[]> rows = List.of(now.seen, now.notes, now.marks).get(a[0]);
                int n = rows.size();
                rows.clear();
                return n;
            }
            case "is":
                return isSoul(a[0]) ? bits(soulKinds(a[0])) : bad(-2);
            case "look":
                return isSoul(a[0]) ? parting(soulKinds(a[0]), 0, 9,
                    d -> (k -> weigh(k, now.souls.get(a[0]).weight, d))) : bad(-2);
            case "kinds":
                return isCaller(a[0]) ? bits(callerKinds(a[0])) : bad(-2);
            case "ask":
                return isCaller(a[0]) ? parting(callerKinds(a[0]), 0, 30, x -> (k -> feel(k, x))) : bad(-2);
            case "claim":
                return claim(a[0], a[1], a[2], a[3]);
            case "gulls":
                return gulls(a[0]);
            case "years":
                return years(a[0], a[1]);
            case "part":
                return a[0] == 0 ? above.longValueExact() : a[0] == 1 ? below.longValueExact() : bad(-2);
            case "image":
                if (!in(a[0], 0, 1)) {
                    return bad(-2);
                }
                images[a[0]] = now.twin(true);
                return 1;
            case "from":
                if (!in(a[0], 0, 1)) {
                    return bad(-2);
                }
                if (images[a[0]] == null) {
                    return no();
                }
                now = images[a[0]].twin(true);
                return 1;
            case "status":
                return in(a[0], 0, 2) ? refused[a[0]] : bad(-1);
            case "count":
                return in(a[0], 0, 10) ? counts()[a[0]] : bad(-2);
            case "digest":
                return digest();
            default:
                throw new IllegalArgumentException(name);
        }
    }

    private int soul(int kind, int weight, int c) {
        if (!in(kind, 0, 5) || !in(weight, 1, 9) || !in(c, 0, 11)) {
            return bad(-2);
        }
        if (now.souls.size() == 6) {
            return full();
        }
        add(now, kind, weight, c);
        now.past.clear();
        return now.souls.size() - 1;
    }

    private static void add(World w, int kind, int weight, int c) {
        Soul s = new Soul();
        s.kind = kind;
        s.weight = weight;
        s.cell = c;
        w.souls.add(s);
    }

    private int of(int s, int what) {
        Soul soul = now.souls.get(s);
        switch (what) {
            case 0:
                return soul.kind;
            case 1:
                return soul.weight;
            case 2:
                return soul.place == ADRIFT ? soul.cell : -1;
            case 3:
                return soul.place == HELD ? soul.holder : -1;
            case 4:
                return soul.dry;
            default:
                return weigh(soul.kind, soul.weight, soul.dry);
        }
    }

    private int comes(int c, int m) {
        if (!in(c, 0, 11) || !in(m, 0, 60)) {
            return bad(-2);
        }
        Set<Integer> cells = new HashSet<>(Set.of(c));
        for (int t = 0; t < m; t++) {
            Set<Integer> earlier = new HashSet<>();
            for (int from = 0; from < 12; from++) {
                if (cells.contains(now.drift(from))) {
                    earlier.add(from);
                }
            }
            cells = earlier;
        }
        return bits(new ArrayList<>(cells));
    }

    private static int bits(List<Integer> list) {
        int bits = 0;
        for (int n : list) {
            bits |= 1 << n;
        }
        return bits;
    }

    /** Deepening: no walk of 0 steps, of 1, ..; what failed with so many steps left is kept. */
    private int walk(int souls, int k) {
        if (souls < 0 || souls >= 1 << now.souls.size() || k < -2 || k == -1) {
            return bad(-10);
        }
        for (int length = 0; length <= 20; length++) {
            int[] steps = new int[length];
            if (walkFound(now.twin(false), souls, 0, steps, new HashSet<>())) {
                if (k == -2) {
                    return length;
                }
                return k < length ? steps[k] + 1 : -5;
            }
        }
        return -6;
    }

    private boolean walkFound(World w, int souls, int depth, int[] steps, Set<String> failed) {
        StringBuilder left = new StringBuilder();
        for (int s = 0; s < w.souls.size(); s++) {
            if ((souls >> s & 1) == 1 && w.souls.get(s).place == ADRIFT) {
                left.append(s);
            }
        }
        if (depth == steps.length) {
            return left.length() == 0;
        }
        String key = depth + ":" + w.comber + ":" + left;
        if (failed.contains(key)) {
            return false;
        }
        for (int s = -1; s <= 1; s++) {
            World next = w.twin(false);
            next.comb(s);
            next.tide();
            steps[depth] = s;
            if (walkFound(next, souls, depth + 1, steps, failed)) {
                return true;
            }
        }
        failed.add(key);
        return false;
    }

    private int order(int k) {
        if (k < -1) {
            return bad(-10);
        }
        List<Integer> free = new ArrayList<>();
        for (int i = 0; i < now.callers.size(); i++) {
            if (now.holding(i) < 0) {
                free.add(i);
            }
        }
        int[] most = {-1};
        List<Integer> best = new ArrayList<>();
        orders(now, free, new ArrayList<>(), most, best);
        if (k == -1) {
            return most[0];
        }
        return k < best.size() ? best.get(k) : -5;
    }

    private static void orders(World w, List<Integer> free, List<Integer> row, int[] most, List<Integer> best) {
        if (row.size() == free.size()) {
            if (w.right() > most[0]) {
                most[0] = w.right();
                best.clear();
                best.addAll(row);
            }
            return;
        }
        for (int i : free) {
            if (!row.contains(i)) {
                World next = w.twin(false);
                int s = next.takes(i);
                if (s >= 0) {
                    next.take(i, s);
                }
                row.add(i);
                orders(next, free, row, most, best);
                row.remove(row.size() - 1);
            }
        }
    }

    /** All that can be reached by one change, by two, .. */
    private int swaps() {
        int n = now.callers.size();
        List<Integer> first = new ArrayList<>();
        for (int i = 0; i < n; i++) {
            first.add(now.holding(i));
        }
        Set<List<Integer>> reached = new HashSet<>(Set.of(first));
        List<List<Integer>> layer = new ArrayList<>(reached);
        for (int changes = 0; !layer.isEmpty(); changes++) {
            List<List<Integer>> next = new ArrayList<>();
            for (List<Integer> held : layer) {
                if (allRight(held)) {
                    return changes;
                }
                for (int a = 0; a < n; a++) {
                    for (int b = a + 1; b < n; b++) {
                        List<Integer> other = new ArrayList<>(held);
                        other.set(a, held.get(b));
                        other.set(b, held.get(a));
                        if (reached.add(other)) {
                            next.add(other);
                        }
                    }
                }
            }
            layer = next;
        }
        throw new IllegalStateException("no way");
    }

    private static boolean allRight(List<Integer> held) {
        for (int i = 0; i < held.size(); i++) {
            if (held.contains(i) && held.get(i) != i) {
                return false;
            }
        }
        return true;
    }

    private List<Integer> fitting() {
        List<Integer> souls = new ArrayList<>();
        for (int s = 0; s < now.souls.size(); s++) {
            boolean fits = now.souls.get(s).place == ADRIFT;
            for (int[] row : now.seen) {
                fits &= now.ahead(s, row[0]) == row[1];
            }
            if (fits) {
                souls.add(s);
            }
        }
        return souls;
    }

    interface Family {
        IntUnaryOperator by(int n);
    }

    /** The first n (least .. last) whose largest group of those of one value is smallest. */
    private static int parting(List<Integer> them, int least, int last, Family family) {
        int best = -1;
        int fewest = 99;
        for (int n = least; n <= last && !them.isEmpty(); n++) {
            Map<Integer, Integer> groups = new HashMap<>();
            int most = 0;
            for (int one : them) {
                most = Math.max(most, groups.merge(family.by(n).applyAsInt(one), 1, Integer::sum));
            }
            if (most < fewest) {
                fewest = most;
                best = n;
            }
        }
        return best;
    }

    private List<Integer> soulKinds(int s) {
        List<Integer> kinds = new ArrayList<>(List.of(0, 1, 2, 3, 4, 5));
        for (int[] row : now.notes) {
            kinds.removeIf(k -> row[0] == s && weigh(k, row[1], row[2]) != row[3]);
        }
        return kinds;
    }

    private List<Integer> callerKinds(int i) {
        List<Integer> kinds = new ArrayList<>(List.of(0, 1, 2, 3, 4, 5));
        for (int[] row : now.marks) {
            kinds.removeIf(k -> row[0] == i && feel(k, row[1]) != row[2]);
        }
        return kinds;
    }

    private int claim(int a, int b, int s, int k) {
        if (!isCaller(a) || !isCaller(b) || a == b || !isSoul(s) || k < -1) {
            return bad(-10);
        }
        int[][][] gains = new int[10][10][];
        for (int i = 0; i < 10; i++) {
            for (int j = 0; j < 10; j++) {
                int winner = j < i ? b : a;
                int gain = 9 + Math.min(i, j) / 2 - now.far(s, winner);
                gains[i][j] = winner == a ? new int[] {gain, 0} : new int[] {0, gain};
            }
        }
        List<Integer> resting = new ArrayList<>();
        for (int i = 0; i < 10; i++) {
            for (int j = 0; j < 10; j++) {
                int bestA = Integer.MIN_VALUE;
                int bestB = Integer.MIN_VALUE;
                for (int n = 0; n < 10; n++) {
                    bestA = Math.max(bestA, gains[n][j][0]);
                    bestB = Math.max(bestB, gains[i][n][1]);
                }
                if (gains[i][j][0] == bestA && gains[i][j][1] == bestB) {
                    resting.add(10 * i + j);
                }
            }
        }
        if (k == -1) {
            return resting.size();
        }
        return k < resting.size() ? resting.get(k) : -5;
    }

    /** The mean over every set of souls that the gulls may leave. */
    private int gulls(int c) {
        if (!in(c, 0, 10)) {
            return bad(-2);
        }
        List<Integer> weights = new ArrayList<>();
        for (int s = 0; s < now.souls.size(); s++) {
            if (now.souls.get(s).place == ADRIFT) {
                weights.add(of(s, 5));
            }
        }
        BigInteger sum = BigInteger.ZERO;
        for (int left = 0; left < 1 << weights.size(); left++) {
            BigInteger odds = BigInteger.ONE;
            int together = 0;
            for (int n = 0; n < weights.size(); n++) {
                boolean stays = (left >> n & 1) == 1;
                odds = odds.multiply(BigInteger.valueOf(stays ? 10 - c : c));
                together += stays ? weights.get(n) : 0;
            }
            sum = sum.add(odds.multiply(BigInteger.valueOf(together)));
        }
        BigInteger all = BigInteger.TEN.pow(weights.size());
        BigInteger common = sum.gcd(all);
        above = sum.divide(common);
        below = all.divide(common);
        return 1;
    }

    private int years(int seed, int n) {
        if (!in(seed, 0, 999999) || !in(n, 0, 60)) {
            return bad(-2);
        }
        World w = now.twin(false);
        BigInteger x = BigInteger.valueOf(seed);
        for (int t = 0; t < n; t++) {
            x = x.multiply(BigInteger.valueOf(1103515245)).add(BigInteger.valueOf(12345))
                .mod(BigInteger.valueOf(2147483648L));
            w.comb(x.shiftRight(16).mod(BigInteger.valueOf(3)).intValue() - 1);
            w.tide();
            int i = x.shiftRight(20).mod(BigInteger.valueOf(6)).intValue();
            int s = w.takes(i);
            if (s >= 0) {
                w.take(i, s);
            }
        }
        return w.right();
    }

    private int[] counts() {
        return new int[] {now.souls.size(), now.callers.size(), now.tide, now.in(ADRIFT), now.in(SHELF), now.comber,
            now.seen.size(), now.notes.size(), now.marks.size(), now.past.size(), text.length()};
    }

    private long digest() {
        List<Long> told = new ArrayList<>();
        Arrays.stream(counts()).forEach(v -> told.add((long) v));
        Arrays.stream(now.currents).forEach(v -> told.add((long) v));
        for (int s = 0; s < now.souls.size(); s++) {
            for (int what = 0; what < 5; what++) {
                told.add((long) of(s, what));
            }
        }
        now.callers.forEach(kind -> told.add((long) kind));
        for (List<int[]> rows : List.of(now.seen, now.notes, now.marks)) {
            for (int[] row : rows) {
                Arrays.stream(row).forEach(v -> told.add((long) v));
            }
        }
        told.add(above.longValueExact());
        told.add(below.longValueExact());
        long h = 1613;
        for (long v : told) {
            h = h * 31 + v;
        }
        return h;
    }

    /** Reads a text: cuts it into tokens first, then goes along them. */
    private final class Telling {
        private final Pattern pattern = Pattern.compile("[a-z]+|[0-9]+|;|[^ ]", Pattern.DOTALL);
        private final List<String> tokens = new ArrayList<>();
        private final List<Integer> places = new ArrayList<>();
        private final World w = new World();
        private int at = 0;

        Telling(String text) {
            Matcher m = pattern.matcher(text);
            while (m.find()) {
                tokens.add(m.group());
                places.add(m.start());
            }
            tokens.add("");
            places.add(text.length());
        }

        int read() {
            int items = 0;
            while (at < tokens.size() - 1 || items == 0) {
                if (!item(items)) {
                    return -10 - places.get(at);
                }
                items++;
            }
            now = w;
            return items;
        }

        private boolean number(int least, int most) {
            String token = tokens.get(at);
            return token.matches("[0-9]{1,2}") && in(Integer.parseInt(token), least, most);
        }

        private int taken() {
            return Integer.parseInt(tokens.get(at++));
        }

        private boolean item(int items) {
            String word = tokens.get(at);
            if (!List.of("shore", "soul", "caller", "walk", "call", "tides").contains(word)) {
                return false;
            }
            if (word.equals("shore") ? items > 0 : items == 0) {
                return false;
            }
            if (word.equals("soul") && w.souls.size() == 6 || word.equals("caller") && w.callers.size() == 6) {
                return false;
            }
            at++;
            return numbers(word) && tokens.get(at).equals(";") && at++ >= 0;
        }

        private boolean numbers(String word) {
            int[][] bounds = switch (word) {
                case "shore" -> new int[][] {{0, 4}, {0, 4}, {0, 4}, {0, 4}, {0, 4}, {0, 4},
                    {0, 4}, {0, 4}, {0, 4}, {0, 4}, {0, 4}, {0, 4}};
                case "soul" -> new int[][] {{0, 5}, {1, 9}, {0, 11}};
                case "caller" -> new int[][] {{0, 5}};
                case "walk" -> new int[][] {{0, 2}};
                case "call" -> new int[][] {{0, w.callers.size() - 1}};
                default -> new int[][] {{1, 99}};
            };
            int[] v = new int[bounds.length];
            for (int n = 0; n < bounds.length; n++) {
                if (!number(bounds[n][0], bounds[n][1])) {
                    return false;
                }
                if (word.equals("call") && w.takes(Integer.parseInt(tokens.get(at))) < 0) {
                    return false;
                }
                v[n] = taken();
            }
            carryOut(word, v);
            return true;
        }

        private void carryOut(String word, int[] v) {
            switch (word) {
                case "shore" -> {
                    for (int c = 0; c < 12; c++) {
                        w.currents[c] = v[c] - 2;
                    }
                }
                case "soul" -> add(w, v[0], v[1], v[2]);
                case "caller" -> w.callers.add(v[0]);
                case "call" -> w.take(v[0], w.takes(v[0]));
                case "walk" -> {
                    w.comb(v[0] - 1);
                    if (w.tide < 999) {
                        w.tide();
                    }
                }
                default -> {
                    for (int t = 0; t < v[0] && w.tide < 999; t++) {
                        w.tide();
                    }
                }
            }
        }
    }
}
