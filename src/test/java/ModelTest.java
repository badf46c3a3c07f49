import java.math.BigInteger;
import java.util.ArrayDeque;
import java.util.ArrayList;
import java.util.HashMap;
import java.util.List;
import java.util.Map;
import java.util.Random;
import java.util.TreeMap;

/** Long runs of calls against a plain second model, which works all out anew at each call. */
public final class ModelTest {
    private static final int RUNS = 600;
    private static final int CALLS = 500;
    private static int failures = 0;

    public static void main(String[] args) {
        for (int seed = 1; seed <= RUNS && failures < 20; seed++) {
            new Run(seed).go();
        }
        System.out.println(failures == 0 ? "model: all as due" : "model: " + failures + " not as due");
        if (failures != 0) {
            System.exit(1);
        }
    }

    /** A fault of a text. */
    private static final class Fault extends RuntimeException {
        private static final long serialVersionUID = 1;
        final int kind;
        final int place;

        Fault(int kind, int place) {
            this.kind = kind;
            this.place = place;
        }
    }

    private interface Term {
        long of(State s, int person, boolean guilt);
    }

    private static final class State {
        int traits;
        List<int[]> fillers = new ArrayList<>();
        int[] suspect;
        Map<Integer, int[]> told = new TreeMap<>();
        Map<String, Integer> settings = new HashMap<>(Map.of("noise", 2, "cut", 30, "nudge", 5, "prior", 50));
        Term formula;
        List<Integer> shown = new ArrayList<>();
        Map<Integer, Integer> mocks = new HashMap<>();

        State copy() {
            State s = new State();
            s.traits = traits;
            s.fillers = fillers;
            s.suspect = suspect;
            s.told = told;
            s.settings = new HashMap<>(settings);
            s.formula = formula;
            s.shown = new ArrayList<>(shown);
            s.mocks = new HashMap<>(mocks);
            return s;
        }

        int persons() {
            return 1 + fillers.size();
        }

        int[] person(int k) {
            return k == 0 ? suspect : fillers.get(k - 1);
        }

        long off(int person, int trait, boolean guilt) {
            if (!told.containsKey(trait)) {
                return 0;
            }
            int due = guilt ? suspect[trait] : told.get(trait)[0];
            return Math.abs(person(person)[trait] - due);
        }

        long weight(int trait) {
            return told.containsKey(trait) ? told.get(trait)[1] : 0;
        }

        long matching(int person, boolean guilt) {
            long sum = 0;
            if (formula != null) {
                sum = formula.of(this, person, guilt);
            } else {
                for (int trait : told.keySet()) {
                    sum += weight(trait) * (9 - off(person, trait, guilt));
                }
            }
            return sum < 0 ? 0 : sum > 99 ? 99 : sum;
        }
    }

    /** Reads bytes one by one, without tokens. */
    private static final class Parser {
        final byte[] b;
        final State s = new State();
        final List<String> once = new ArrayList<>();
        int p = 0;

        Parser(byte[] b) {
            this.b = b;
        }

        int skip() {
            while (p < b.length && b[p] == ' ') {
                p++;
            }
            return p;
        }

        String peek(String allowed) {
            skip();
            int e = p;
            while (e < b.length && allowed.indexOf(b[e] & 255) >= 0) {
                e++;
            }
            StringBuilder t = new StringBuilder();
            for (int k = p; k < e; k++) {
                t.append((char) b[k]);
            }
            return t.toString();
        }

        String peekWord() {
            return peek("abcdefghijklmnopqrstuvwxyz");
        }

        boolean sign(char c) {
            skip();
            if (p < b.length && b[p] == c) {
                p++;
                return true;
            }
            return false;
        }

        void need(boolean fine) {
            if (!fine) {
                throw new Fault(1, p);
            }
        }

        int number(int least, int most) {
            String t = peek("0123456789");
            need(!t.isEmpty());
            BigInteger n = new BigInteger(t);
            if (n.compareTo(BigInteger.valueOf(least)) < 0 || n.compareTo(BigInteger.valueOf(most)) > 0) {
                throw new Fault(2, p);
            }
            p += t.length();
            return n.intValue();
        }

        int[] numbers() {
            int[] v = new int[s.traits];
            for (int k = 0; k < v.length; k++) {
                v[k] = number(0, 9);
            }
            return v;
        }

        State parse() {
            need(peekWord().equals("traits"));
            p += 6;
            s.traits = number(1, 5);
            need(sign(';'));
            while (skip() < b.length) {
                part();
                need(sign(';'));
            }
            if (s.suspect == null) {
                throw new Fault(5, b.length);
            }
            for (int k = 0; k < s.persons() && k < 8; k++) {
                s.shown.add(k);
            }
            return s;
        }

        void part() {
            String w = peekWord();
            need(List.of("suspect", "filler", "told", "noise", "cut", "nudge", "prior", "match").contains(w));
            if (!w.equals("filler") && !w.equals("told")) {
                need(!once.contains(w));
                once.add(w);
            }
            if (w.equals("filler") && s.fillers.size() == 15) {
                throw new Fault(3, p);
            }
            p += w.length();
            switch (w) {
                case "suspect" -> s.suspect = numbers();
                case "filler" -> s.fillers.add(numbers());
                case "told" -> {
                    int trait = number(0, s.traits - 1);
                    int value = number(0, 9);
                    s.told.put(trait, new int[] {value, number(1, 9)});
                }
                case "noise" -> s.settings.put(w, number(0, 5));
                case "cut" -> s.settings.put(w, number(0, 120));
                case "nudge" -> s.settings.put(w, number(0, 20));
                case "prior" -> s.settings.put(w, number(1, 99));
                default -> s.formula = sum(0);
            }
        }

        static long hold(long n) {
            return Math.max(-1000000, Math.min(1000000, n));
        }

        Term sum(int open) {
            Term left = product(open);
            while (true) {
                Term l = left;
                if (sign('+')) {
                    Term r = product(open);
                    left = (s, k, g) -> hold(l.of(s, k, g) + r.of(s, k, g));
                } else if (sign('-')) {
                    Term r = product(open);
                    left = (s, k, g) -> hold(l.of(s, k, g) - r.of(s, k, g));
                } else {
                    return left;
                }
            }
        }

        Term product(int open) {
            Term left = unit(open);
            while (sign('*')) {
                Term l = left;
                Term r = unit(open);
                left = (s, k, g) -> hold(l.of(s, k, g) * r.of(s, k, g));
            }
            return left;
        }

        Term unit(int open) {
            int at = skip();
            if (sign('-')) {
                deep(open, at);
                Term r = unit(open + 1);
                return (s, k, g) -> -r.of(s, k, g);
            }
            if (sign('(')) {
                deep(open, at);
                Term r = sum(open + 1);
                need(sign(')'));
                return r;
            }
            String w = peekWord();
            if (w.isEmpty()) {
                int n = number(0, 99);
                return (s, k, g) -> n;
            }
            need(List.of("value", "off", "weight").contains(w));
            p += w.length();
            int t = number(0, s.traits - 1);
            return switch (w) {
                case "value" -> (s, k, g) -> s.person(k)[t];
                case "off" -> (s, k, g) -> s.off(k, t, g);
                default -> (s, k, g) -> s.weight(t);
            };
        }

        static void deep(int open, int at) {
            if (open >= 4) {
                throw new Fault(4, at);
            }
        }
    }

    /** The document's answers; an exception is told by its name. */
    private static final class Model {
        State s;
        final ArrayDeque<State> past = new ArrayDeque<>();
        final List<Byte> tape = new ArrayList<>();
        long fault = -1;
        final Map<String, Integer> refused = new HashMap<>();

        Model() {
            s = new Parser("traits 1; suspect 5; told 0 5 3;".getBytes()).parse();
        }

        private String refuse(String name) {
            refused.merge(name, 1, Integer::sum);
            return name;
        }

        private String missing() {
            return refuse("NoSuchElementException");
        }

        private String wrong() {
            return refuse("IllegalArgumentException");
        }

        private String state() {
            return refuse("IllegalStateException");
        }

        private boolean is(int k, int end) {
            return k >= 0 && k < end;
        }

        private void act() {
            past.push(s.copy());
            if (past.size() > 8) {
                past.removeLast();
            }
        }

        String feed(int[] v) {
            if (tape.size() > 480) {
                return "-1";
            }
            for (int n : v) {
                for (byte x : BigInteger.valueOf(n & 0xffffffffL | 1L << 40).toByteArray()) {
                    tape.add(x);
                }
                // The leading byte 1 and the empty one behind it only keep the width.
                tape.remove(tape.size() - 6);
                tape.remove(tape.size() - 5);
            }
            return "" + tape.size();
        }

        String text(int n) {
            if (n < 0 || n > tape.size()) {
                return wrong();
            }
            byte[] b = new byte[n];
            for (int k = 0; k < n; k++) {
                b[k] = tape.get(k);
            }
            tape.clear();
            try {
                State told = new Parser(b).parse();
                act();
                s = told;
                fault = -1;
                return "" + s.persons();
            } catch (Fault f) {
                fault = f.place;
                return "" + (f.kind - 10);
            }
        }

        String show(int person) {
            if (!is(person, s.persons())) {
                return missing();
            }
            if (s.shown.contains(person) || s.shown.size() == 8) {
                return state();
            }
            act();
            s.shown.add(person);
            return "" + s.shown.size();
        }

        String hide(int k) {
            if (!is(k, s.shown.size())) {
                return missing();
            }
            act();
            s.shown.remove(k);
            return "" + s.shown.size();
        }

        static final List<String> NAMES = List.of("noise", "cut", "nudge", "prior");

        String change(int what, int n) {
            if (!is(what, 4) || n < List.of(0, 0, 0, 1).get(what) || n > List.of(5, 120, 20, 99).get(what)) {
                return wrong();
            }
            act();
            return "" + s.settings.put(NAMES.get(what), n);
        }

        String mock(int person) {
            if (!is(person, s.persons())) {
                return missing();
            }
            if (!s.shown.contains(person) || s.mocks.getOrDefault(person, 0) == 999) {
                return state();
            }
            act();
            return "" + s.mocks.merge(person, 1, Integer::sum);
        }

        String undo() {
            if (past.isEmpty()) {
                return "-1";
            }
            s = past.pop();
            return "" + past.size();
        }

        String told(int what) {
            if (!is(what, 10)) {
                return wrong();
            }
            int all = s.mocks.values().stream().mapToInt(k -> k).sum();
            return "" + List.of(s.traits, s.persons(), s.shown.size(), s.settings.get("noise"), s.settings.get("cut"),
                    s.settings.get("nudge"), s.settings.get("prior"), all, tape.size(), past.size()).get(what);
        }

        String trait(int trait, int what) {
            if (!is(trait, s.traits)) {
                return missing();
            }
            if (!is(what, 2)) {
                return wrong();
            }
            int[] of = s.told.getOrDefault(trait, new int[] {-1, 0});
            return "" + of[what];
        }

        String value(int person, int trait) {
            return !is(person, s.persons()) || !is(trait, s.traits) ? missing() : "" + s.person(person)[trait];
        }

        String shown(int k) {
            return !is(k, s.shown.size()) ? missing() : "" + s.shown.get(k);
        }

        String match(int person, boolean guilt) {
            return !is(person, s.persons()) ? missing() : "" + s.matching(person, guilt);
        }

        String mocks(int person) {
            return !is(person, s.persons()) ? missing() : "" + s.mocks.getOrDefault(person, 0);
        }

        String alike(int one, int other) {
            if (!is(one, s.persons()) || !is(other, s.persons())) {
                return missing();
            }
            int bits = 0;
            for (int t = 0; t < s.traits; t++) {
                bits += s.person(one)[t] == s.person(other)[t] ? 1 << t : 0;
            }
            return "" + bits;
        }

        /** Cases of picks by persons (-1: nobody), one person's noise behind the other's. */
        private Map<Integer, Long> picks(int way, boolean guilt, boolean blind, int cut) {
            int noise = s.settings.get("noise");
            // Who would be picked so far, with the feeling by which.
            Map<List<Integer>, Long> states = new HashMap<>();
            states.put(List.of(-1, cut - 1), 1L);
            for (int person : s.shown) {
                Map<List<Integer>, Long> next = new HashMap<>();
                int base = (int) s.matching(person, guilt) + (person == 0 && !blind ? s.settings.get("nudge") : 0);
                for (Map.Entry<List<Integer>, Long> e : states.entrySet()) {
                    for (int x = -noise; x <= noise; x++) {
                        boolean open = way == 1 || e.getKey().get(0) == -1;
                        boolean better = open && base + x > e.getKey().get(1);
                        next.merge(better ? List.of(person, base + x) : e.getKey(), e.getValue(), Long::sum);
                    }
                }
                states = next;
            }
            Map<Integer, Long> picks = new HashMap<>();
            states.forEach((k, v) -> picks.merge(k.get(0), v, Long::sum));
            return picks;
        }

        private long all() {
            return BigInteger.valueOf(2L * s.settings.get("noise") + 1).pow(s.shown.size()).longValueExact();
        }

        private static String fraction(long above, long below, int what) {
            if (above == 0) {
                return "" + what;
            }
            BigInteger a = BigInteger.valueOf(above);
            BigInteger b = BigInteger.valueOf(below);
            return "" + (what == 0 ? a : b).divide(a.gcd(b));
        }

        String chance(int way, int person, boolean guilt, boolean blind, int what) {
            if (person != -1 && !is(person, s.persons())) {
                return missing();
            }
            if (!is(way, 2) || !is(what, 2)) {
                return wrong();
            }
            return fraction(picks(way, guilt, blind, s.settings.get("cut")).getOrDefault(person, 0L), all(), what);
        }

        private static long[] sizeOf(List<Long> of) {
            long sum = of.stream().mapToLong(k -> k).sum();
            return new long[] {sum * sum, sum == 0 ? 1 : of.stream().mapToLong(k -> k * k).sum()};
        }

        String size(int what) {
            if (!is(what, 4)) {
                return wrong();
            }
            List<Long> of = new ArrayList<>();
            for (int person : s.shown) {
                of.add(what < 2 ? s.matching(person, false) : (long) s.mocks.getOrDefault(person, 0));
            }
            long[] size = sizeOf(of);
            return fraction(size[0], size[1], what % 2);
        }

        String fairest(int n, int what) {
            if (n < 2 || n > 8 || !is(what, 3)) {
                return wrong();
            }
            if (s.fillers.size() < n - 1) {
                return "-1";
            }
            long[] matches = new long[s.persons()];
            for (int k = 0; k < matches.length; k++) {
                matches[k] = s.matching(k, false);
            }
            long[] best = null;
            int bestSet = 0;
            for (int set = 0; set < 2 << s.fillers.size(); set += 2) {
                if (Integer.bitCount(set) != n - 1) {
                    continue;
                }
                List<Long> of = new ArrayList<>();
                for (int k = 0; k < matches.length; k++) {
                    if (k == 0 || (set >> k & 1) == 1) {
                        of.add(matches[k]);
                    }
                }
                long[] size = sizeOf(of);
                if (best == null || size[0] * best[1] > best[0] * size[1]) {
                    best = size;
                    bestSet = set;
                }
            }
            return what == 0 ? "" + bestSet : fraction(best[0], best[1], what - 1);
        }

        String odds(int way, boolean blind, boolean picked, int what) {
            if (!is(way, 2) || !is(what, 2)) {
                return wrong();
            }
            if (!s.shown.contains(0)) {
                return state();
            }
            int cut = s.settings.get("cut");
            long g = picks(way, true, blind, cut).getOrDefault(0, 0L);
            long i = picks(way, false, blind, cut).getOrDefault(0, 0L);
            long prior = s.settings.get("prior");
            long above = prior * (picked ? g : all() - g);
            return fraction(above, above + (100 - prior) * (picked ? i : all() - i), what);
        }

        String cut(int way) {
            if (!is(way, 2)) {
                return wrong();
            }
            if (!s.shown.contains(0)) {
                return state();
            }
            long best = Long.MIN_VALUE;
            int bestCut = -1;
            for (int cut = 0; cut <= 120; cut++) {
                long telling = picks(way, true, true, cut).getOrDefault(0, 0L)
                        - picks(way, false, true, cut).getOrDefault(0, 0L);
                if (telling > best) {
                    best = telling;
                    bestCut = cut;
                }
            }
            return "" + bestCut;
        }

        String nudged(int way) {
            if (!is(way, 2)) {
                return wrong();
            }
            if (!s.shown.contains(0)) {
                return state();
            }
            int cut = s.settings.get("cut");
            long more = picks(way, false, false, cut).getOrDefault(0, 0L)
                    - picks(way, false, true, cut).getOrDefault(0, 0L);
            return "" + 100 * more / all();
        }

        String print() {
            long sum = 0;
            for (int person : s.shown) {
                sum = sum * 31 + person;
                sum = sum * 31 + s.mocks.getOrDefault(person, 0);
            }
            return "" + (sum * 31 + s.settings.get("cut"));
        }

        String status(int what) {
            return is(what, 3) ? "" + refused.getOrDefault(
                    List.of("NoSuchElementException", "IllegalArgumentException", "IllegalStateException").get(what), 0)
                    : "-1";
        }
    }

    private interface Asked {
        long run();
    }

    /** One object and its model, with calls drawn by a seed. */
    private static final class Run {
        final Random r;
        final int seed;
        final LineupDesk desk = new LineupDesk();
        final Model model = new Model();
        int calls = 0;

        Run(int seed) {
            this.seed = seed;
            r = new Random(seed);
        }

        void go() {
            tellText();
            while (calls < CALLS && failures < 20) {
                step();
            }
        }

        void same(String call, Asked asked, String want) {
            calls++;
            String got;
            try {
                got = "" + asked.run();
            } catch (RuntimeException e) {
                got = e.getClass().getSimpleName();
            }
            if (!got.equals(want)) {
                failures++;
                System.out.println("run " + seed + ", call " + calls + ": " + call + " answered " + got + ", due is " + want);
            }
        }

        int near(int most) {
            int k = r.nextInt(40);
            return k == 0 ? -1 - r.nextInt(2) : k == 1 ? most + 1 : k == 2 ? Integer.MIN_VALUE
                    : k == 3 ? Integer.MAX_VALUE : r.nextInt(Math.max(1, most + 1));
        }

        int person() {
            return near(model.s.persons() - 1);
        }

        void step() {
            int way = near(1);
            boolean guilt = r.nextBoolean();
            boolean blind = r.nextBoolean();
            switch (r.nextInt(22)) {
                case 0 -> {
                    if (r.nextInt(4) == 0) {
                        tellText();
                    }
                }
                case 1 -> {
                    int p = person();
                    same("show(" + p + ")", () -> desk.show(p), model.show(p));
                }
                case 2 -> {
                    int k = near(model.s.shown.size() - 1);
                    if (r.nextInt(2) == 0) {
                        same("hide(" + k + ")", () -> desk.hide(k), model.hide(k));
                    }
                }
                case 3, 4 -> {
                    int w = near(3);
                    int most = List.of(5, 120, 20, 99).get(Math.max(0, Math.min(3, w)));
                    int to = w == 1 && r.nextInt(4) > 0
                            ? (int) model.s.matching(r.nextInt(model.s.persons()), guilt) + r.nextInt(9) - 4 : near(most);
                    same("change(" + w + ", " + to + ")", () -> desk.change(w, to), model.change(w, to));
                }
                case 5, 6 -> {
                    int p = person();
                    same("mock(" + p + ")", () -> desk.mock(p), model.mock(p));
                }
                case 7 -> same("undo()", desk::undo, model.undo());
                case 8 -> {
                    int w = near(9);
                    same("told(" + w + ")", () -> desk.told(w), model.told(w));
                }
                case 9 -> {
                    int t = near(model.s.traits - 1);
                    int w = near(1);
                    same("trait(" + t + ", " + w + ")", () -> desk.trait(t, w), model.trait(t, w));
                }
                case 10 -> {
                    int p = person();
                    int t = near(model.s.traits - 1);
                    same("value(" + p + ", " + t + ")", () -> desk.value(p, t), model.value(p, t));
                }
                case 11 -> {
                    int k = near(model.s.shown.size() - 1);
                    same("shown(" + k + ")", () -> desk.shown(k), model.shown(k));
                }
                case 12 -> {
                    int p = person();
                    same("match(" + p + ", " + guilt + ")", () -> desk.match(p, guilt), model.match(p, guilt));
                }
                case 13 -> {
                    int p = person();
                    same("mocks(" + p + ")", () -> desk.mocks(p), model.mocks(p));
                    int o = person();
                    same("alike(" + p + ", " + o + ")", () -> desk.alike(p, o), model.alike(p, o));
                }
                case 14, 15 -> {
                    int p = r.nextInt(5) == 0 ? -1 : person();
                    int w = near(1);
                    same("chance(" + way + ", " + p + ", " + guilt + ", " + blind + ", " + w + ")",
                            () -> desk.chance(way, p, guilt, blind, w), model.chance(way, p, guilt, blind, w));
                }
                case 16 -> {
                    int w = near(3);
                    same("size(" + w + ")", () -> desk.size(w), model.size(w));
                }
                case 17 -> {
                    int m = r.nextInt(20) == 0 ? near(9) : 2 + r.nextInt(Math.min(7, model.s.persons()));
                    int w = near(2);
                    if (r.nextInt(4) == 0) {
                        same("fairest(" + m + ", " + w + ")", () -> desk.fairest(m, w), model.fairest(m, w));
                    }
                }
                case 18 -> {
                    int w = near(1);
                    same("odds(" + way + ", " + blind + ", " + guilt + ", " + w + ")",
                            () -> desk.odds(way, blind, guilt, w), model.odds(way, blind, guilt, w));
                }
                case 19 -> {
                    if (r.nextInt(12) == 0) {
                        same("cut(" + way + ")", () -> desk.cut(way), model.cut(way));
                    } else {
                        same("nudged(" + way + ")", () -> desk.nudged(way), model.nudged(way));
                    }
                }
                case 20 -> {
                    same("print()", desk::print, model.print());
                    same("fault()", desk::fault, "" + model.fault);
                }
                default -> {
                    int w = near(2);
                    same("status(" + w + ")", () -> desk.status(w), model.status(w));
                }
            }
        }

        void tellText() {
            byte[] b = new Writer(r).write();
            for (int from = 0; from < b.length; from += 20) {
                int[] v = new int[5];
                for (int k = 0; k < 20; k++) {
                    int x = from + k < b.length ? b[from + k] & 255 : r.nextInt(256);
                    v[k / 4] = v[k / 4] << 8 | x;
                }
                same("feed", () -> desk.feed(v[0], v[1], v[2], v[3], v[4]), model.feed(v));
            }
            int n = r.nextInt(12) == 0 ? near(model.tape.size()) : Math.min(b.length, model.tape.size());
            String told = new String(b, java.nio.charset.StandardCharsets.ISO_8859_1);
            same("text(" + n + ") of " + told, () -> desk.text(n), model.text(n));
            same("fault() of " + told, desk::fault, "" + model.fault);
        }
    }

    /** Writes texts, some of them with slips. */
    private static final class Writer {
        final Random r;
        final StringBuilder t = new StringBuilder();
        int traits;

        Writer(Random r) {
            this.r = r;
        }

        byte[] write() {
            traits = 1 + r.nextInt(5);
            token("traits");
            token("" + traits);
            token(";");
            List<Integer> parts = new ArrayList<>(List.of(0));
            int fillers = r.nextInt(3) == 0 ? r.nextInt(17) : r.nextInt(8);
            for (int k = 0; k < fillers; k++) {
                parts.add(1);
            }
            for (int k = r.nextInt(4); k >= 0; k--) {
                parts.add(2);
            }
            for (int kind = 3; kind <= 7; kind++) {
                if (r.nextBoolean()) {
                    parts.add(kind);
                }
            }
            java.util.Collections.shuffle(parts, r);
            for (int kind : parts) {
                part(kind);
            }
            slip();
            if (t.length() > 500) {
                t.setLength(500);
            }
            return t.toString().getBytes(java.nio.charset.StandardCharsets.ISO_8859_1);
        }

        private void token(String s) {
            for (int k = r.nextInt(12) - 9; k > 0; k--) {
                t.append(' ');
            }
            t.append(s);
        }

        private void number(int most) {
            int n = r.nextInt(400) == 0 ? most + 1 + r.nextInt(3) : r.nextInt(most + 1);
            t.append(r.nextInt(3) == 0 ? " " : "");
            if (t.length() > 0 && Character.isDigit(t.charAt(t.length() - 1))) {
                t.append(' ');
            }
            t.append(r.nextInt(30) == 0 ? "00" : "").append(n);
        }

        private void values() {
            int n = r.nextInt(150) == 0 ? r.nextInt(6) : traits;
            // Values of few kinds, so that matches are often near one another.
            int middle = r.nextInt(10);
            for (int k = 0; k < n; k++) {
                t.append(' ').append(r.nextInt(3) > 0 ? middle : r.nextInt(10));
            }
        }

        private void part(int kind) {
            token(List.of("suspect", "filler", "told", "noise", "cut", "nudge", "prior", "match").get(kind));
            switch (kind) {
                case 0, 1 -> values();
                case 2 -> {
                    number(traits - 1);
                    number(9);
                    t.append(' ').append(1 + r.nextInt(9));
                }
                case 3 -> number(5);
                case 4 -> number(120);
                case 5 -> number(20);
                case 6 -> t.append(' ').append(1 + r.nextInt(99));
                default -> sum(r.nextInt(5));
            }
            token(";");
        }

        private void sum(int depth) {
            product(depth);
            for (int k = r.nextInt(3); k > 0; k--) {
                token(r.nextBoolean() ? "+" : "-");
                product(depth);
            }
        }

        private void product(int depth) {
            unit(depth);
            for (int k = r.nextInt(4) - 1; k > 0; k--) {
                token("*");
                unit(depth);
            }
        }

        private void unit(int depth) {
            int kind = r.nextInt(depth > 0 || r.nextInt(60) == 0 ? 7 : 5);
            switch (kind) {
                case 0, 1 -> number(99);
                case 5 -> {
                    token("-");
                    unit(depth - 1);
                }
                case 6 -> {
                    token("(");
                    sum(depth - 1);
                    token(")");
                }
                default -> {
                    token(List.of("value", "off", "weight").get(kind - 2));
                    number(traits - 1);
                }
            }
        }

        private void slip() {
            String signs = ";+-*() 0123456789azx\t";
            for (int k = r.nextInt(4) == 0 ? 1 + r.nextInt(2) : 0; k > 0 && t.length() > 1; k--) {
                int at = r.nextInt(t.length());
                char c = r.nextInt(20) == 0 ? (char) r.nextInt(256) : signs.charAt(r.nextInt(signs.length()));
                switch (r.nextInt(5)) {
                    case 0 -> t.deleteCharAt(at);
                    case 1 -> t.insert(at, c);
                    case 2 -> t.setCharAt(at, c);
                    case 3 -> t.setLength(at);
                    default -> t.insert(at, t.substring(at, Math.min(t.length(), at + 1 + r.nextInt(20))));
                }
            }
        }
    }
}
