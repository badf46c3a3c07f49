import java.math.BigInteger;
import java.util.ArrayDeque;
import java.util.ArrayList;
import java.util.Deque;
import java.util.List;
import java.util.Random;
import java.util.regex.Matcher;
import java.util.regex.Pattern;

/** Small worlds gone through case by case, each by a way unlike the class's own. */
public final class EveryCaseTest extends Checks {
    private static final int TEXTS_OF_A_DESK = 30;
    private static LineupDesk desk = new LineupDesk();
    private static int texts = 0;

    public static void main(String[] args) {
        shortFormulas();
        nestedFormulas();
        shortTexts();
        everyNoise();
        actsDoneAnew();
        finish("every case");
    }

    /** An object is used for at most 512 calls; a text here needs less than 15 of them. */
    private static int tellNext(String text) {
        if (texts == TEXTS_OF_A_DESK) {
            desk = new LineupDesk();
            texts = 0;
        }
        texts++;
        return tell(desk, text);
    }

    private interface Visit {
        /** Whether to go on from a row to longer ones. */
        boolean see(List<String> pieces);
    }

    /** All rows of up to so many pieces that have no fault ahead of the last one. */
    private static void rows(String[] pieces, int most, List<String> row, Visit visit) {
        if (visit.see(row) && row.size() < most) {
            for (String piece : pieces) {
                row.add(piece);
                rows(pieces, most, row, visit);
                row.remove(row.size() - 1);
            }
        }
    }

    private static final String AHEAD = "traits 1;suspect 4;told 0 9 3;match";

    private static void shortFormulas() {
        says("E: T { ( \"+\" | \"-\" ) T }. T: U { \"*\" U }. U: ..; FAULTS 1, 2");
        String[] pieces = {"+", "-", "*", "(", ")", "7", "100", "off 0", "value 1"};
        rows(pieces, 7, new ArrayList<>(), EveryCaseTest::tryFormula);
    }

    private static void nestedFormulas() {
        says("4 a \"(\" or a \"-\" of U within four others of both (a \"-\" till its U ends)");
        String[] pieces = {"-", "(", ")", "7"};
        rows(pieces, 9, new ArrayList<>(), EveryCaseTest::tryFormula);
        rows(pieces, 12, new ArrayList<>(List.of("(", "-", "-", "(")), EveryCaseTest::tryFormula);
    }

    /** A formula by two states (an operand is due, or is not) and stacks of signs, with no grammar in it. */
    private static final class Walk {
        private final Deque<String> open = new ArrayDeque<>();
        private final Deque<String> signs = new ArrayDeque<>();
        private final Deque<BigInteger> numbers = new ArrayDeque<>();
        private boolean operandDue = true;

        /** The fault that a piece is, or 0. */
        int take(String piece) {
            return operandDue ? takeOperand(piece) : takeJoint(piece);
        }

        private int takeOperand(String piece) {
            if (piece.equals("-") || piece.equals("(")) {
                if (open.size() == 4) {
                    return 4;
                }
                open.push(piece);
                signs.push(piece.equals("-") ? "neg" : "(");
                return 0;
            }
            if (!Character.isLetterOrDigit(piece.charAt(0))) {
                return 1;
            }
            if (piece.equals("100") || piece.equals("value 1")) {
                return 2;
            }
            // The suspect has 4, 9 is told of it.
            numbers.push(BigInteger.valueOf(piece.equals("7") ? 7 : 5));
            operandDue = false;
            endMinuses();
            return 0;
        }

        private int takeJoint(String piece) {
            if (piece.equals(")")) {
                if (!open.contains("(")) {
                    return 1;
                }
                while (!signs.peek().equals("(")) {
                    join();
                }
                signs.pop();
                open.pop();
                endMinuses();
                return 0;
            }
            if (!"+-*".contains(piece)) {
                return 1;
            }
            while (!signs.isEmpty() && !signs.peek().equals("(") && rank(signs.peek()) >= rank(piece)) {
                join();
            }
            signs.push(piece);
            operandDue = true;
            return 0;
        }

        private static int rank(String sign) {
            return sign.equals("neg") ? 3 : sign.equals("*") ? 2 : 1;
        }

        private void endMinuses() {
            while (!open.isEmpty() && open.peek().equals("-")) {
                open.pop();
            }
        }

        private void join() {
            String sign = signs.pop();
            BigInteger right = numbers.pop();
            if (sign.equals("neg")) {
                numbers.push(right.negate());
                return;
            }
            BigInteger left = numbers.pop();
            BigInteger far = BigInteger.valueOf(1000000);
            BigInteger joined = sign.equals("+") ? left.add(right) : sign.equals("-") ? left.subtract(right) : left.multiply(right);
            numbers.push(joined.min(far).max(far.negate()));
        }

        boolean mayEnd() {
            return !operandDue && !open.contains("(");
        }

        int match() {
            while (!signs.isEmpty()) {
                join();
            }
            return numbers.peek().min(BigInteger.valueOf(99)).max(BigInteger.ZERO).intValueExact();
        }
    }

    private static boolean tryFormula(List<String> row) {
        Walk walk = new Walk();
        int kind = 0;
        int place = AHEAD.length();
        StringBuilder text = new StringBuilder(AHEAD);
        for (String piece : row) {
            kind = walk.take(piece);
            // A trait that there is not is told by its number, all else by its first byte.
            place = text.length() + 1 + (kind == 2 ? piece.indexOf(' ') + 1 : 0);
            text.append(' ').append(piece);
        }
        tryFault(text.toString(), kind == 0 ? 1 : kind, kind == 0 ? text.length() : place);
        text.append(" ;");
        if (kind == 0 && walk.mayEnd()) {
            tryFault(text.toString(), 0, NONE);
            due("match by \"" + text + "\"", desk.match(0, false), walk.match());
        } else if (kind == 0) {
            tryFault(text.toString(), 1, text.length() - 1);
        }
        return kind == 0;
    }

    private static void tryFault(String text, int kind, int place) {
        due("text of \"" + text + "\"", tellNext(text), kind == 0 ? 1 : kind - 10);
        due("fault of \"" + text + "\"", desk.fault(), place);
    }

    // Words by their first letters (told: o), n: a number; a row of parts that could go on is told by hitEnd().
    private static final Pattern PARTS = Pattern.compile("(?:(?:snn|fnn|onnn|cn|mn);)*");

    private static void shortTexts() {
        says("a VALUE too many, or \";\" ahead of the last VALUE; a second one of once; FAULTS 1, 2, 5");
        String[] pieces = {"suspect", "filler", "told", "cut", "match", "1", "9", "121", ";"};
        rows(pieces, 9, new ArrayList<>(), EveryCaseTest::tryParts);
    }

    private static String kindsOf(List<String> row) {
        StringBuilder kinds = new StringBuilder();
        for (String piece : row) {
            char first = piece.charAt(0);
            kinds.append(Character.isDigit(first) ? 'n' : piece.equals("told") ? 'o' : first);
        }
        return kinds.toString();
    }

    private static int mostOf(String kinds, int at) {
        int word = at - 1;
        while (kinds.charAt(word) == 'n') {
            word--;
        }
        char of = kinds.charAt(word);
        return of == 'c' ? 120 : of == 'm' ? 99 : of == 'o' && at == word + 1 ? 1 : 9;
    }

    /** Kind and piece of the first fault; at the end: 0 or 1 by whether the text may end there. */
    private static int[] firstFault(List<String> row) {
        String kinds = kindsOf(row);
        for (int k = 0; k < row.size(); k++) {
            Matcher m = PARTS.matcher(kinds.substring(0, k + 1));
            char of = kinds.charAt(k);
            boolean second = "scm".indexOf(of) >= 0 && kinds.indexOf(of) < k;
            if (!m.matches() && !m.hitEnd() || second) {
                return new int[] {1, k};
            }
            if (of == 'n' && Integer.parseInt(row.get(k)) > mostOf(kinds, k)) {
                return new int[] {2, k};
            }
        }
        return new int[] {PARTS.matcher(kinds).matches() ? 0 : 1, row.size()};
    }

    private static boolean tryParts(List<String> row) {
        StringBuilder text = new StringBuilder("traits 2;");
        int[] places = new int[row.size() + 1];
        for (int k = 0; k < row.size(); k++) {
            text.append(' ');
            places[k] = text.length();
            text.append(row.get(k));
        }
        places[row.size()] = text.length();
        int[] fault = firstFault(row);
        boolean suspect = row.contains("suspect");
        int kind = fault[0] == 0 && !suspect ? 5 : fault[0];
        int persons = 1 + (int) row.stream().filter(piece -> piece.equals("filler")).count();
        due("text of \"" + text + "\"", tellNext(text.toString()), kind == 0 ? persons : kind - 10);
        due("fault of \"" + text + "\"", desk.fault(), kind == 0 ? NONE : places[fault[1]]);
        return fault[1] == row.size();
    }

    /** Who is picked in each case of noise, gone through one by one. */
    private static final class Cases {
        private final int persons;
        private final int[] shown;
        private final int[] matches;
        private final int[] guiltMatches;
        private final int noise;
        private final int nudge;
        final int all;

        Cases(LineupDesk of) {
            persons = of.told(1);
            shown = new int[of.told(2)];
            matches = new int[persons];
            guiltMatches = new int[persons];
            noise = of.told(3);
            nudge = of.told(5);
            int product = 1;
            for (int k = 0; k < shown.length; k++) {
                shown[k] = of.shown(k);
                matches[shown[k]] = of.match(shown[k], false);
                guiltMatches[shown[k]] = of.match(shown[k], true);
                product *= 2 * noise + 1;
            }
            all = product;
        }

        /** Cases by who is picked; those of nobody are the last. */
        int[] picks(int way, boolean guilt, boolean blind, int cut) {
            int[] found = new int[persons + 1];
            for (int number = 0; number < all; number++) {
                int picked = persons;
                int greatest = 0;
                int rest = number;
                for (int person : shown) {
                    int feeling = (guilt ? guiltMatches : matches)[person] + rest % (2 * noise + 1) - noise
                            + (person == 0 && !blind ? nudge : 0);
                    rest /= 2 * noise + 1;
                    if (feeling >= cut && (picked == persons || way == 1 && feeling > greatest)) {
                        picked = person;
                        greatest = feeling;
                    }
                }
                found[picked]++;
            }
            return found;
        }
    }

    private static void lowest(String name, Call above, Call below, long wantAbove, long wantBelow) {
        long divisor = BigInteger.valueOf(wantAbove).gcd(BigInteger.valueOf(wantBelow)).longValueExact();
        if (wantAbove == 0) {
            fraction(name, above, below, 0, 1);
        } else {
            fraction(name, above, below, wantAbove / divisor, wantBelow / divisor);
        }
    }

    private static void everyNoise() {
        Random r = new Random(7);
        for (int run = 0; run < 250; run++) {
            StringBuilder text = new StringBuilder("traits 1;match 20+value 0*" + r.nextInt(3) + "-off 0;told 0 " + r.nextInt(10)
                    + " 1;suspect " + r.nextInt(10) + ";noise " + r.nextInt(4) + ";nudge " + r.nextInt(5)
                    + ";prior " + (1 + r.nextInt(99)) + ";cut " + (14 + r.nextInt(22)) + ";");
            for (int k = r.nextInt(4); k > 0; k--) {
                text.append("filler ").append(r.nextInt(10)).append(';');
            }
            LineupDesk desk = desk(text.toString());
            for (int k = r.nextInt(4); k > 0; k--) {
                int first = desk.shown(0);
                desk.hide(0);
                desk.show(first);
            }
            tryNoise(desk, text.toString());
        }
    }

    private static void tryNoise(LineupDesk desk, String text) {
        Cases cases = new Cases(desk);
        int prior = desk.told(6);
        for (int way = 0; way < 2; way++) {
            for (boolean blind : new boolean[] {true, false}) {
                int w = way;
                int[] guilty = cases.picks(way, true, blind, desk.told(4));
                int[] innocent = cases.picks(way, false, blind, desk.told(4));
                says("odds of a pick of a PERSON (NONE: of nobody), each case of noise counted: " + text);
                for (int k = 0; k < guilty.length; k++) {
                    int person = k == desk.told(1) ? NONE : k;
                    lowest("chance(" + way + ", " + person + ", true, " + blind + ")", () -> desk.chance(w, person, true, blind, 0),
                            () -> desk.chance(w, person, true, blind, 1), guilty[k], cases.all);
                    lowest("chance(" + way + ", " + person + ", false, " + blind + ")", () -> desk.chance(w, person, false, blind, 0),
                            () -> desk.chance(w, person, false, blind, 1), innocent[k], cases.all);
                }
                says("ODDS of guilt, each case of noise counted: " + text);
                for (boolean picked : new boolean[] {true, false}) {
                    long byGuilt = (long) prior * (picked ? guilty[0] : cases.all - guilty[0]);
                    long not = (100L - prior) * (picked ? innocent[0] : cases.all - innocent[0]);
                    lowest("odds(" + way + ", " + blind + ", " + picked + ")", () -> desk.odds(w, blind, picked, 0),
                            () -> desk.odds(w, blind, picked, 1), byGuilt, byGuilt + not);
                }
            }
            says("nudged, each case of noise counted: " + text);
            int more = cases.picks(way, false, false, desk.told(4))[0] - cases.picks(way, false, true, desk.told(4))[0];
            due("nudged(" + way + ")", desk.nudged(way), BigInteger.valueOf(100L * more).divide(BigInteger.valueOf(cases.all)).intValue());
            says("BEST CUT, each case of noise counted: " + text);
            due("cut(" + way + ")", desk.cut(way), bestCut(cases, way));
        }
    }

    private static int bestCut(Cases cases, int way) {
        List<Integer> telling = new ArrayList<>();
        for (int cut = 0; cut <= 120; cut++) {
            telling.add(cases.picks(way, true, true, cut)[0] - cases.picks(way, false, true, cut)[0]);
        }
        return telling.indexOf(telling.stream().max(Integer::compare).get());
    }

    /** An act that can be done again on another object. */
    private static long act(LineupDesk desk, int kind, int number) {
        switch (kind) {
            case 0:
                return desk.show(number % 10);
            case 1:
                return desk.hide(number % 8);
            case 2:
                return desk.change(number % 4, 1 + number % 5);
            case 3:
                return desk.mock(number % 10);
            default:
                return tell(desk, number % 3 == 0 ? "traits 2;suspect 1 2;filler 3 4;" : "traits 1;suspect " + number % 10
                        + ";told 0 5 " + (1 + number % 9) + ";filler 2;filler 3;filler 4;filler 5;filler 6;filler 7;filler 8;filler 9;filler 1;");
        }
    }

    /** An object on which only the acts that stand were done, against one that did and took back. */
    private static void actsDoneAnew() {
        says("undo() takes the latest one back that is not yet, of the latest 8");
        for (int seed = 1; seed <= 4000; seed++) {
            Random r = new Random(seed);
            LineupDesk doing = new LineupDesk();
            List<int[]> standing = new ArrayList<>();
            int back = 0;
            for (int steps = r.nextInt(40); steps > 0; steps--) {
                if (r.nextInt(3) == 0) {
                    due("undo() of seed " + seed, doing.undo(), back - 1);
                    if (back > 0) {
                        back--;
                        standing.remove(standing.size() - 1);
                    }
                } else {
                    int[] todo = {r.nextInt(5), r.nextInt(1000)};
                    if (done(doing, todo)) {
                        standing.add(todo);
                        back = Math.min(8, back + 1);
                    }
                }
            }
            LineupDesk other = new LineupDesk();
            for (int[] one : standing) {
                done(other, one);
            }
            due("told(9) of seed " + seed, doing.told(9), back);
            String got = seenOf(doing);
            String want = seenOf(other);
            if (!got.equals(want)) {
                fail("seed " + seed + ": " + got + ", due is " + want);
            }
        }
    }

    private static boolean done(LineupDesk desk, int[] todo) {
        try {
            act(desk, todo[0], todo[1]);
            return true;
        } catch (RuntimeException e) {
            return false;
        }
    }

    private static String seenOf(LineupDesk desk) {
        StringBuilder seen = new StringBuilder();
        for (int what = 0; what < 8; what++) {
            seen.append(desk.told(what)).append(' ');
        }
        for (int person = 0; person < desk.told(1); person++) {
            for (int trait = 0; trait < desk.told(0); trait++) {
                seen.append(desk.value(person, trait)).append(desk.trait(trait, 0)).append(desk.trait(trait, 1));
            }
            seen.append('/').append(desk.match(person, false)).append('/').append(desk.match(person, true))
                    .append('/').append(desk.mocks(person)).append(' ');
        }
        return seen.append(desk.print()).toString();
    }
}
