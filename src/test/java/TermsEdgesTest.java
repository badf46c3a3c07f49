import java.math.BigInteger;

/** The sentences of the document's terms on matches, picks, sizes, odds and cuts: each at its edge and just beside it. */
public final class TermsEdgesTest extends Checks {
    private static final int ONE_BY_ONE = 0;
    private static final int AT_ONCE = 1;
    /** A million, by six factors of one product. */
    private static final String MILLION = "10*10*10*10*10*10";

    public static void main(String[] args) {
        differenceOfNothingTold();
        differenceBothWays();
        matchHeldFromZeroTo99();
        sumsHeld();
        differencesHeld();
        productsHeld();
        productsAsLongs();
        plainMatchAtMost99();
        plainMatchOfNothingTold();
        byGuilt();
        byGuiltWeightsStay();
        shownAtFirst();
        shownEachOnce();
        noiseEachAsLikely();
        noiseEachForItself();
        feelingsBelowZeroAndFarAbove();
        nudgeOfSuspectAlone();
        firstOneByOne();
        greatestAtOnce();
        nobodyIsPicked();
        effectiveSizeOfNothing();
        effectiveSizeNotByGuilt();
        mocksStayHidden();
        mockSizeOfNothing();
        fairestOfTwoToEight();
        fairestLeastSet();
        fairestOfFifteen();
        fairestByExactSizes();
        fairestOfNoMatch();
        oddsThatCannotBe();
        oddsByPrior();
        oddsBehindNoPick();
        bestCutLeast();
        bestCutEnds();
        bestCutBlind();
        lowestTerms();
        mostCases();
        printWrapsAround();
        finish("terms edges");
    }

    private static void differenceOfNothingTold() {
        says("DIFFERENCE: 0, if nothing is TOLD");
        LineupDesk d = desk("traits 2;suspect 9 9;filler 0 0;told 1 0 1;match off 0*10+off 1;");
        due("nothing told of the first, 0 of the other", d.match(0, false), 9);
        due("of the filler", d.match(1, false), 0);
        due("by guilt nothing is told of the first, too", d.match(1, true), 9);
        due("of the suspect by guilt", d.match(0, true), 0);
    }

    private static void differenceBothWays() {
        says("DIFFERENCE: by how much its VALUE and the one that is TOLD differ");
        LineupDesk d = desk("traits 1;suspect 0;filler 4;filler 5;filler 6;filler 9;told 0 5 1;match off 0;");
        int[] want = {5, 1, 0, 1, 4};
        for (int person = 0; person < want.length; person++) {
            due("difference of " + person, d.match(person, false), want[person]);
        }
    }

    private static void matchIs(String formula, int want) {
        LineupDesk d = desk("traits 1;suspect 0;match " + formula + ";");
        due("match of " + formula, d.match(0, false), want);
        due("match by guilt of " + formula, d.match(0, true), want);
    }

    private static void matchHeldFromZeroTo99() {
        says("MATCH: E, 0 at least, 99 at most");
        matchIs("-99*99", 0);
        matchIs("-1", 0);
        matchIs("-0", 0);
        matchIs("0", 0);
        matchIs("1", 1);
        matchIs("98", 98);
        matchIs("99", 99);
        matchIs("99+1", 99);
        matchIs("99*99", 99);
        matchIs("1-2+5", 4);
        matchIs("99+1-50", 50);
    }

    /** What a formula is, found by taking 999,950 from it. */
    private static void nearMillion(String formula, int aboveFifty) {
        matchIs(formula + "-99*99*99-99*99*3-99*2-50", 50 + aboveFifty);
    }

    /** What a formula is, found by adding 1,000,050 to it. */
    private static void nearMinusMillion(String formula, int aboveFifty) {
        matchIs(formula + "+99*99*99+99*99*3+99*3+51", 50 + aboveFifty);
    }

    private static void sumsHeld() {
        says("each sum held to 1,000,000 below and above 0");
        nearMillion(MILLION + "+0", 0);
        nearMillion(MILLION + "+1", 0);
        nearMillion(MILLION + "+99", 0);
        nearMillion(MILLION + "+99-2", -2);
        nearMillion(MILLION + "-1+1", 0);
        nearMillion(MILLION + "-2+1", -1);
        nearMillion(MILLION + "+" + MILLION, 0);
        nearMinusMillion("-" + MILLION + "+-1", 0);
        nearMinusMillion("-" + MILLION + "+-" + MILLION, 0);
        nearMinusMillion("-" + MILLION + "+1", 1);
    }

    private static void differencesHeld() {
        says("each difference held to 1,000,000 below and above 0");
        nearMinusMillion("-" + MILLION + "-0", 0);
        nearMinusMillion("-" + MILLION + "-1", 0);
        nearMinusMillion("-" + MILLION + "-99+2", 2);
        nearMinusMillion("0-" + MILLION, 0);
        nearMinusMillion("1-" + MILLION, 1);
        nearMinusMillion("-" + MILLION + "-" + MILLION, 0);
        nearMillion(MILLION + "--1", 0);
        nearMillion(MILLION + "-" + "1", -1);
    }

    private static void productsHeld() {
        says("each product held to 1,000,000 below and above 0");
        nearMillion(MILLION + "*1", 0);
        nearMillion(MILLION + "*2", 0);
        nearMillion(MILLION + "*2*1", 0);
        nearMillion("99*99*99*2", 0);
        nearMinusMillion(MILLION + "*-1", 0);
        nearMinusMillion(MILLION + "*-2", 0);
        nearMinusMillion("-" + MILLION + "*99", 0);
        matchIs(MILLION + "*99*0+7", 7);
        matchIs("99*99*99*99-" + MILLION + "+7", 7);
    }

    private static void productsAsLongs() {
        says("as longs");
        nearMillion("(" + MILLION + ")*(" + MILLION + ")", 0);
        nearMillion("-(" + MILLION + ")*-(" + MILLION + ")", 0);
        nearMinusMillion("(" + MILLION + ")*-(" + MILLION + ")", 0);
        nearMillion("(" + MILLION + ")*(99*99)", 0);
    }

    private static void plainMatchAtMost99() {
        says("without \"match\": WEIGHT times (9 less DIFFERENCE), together, 99 at most, too");
        due("98", desk("traits 2;suspect 0 0;told 0 2 7;told 1 2 7;").match(0, false), 98);
        due("99", desk("traits 2;suspect 0 0;told 0 0 9;told 1 0 2;").match(0, false), 99);
        due("100", desk("traits 2;suspect 0 0;told 0 1 8;told 1 5 9;").match(0, false), 99);
        due("5 times 81", desk("traits 5;suspect 0 0 0 0 0;told 0 0 9;told 1 0 9;told 2 0 9;told 3 0 9;told 4 0 9;")
                .match(0, false), 99);
        due("9 less 9", desk("traits 1;suspect 0;told 0 9 9;").match(0, false), 0);
        due("9 less 8", desk("traits 1;suspect 1;told 0 9 9;").match(0, false), 9);
    }

    private static void plainMatchOfNothingTold() {
        says("without \"match\": of all TRAITS that are TOLD");
        LineupDesk none = desk("traits 3;suspect 1 2 3;");
        due("nothing is told", none.match(0, false), 0);
        due("nothing is told, by guilt", none.match(0, true), 0);
        due("one is told", desk("traits 3;suspect 1 2 3;told 1 2 1;").match(0, false), 9);
    }

    private static void byGuilt() {
        says("By GUILT: as if the VALUES that are TOLD were those of the SUSPECT");
        LineupDesk d = desk("traits 2;suspect 2 2;filler 5 9;told 0 5 3;");
        due("suspect", d.match(0, false), 3 * 6);
        due("suspect by guilt", d.match(0, true), 3 * 9);
        due("filler", d.match(1, false), 3 * 9);
        due("filler by guilt", d.match(1, true), 3 * 6);
        LineupDesk values = desk("traits 1;suspect 2;filler 7;told 0 5 3;match value 0;");
        due("the filler's own value stays by guilt", values.match(1, true), 7);
        LineupDesk nothing = desk("traits 1;suspect 2;filler 7;match off 0+weight 0;");
        due("what is not told is not told by guilt", nothing.match(1, true), 0);
    }

    private static void byGuiltWeightsStay() {
        says("By GUILT: (WEIGHTS as they are)");
        LineupDesk d = desk("traits 2;suspect 2 2;told 0 5 3;match weight 0*10+weight 1;");
        due("weights", d.match(0, false), 30);
        due("weights by guilt", d.match(0, true), 30);
    }

    private static String withFillers(int count) {
        return "traits 1;suspect 0;" + "filler 1;".repeat(count);
    }

    private static void shownAtFirst() {
        says("SHOWN (8 at most): at first, and behind text(), the SUSPECT, then FILLERS by numbers as far as there is room");
        due("a new object shows", new LineupDesk().told(2), 1);
        int[] fillers = {0, 1, 6, 7, 8, 15};
        for (int count : fillers) {
            LineupDesk d = desk(withFillers(count));
            int want = Math.min(8, count + 1);
            due("shown of " + count + " fillers", d.told(2), want);
            for (int k = 0; k < want; k++) {
                due("place " + k, d.shown(k), k);
            }
            thrown("no place " + want, MISSING, () -> d.shown(want));
        }
        LineupDesk late = desk("traits 1;filler 1;filler 2;suspect 3;");
        due("the suspect is first, told last", late.shown(0), 0);
        late.hide(0);
        late.hide(0);
        late.show(0);
        due("shown behind hide", late.told(2), 2);
        tell(late, withFillers(2));
        due("shown anew behind text", late.told(2), 3);
        due("the suspect is first behind text", late.shown(0), 0);
        late.hide(1);
        tell(late, "traits 1;x");
        due("shown as it was behind a fault", late.told(2), 2);
    }

    private static void shownEachOnce() {
        says("SHOWN (8 at most, each once)");
        LineupDesk d = desk(withFillers(8));
        thrown("a ninth", STATE, () -> d.show(8));
        d.hide(7);
        due("seven", d.told(2), 7);
        thrown("one twice", STATE, () -> d.show(6));
        due("an eighth", d.show(8), 8);
        thrown("a ninth again", STATE, () -> d.show(7));
        thrown("the last twice", STATE, () -> d.show(8));
        thrown("the first twice", STATE, () -> d.show(0));
    }

    private static void noiseEachAsLikely() {
        says("a whole number from NOISE below 0 to NOISE above 0, each as likely");
        for (int noise = 0; noise <= 5; noise++) {
            LineupDesk d = desk("traits 1;suspect 0;match 50;noise " + noise + ";");
            int width = 2 * noise + 1;
            for (int way = 0; way < 2; way++) {
                for (int above = 0; above <= width; above++) {
                    // So many of all feelings are the cut or more.
                    d.change(1, 50 + noise + 1 - above);
                    int shared = BigInteger.valueOf(above).gcd(BigInteger.valueOf(width)).intValue();
                    chances(d, way, 0, false, true, above / shared, width / shared);
                }
            }
        }
    }

    private static void noiseEachForItself() {
        says("each one for itself");
        LineupDesk d = desk("traits 1;suspect 0;filler 0;filler 0;match 50;noise 1;cut 50;");
        chances(d, ONE_BY_ONE, NONE, false, true, 1, 27);
        chances(d, ONE_BY_ONE, 0, false, true, 2, 3);
        chances(d, ONE_BY_ONE, 1, false, true, 2, 9);
        chances(d, ONE_BY_ONE, 2, false, true, 2, 27);
        chances(d, AT_ONCE, NONE, false, true, 1, 27);
        // The first one wins with 51 for sure, with 50 if no other has 51: (9 + 4) of 27.
        chances(d, AT_ONCE, 0, false, true, 13, 27);
        chances(d, AT_ONCE, 1, false, true, 8, 27);
        chances(d, AT_ONCE, 2, false, true, 5, 27);
    }

    private static void feelingsBelowZeroAndFarAbove() {
        says("FEELING: its MATCH, and a whole number (not held)");
        LineupDesk low = desk("traits 1;suspect 0;match 0;noise 5;cut 0;");
        chances(low, ONE_BY_ONE, 0, false, true, 6, 11);
        chances(low, AT_ONCE, 0, false, true, 6, 11);
        chances(low, AT_ONCE, NONE, false, true, 5, 11);
        LineupDesk high = desk("traits 1;suspect 0;match 99;noise 5;cut 104;nudge 20;");
        chances(high, ONE_BY_ONE, 0, false, true, 1, 11);
        high.change(1, 105);
        chances(high, ONE_BY_ONE, 0, false, true, 0, 1);
        high.change(1, 120);
        // 114 to 124.
        chances(high, ONE_BY_ONE, 0, false, false, 5, 11);
        chances(high, AT_ONCE, 0, false, false, 5, 11);
    }

    private static void nudgeOfSuspectAlone() {
        says("the SUSPECT's is NUDGE more, if it is not BLIND");
        LineupDesk d = desk("traits 1;suspect 3;filler 5;noise 0;cut 0;nudge 20;match value 0*10;");
        chances(d, AT_ONCE, 0, false, true, 0, 1);
        // 50 and 50: the suspect is shown first.
        chances(d, AT_ONCE, 0, false, false, 1, 1);
        d.change(2, 19);
        chances(d, AT_ONCE, 0, false, false, 0, 1);
        chances(d, AT_ONCE, 1, false, false, 1, 1);
        d.change(2, 20);
        d.change(1, 51);
        chances(d, AT_ONCE, NONE, false, false, 1, 1);
        chances(d, ONE_BY_ONE, NONE, false, false, 1, 1);
        d.change(1, 50);
        chances(d, ONE_BY_ONE, 0, false, false, 1, 1);
        chances(d, ONE_BY_ONE, 0, true, false, 1, 1);
        d.change(2, 0);
        chances(d, ONE_BY_ONE, 0, false, false, 0, 1);
        d.hide(0);
        d.change(2, 20);
        d.change(1, 51);
        chances(d, ONE_BY_ONE, 1, false, false, 0, 1);
        d.change(1, 50);
        chances(d, ONE_BY_ONE, 1, false, false, 1, 1);
    }

    private static void firstOneByOne() {
        says("ONE BY ONE: the first one SHOWN whose FEELING is CUT or more is picked");
        LineupDesk d = desk("traits 1;suspect 3;filler 5;filler 3;noise 0;match value 0*10;");
        d.change(1, 30);
        chances(d, ONE_BY_ONE, 0, false, true, 1, 1);
        chances(d, ONE_BY_ONE, 1, false, true, 0, 1);
        d.change(1, 31);
        chances(d, ONE_BY_ONE, 0, false, true, 0, 1);
        chances(d, ONE_BY_ONE, 1, false, true, 1, 1);
        d.change(1, 30);
        d.hide(0);
        d.show(0);
        chances(d, ONE_BY_ONE, 1, false, true, 1, 1);
        d.hide(0);
        chances(d, ONE_BY_ONE, 2, false, true, 1, 1);
        chances(d, ONE_BY_ONE, 0, false, true, 0, 1);
    }

    private static void greatestAtOnce() {
        says("AT ONCE: the one whose FEELING is greatest, of several the first one SHOWN, is picked, if it is CUT or more");
        LineupDesk d = desk("traits 1;suspect 3;filler 5;filler 5;filler 4;noise 0;cut 30;match value 0*10;");
        chances(d, AT_ONCE, 0, false, true, 0, 1);
        chances(d, AT_ONCE, 1, false, true, 1, 1);
        chances(d, AT_ONCE, 2, false, true, 0, 1);
        d.hide(1);
        chances(d, AT_ONCE, 2, false, true, 1, 1);
        d.show(1);
        chances(d, AT_ONCE, 2, false, true, 1, 1);
        chances(d, AT_ONCE, 1, false, true, 0, 1);
        d.change(1, 50);
        chances(d, AT_ONCE, 2, false, true, 1, 1);
        d.change(1, 51);
        chances(d, AT_ONCE, 2, false, true, 0, 1);
    }

    private static void nobodyIsPicked() {
        says("Else nobody is.");
        LineupDesk d = desk("traits 1;suspect 3;filler 5;noise 0;cut 50;match value 0*10;");
        for (int way = 0; way < 2; way++) {
            d.change(1, 50);
            chances(d, way, NONE, false, true, 0, 1);
            d.change(1, 51);
            chances(d, way, NONE, false, true, 1, 1);
        }
        d.change(1, 0);
        d.hide(0);
        d.hide(0);
        for (int way = 0; way < 2; way++) {
            chances(d, way, NONE, false, true, 1, 1);
            chances(d, way, NONE, true, false, 1, 1);
            chances(d, way, 0, true, false, 0, 1);
        }
    }

    private static void sizeIs(LineupDesk d, int what, long above, long below) {
        fraction("size", () -> d.size(what), () -> d.size(what + 1), above, below);
    }

    private static void effectiveSizeOfNothing() {
        says("EFFECTIVE SIZE (0 by 1, if all are 0)");
        LineupDesk d = desk("traits 1;suspect 0;filler 0;filler 1;filler 1;match value 0;");
        sizeIs(d, 0, 2, 1);
        d.hide(3);
        sizeIs(d, 0, 1, 1);
        d.hide(2);
        sizeIs(d, 0, 0, 1);
        d.hide(1);
        sizeIs(d, 0, 0, 1);
        d.hide(0);
        sizeIs(d, 0, 0, 1);
        LineupDesk eight = desk(withFillers(15) + "match 99;");
        sizeIs(eight, 0, 8, 1);
        eight.hide(3);
        sizeIs(eight, 0, 7, 1);
    }

    private static void effectiveSizeNotByGuilt() {
        says("all MATCHES (not by GUILT) of who is SHOWN");
        LineupDesk d = desk("traits 1;suspect 1;filler 9;told 0 9 1;");
        // 1 and 9; by guilt they would be 9 and 1, so that only a third one tells it.
        sizeIs(d, 0, 50, 41);
        LineupDesk three = desk("traits 1;suspect 1;filler 9;filler 9;told 0 9 1;");
        sizeIs(three, 0, 19 * 19, 163);
    }

    private static void mocksStayHidden() {
        says("MOCK picks (hiding them, too, they stay)");
        LineupDesk d = desk(withFillers(2));
        d.mock(1);
        d.mock(1);
        d.mock(2);
        d.hide(1);
        due("mocks of one hidden", d.mocks(1), 2);
        due("mocks of all", d.told(7), 3);
        sizeIs(d, 2, 1, 1);
        d.show(1);
        due("mocks of one shown again", d.mocks(1), 2);
        sizeIs(d, 2, 9, 5);
        tell(d, withFillers(2));
        due("no mocks behind text", d.told(7), 0);
        due("no mocks of one behind text", d.mocks(1), 0);
    }

    private static void mockSizeOfNothing() {
        says("MOCK SIZE: likewise, MOCK picks of who is SHOWN in place of MATCHES");
        LineupDesk d = desk(withFillers(2) + "match 7;");
        sizeIs(d, 0, 3, 1);
        sizeIs(d, 2, 0, 1);
        d.mock(0);
        sizeIs(d, 2, 1, 1);
        d.mock(1);
        sizeIs(d, 2, 2, 1);
        d.hide(0);
        d.hide(0);
        sizeIs(d, 2, 0, 1);
        d.hide(0);
        sizeIs(d, 2, 0, 1);
        due("mocks of all", d.told(7), 2);
    }

    private static void fairestIs(LineupDesk d, int n, long set, long above, long below) {
        due("fairest of " + n, d.fairest(n, 0), set);
        fraction("fairest of " + n, () -> d.fairest(n, 1), () -> d.fairest(n, 2), above, below);
    }

    private static void fairestOfTwoToEight() {
        says("FAIREST of n (2 to 8); NONE: there are not so many FILLERS");
        for (int fillers = 0; fillers <= 9; fillers++) {
            LineupDesk d = desk(withFillers(fillers) + "match 3;");
            for (int n = 2; n <= 8; n++) {
                if (n - 1 <= fillers) {
                    fairestIs(d, n, (1 << n) - 2, n, 1);
                } else {
                    for (int what = 0; what <= 2; what++) {
                        due("fairest of too few", d.fairest(n, what), NONE);
                    }
                }
            }
            thrown("fairest(1, 0)", WRONG, () -> d.fairest(1, 0));
            thrown("fairest(9, 0)", WRONG, () -> d.fairest(9, 0));
        }
    }

    private static void fairestLeastSet() {
        says("FAIREST: of several the least set of FILLERS as bits (FILLER k is bit k)");
        LineupDesk d = desk("traits 1;suspect 5;filler 1;filler 5;filler 1;filler 5;filler 5;match value 0;");
        fairestIs(d, 2, 1 << 2, 2, 1);
        fairestIs(d, 3, 1 << 2 | 1 << 4, 3, 1);
        fairestIs(d, 4, 1 << 2 | 1 << 4 | 1 << 5, 4, 1);
        fairestIs(d, 5, 1 << 1 | 1 << 2 | 1 << 4 | 1 << 5, 21 * 21, 101);
        // 2 with 1 and 2 is as 2 with 4 and 4: of {1, 4} and {2, 3} the latter is less as bits.
        LineupDesk sets = desk("traits 1;suspect 2;filler 1;filler 4;filler 4;filler 2;match value 0;");
        fairestIs(sets, 3, 1 << 2 | 1 << 3, 25, 9);
        LineupDesk turned = desk("traits 1;suspect 2;filler 4;filler 1;filler 2;filler 4;match value 0;");
        fairestIs(turned, 3, 1 << 2 | 1 << 3, 25, 9);
        LineupDesk two = desk("traits 2;suspect 2 0;filler 2 1;filler 4 0;filler 4 0;filler 2 1;match value 0;");
        fairestIs(two, 3, 1 << 1 | 1 << 4, 3, 1);
        LineupDesk less = desk("traits 1;suspect 4;filler 1;filler 4;filler 4;filler 1;match value 0;");
        fairestIs(less, 3, 12, 3, 1);
    }

    private static void fairestOfFifteen() {
        says("FAIREST: the SUSPECT and n less 1 FILLERS (15 at most), SHOWN or not");
        LineupDesk d = desk("traits 1;suspect 1;" + "filler 0;".repeat(8) + "filler 1;".repeat(7) + "match value 0;");
        fairestIs(d, 8, 0xfe00, 8, 1);
        fairestIs(d, 2, 1 << 9, 2, 1);
        for (int k = 0; k < 8; k++) {
            d.hide(0);
        }
        fairestIs(d, 8, 0xfe00, 8, 1);
        due("asked, nobody is shown", d.told(2), 0);
    }

    private static void fairestByExactSizes() {
        says("FAIREST: by which EFFECTIVE SIZE is greatest");
        // Beside 99: 98 gives 38809 by 19405, 97 gives 19208 by 9605, less by some ten-thousandths.
        LineupDesk near = desk("traits 1;suspect 0;filler 2;filler 1;filler 3;match 99-value 0;");
        fairestIs(near, 2, 1 << 2, 38809, 19405);
        fairestIs(near, 3, 1 << 1 | 1 << 2, 294L * 294 / 2, (99 * 99 + 98 * 98 + 97 * 97) / 2);
    }

    private static void fairestOfNoMatch() {
        says("FAIREST, EFFECTIVE SIZE being 0 by 1");
        LineupDesk d = desk("traits 1;suspect 0;filler 0;filler 0;filler 0;match 0;");
        fairestIs(d, 2, 2, 0, 1);
        fairestIs(d, 3, 6, 0, 1);
        LineupDesk one = desk("traits 1;suspect 0;filler 0;filler 0;filler 1;match value 0;");
        fairestIs(one, 2, 8, 1, 1);
        fairestIs(one, 3, 10, 1, 1);
    }

    /** By guilt 27, not by guilt 24, without noise. */
    private static LineupDesk sure(int cut) {
        return desk("traits 1;suspect 4;told 0 5 3;noise 0;nudge 3;cut " + cut + ";");
    }

    private static void oddsThatCannotBe() {
        says("ODDS: as a fraction (0 by 1, if it can't be by either)");
        for (int way = 0; way < 2; way++) {
            oddsOf(sure(24), way, true, true, 1, 2);
            oddsOf(sure(24), way, true, false, 0, 1);
            oddsOf(sure(25), way, true, true, 1, 1);
            oddsOf(sure(25), way, true, false, 0, 1);
            oddsOf(sure(27), way, true, true, 1, 1);
            oddsOf(sure(28), way, true, true, 0, 1);
            oddsOf(sure(28), way, true, false, 1, 2);
            // Nudged: 30 and 27.
            oddsOf(sure(27), way, false, true, 1, 2);
            oddsOf(sure(28), way, false, true, 1, 1);
            oddsOf(sure(30), way, false, true, 1, 1);
            oddsOf(sure(31), way, false, true, 0, 1);
        }
        LineupDesk against = desk("traits 1;suspect 4;told 0 5 3;noise 0;match off 0*9;cut 9;");
        oddsOf(against, ONE_BY_ONE, true, true, 0, 1);
        oddsOf(against, ONE_BY_ONE, true, false, 1, 1);
    }

    private static void oddsByPrior() {
        says("ODDS: PRIOR hundredths ahead (1 to 99)");
        LineupDesk d = sure(24);
        d.change(3, 1);
        oddsOf(d, AT_ONCE, true, true, 1, 100);
        d.change(3, 99);
        oddsOf(d, AT_ONCE, true, true, 99, 100);
        d.change(3, 25);
        oddsOf(d, AT_ONCE, true, true, 1, 4);
        // By guilt 4 of 5 (25 to 29), else 1 of 5 (22 to 26).
        LineupDesk noise = desk("traits 1;suspect 4;told 0 5 3;noise 2;cut 26;prior 1;");
        oddsOf(noise, ONE_BY_ONE, true, true, 4, 4 + 99);
        noise.change(3, 99);
        oddsOf(noise, ONE_BY_ONE, true, true, 99 * 4, 99 * 4 + 1);
        oddsOf(noise, ONE_BY_ONE, true, false, 99, 99 + 4);
    }

    private static void oddsBehindNoPick() {
        says("ODDS behind none of it: somebody else, or nobody");
        // The filler is picked ahead of the suspect; by guilt it is below the cut.
        LineupDesk d = desk("traits 1;suspect 4;filler 5;told 0 5 3;noise 0;cut 27;");
        d.hide(0);
        d.show(0);
        oddsOf(d, ONE_BY_ONE, true, true, 1, 1);
        oddsOf(d, ONE_BY_ONE, true, false, 0, 1);
        chances(d, ONE_BY_ONE, 1, false, true, 1, 1);
        chances(d, ONE_BY_ONE, 1, true, true, 0, 1);
        d.change(1, 28);
        oddsOf(d, ONE_BY_ONE, true, false, 1, 2);
        d.change(1, 24);
        oddsOf(d, ONE_BY_ONE, true, false, 1, 2);
        oddsOf(d, AT_ONCE, true, false, 0, 1);
    }

    private static void bestCutLeast() {
        says("BEST CUT: the one with the greatest TELLING; of several the least");
        for (int way = 0; way < 2; way++) {
            due("25 to 27", sure(99).cut(way), 25);
            due("all alike", desk("traits 1;suspect 5;told 0 5 3;").cut(way), 0);
            due("25 to 27, by noise", desk("traits 1;suspect 4;told 0 5 3;noise 2;").cut(way), 25);
            due("1 by 11 from 94 on", desk("traits 1;suspect 4;told 0 5 1;noise 5;match 99-off 0;").cut(way), 94);
        }
    }

    private static void bestCutEnds() {
        says("BEST CUT: from 0 to 120");
        for (int way = 0; way < 2; way++) {
            // By guilt 0, else 1: from cut 0 on it tells against guilt, from 2 on nothing.
            due("less by guilt", desk("traits 1;suspect 4;told 0 5 1;noise 0;match off 0;").cut(way), 0);
            due("less by guilt and noise", desk("traits 1;suspect 4;told 0 5 1;noise 5;match off 0*50;").cut(way), 56);
            due("99 and 0", desk("traits 1;suspect 0;told 0 9 1;noise 0;match 99-off 0*11;").cut(way), 1);
            due("99 and 98", desk("traits 1;suspect 0;told 0 1 1;noise 0;match 99-off 0;").cut(way), 99);
            // 1 by 11 from 4 below 0 on.
            due("1 and 0 by noise", desk("traits 1;suspect 0;told 0 1 1;noise 5;match 1-off 0;").cut(way), 0);
            due("9 and 0 by noise", desk("traits 1;suspect 0;told 0 9 1;noise 1;match 9-off 0;").cut(way), 2);
        }
        // By guilt 1 and the filler 0, else 0 and the filler 1: at once a cut of 0 tells already.
        LineupDesk d = desk("traits 1;suspect 0;filler 1;told 0 1 1;noise 0;match 1-off 0;");
        due("a cut of 0", d.cut(AT_ONCE), 0);
        due("a cut of 1", d.cut(ONE_BY_ONE), 1);
    }

    private static void bestCutBlind() {
        says("BEST CUT (BLIND); asked, nothing stays changed");
        LineupDesk d = sure(99);
        d.change(2, 20);
        due("best cut", d.cut(ONE_BY_ONE), 25);
        due("cut", d.told(4), 99);
        due("acts", d.told(9), 2);
    }

    private static void lowestTerms() {
        says("Fractions are in lowest terms, the number below above 0 (0 by 1)");
        LineupDesk d = desk("traits 1;suspect 0;filler 0;noise 1;cut 50;match 50;");
        chances(d, ONE_BY_ONE, 0, false, true, 2, 3);
        d.change(1, 0);
        chances(d, ONE_BY_ONE, 0, false, true, 1, 1);
        chances(d, ONE_BY_ONE, 1, false, true, 0, 1);
        d.change(1, 120);
        chances(d, ONE_BY_ONE, 0, false, true, 0, 1);
        chances(d, ONE_BY_ONE, NONE, false, true, 1, 1);
        sizeIs(d, 0, 2, 1);
        d.mock(0);
        d.mock(0);
        d.mock(1);
        d.mock(1);
        sizeIs(d, 2, 2, 1);
    }

    private static void mostCases() {
        says("8 SHOWN, NOISE 5: exact odds");
        LineupDesk d = desk(withFillers(15) + "match 50;noise 5;cut 50;");
        long all = 214358881;
        chances(d, ONE_BY_ONE, NONE, true, true, 390625, all);
        chances(d, AT_ONCE, NONE, true, true, 390625, all);
        chances(d, ONE_BY_ONE, 7, true, true, 78125 * 6, all);
        d.change(1, 55);
        chances(d, AT_ONCE, 7, true, true, 10000000, all);
        d.change(1, 0);
        // Of all the last one alone has its feeling: 0, 1, 2 .. 10 to the power of 7.
        long sum = 0;
        for (long k = 0; k <= 10; k++) {
            sum += k * k * k * k * k * k * k;
        }
        chances(d, AT_ONCE, 7, true, true, sum / gcd(sum, all), all / gcd(sum, all));
        long first = 0;
        for (long k = 1; k <= 11; k++) {
            first += k * k * k * k * k * k * k;
        }
        chances(d, AT_ONCE, 0, true, true, first / gcd(first, all), all / gcd(first, all));
        d.change(3, 99);
        oddsOf(d, AT_ONCE, true, true, 99, 100);
    }

    private static long gcd(long one, long other) {
        return BigInteger.valueOf(one).gcd(BigInteger.valueOf(other)).longValue();
    }

    private static void printWrapsAround() {
        says("print: 31 times what there is, and its number, 31 times, and its MOCK picks; 31 times, and CUT");
        for (int count = 0; count <= 8; count++) {
            LineupDesk d = desk(withFillers(15));
            while (d.told(2) > 0) {
                d.hide(0);
            }
            BigInteger want = BigInteger.ZERO;
            BigInteger times = BigInteger.valueOf(31);
            for (int k = 0; k < count; k++) {
                d.show(15 - k);
                for (int j = 0; j < k; j++) {
                    d.mock(15 - k);
                }
                want = want.multiply(times).add(BigInteger.valueOf(15 - k)).multiply(times).add(BigInteger.valueOf(k));
            }
            d.change(1, 120);
            due("print of " + count, d.print(), want.multiply(times).add(BigInteger.valueOf(120)).longValue());
        }
    }
}
