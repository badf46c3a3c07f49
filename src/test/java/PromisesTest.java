/** Each promise of the document by hand: ordinary inputs, edges, wrong inputs. */
public final class PromisesTest extends Checks {
    public static void main(String[] args) {
        promise1();
        promise2();
        promise3();
        textForm();
        textFaults();
        promise4();
        promise5();
        promise6();
        promise7();
        promise8();
        promise9();
        promise10();
        promise11();
        promise12();
        promise13();
        promise14();
        promise15();
        promise16();
        promise17();
        promise18();
        promise19();
        promise20();
        promise21();
        promise22();
        promise23();
        promise24();
        exceptionOrder();
        finish("promises");
    }

    private static void promise1() {
        LineupDesk d = new LineupDesk();
        int[] want = {1, 1, 1, 2, 30, 5, 50, 0, 0, 0};
        for (int what = 0; what < want.length; what++) {
            due("new: told(" + what + ")", d.told(what), want[what]);
        }
        due("new: value", d.value(0, 0), 5);
        due("new: told value", d.trait(0, 0), 5);
        due("new: weight", d.trait(0, 1), 3);
        due("new: shown", d.shown(0), 0);
        due("new: match", d.match(0, false), 27);
        due("new: fault", d.fault(), NONE);
        due("new: undo", d.undo(), NONE);
        due("new: print", d.print(), 30);
        due("NONE", NONE, -1);
    }

    private static void promise2() {
        LineupDesk d = new LineupDesk();
        for (int k = 1; k <= 25; k++) {
            due("feed " + k, d.feed(0, 0, 0, 0, 0), 20 * k);
        }
        due("feed too much", d.feed(1, 2, 3, 4, 5), NONE);
        due("tape stays", d.told(8), 500);
        due("full tape is a fault at its first byte", d.text(500), -9);
        due("fault of it", d.fault(), 0);
        due("feed behind text", d.feed(0, 0, 0, 0, 0), 20);
        LineupDesk high = new LineupDesk();
        // "traits 1;suspect 7;" ends in a byte above 127, which can't stand there.
        high.feed(0x74726169, 0x74732031, 0x3b737573, 0x70656374, 0x20373bff);
        due("byte 255", high.text(20), -9);
        due("place of byte 255", high.fault(), 19);
        high.feed(0x74726169, 0x74732031, 0x3b737573, 0x70656374, 0x20373bff);
        due("ahead of byte 255", high.text(19), 1);
        due("value by bytes", high.value(0, 0), 7);
    }

    private static void promise3() {
        LineupDesk d = new LineupDesk();
        thrown("text(-1)", WRONG, () -> d.text(-1));
        thrown("text(1)", WRONG, () -> d.text(1));
        feedAll(d, "traits 2;suspect 1 2;filler 3 4;");
        thrown("text(41)", WRONG, () -> d.text(41));
        due("tape stays behind a throw", d.told(8), 40);
        due("persons", d.text(32), 2);
        due("tape is empty", d.told(8), 0);
        due("traits", d.told(0), 2);
        due("act", d.told(9), 1);
        d.mock(1);
        d.change(0, 0);
        d.change(1, 7);
        due("fault answer", tell(d, "traits 1;suspect 12;"), -8);
        due("tape is empty behind a fault", d.told(8), 0);
        due("all stays behind a fault: traits", d.told(0), 2);
        due("all stays behind a fault: mocks", d.mocks(1), 1);
        due("all stays behind a fault: cut", d.told(4), 7);
        due("a fault is no act", d.told(9), 4);
        due("told anew", tell(d, "traits 1;suspect 1;filler 3;"), 2);
        due("no mocks anew", d.mocks(1), 0);
        due("noise anew", d.told(3), 2);
        due("cut anew", d.told(4), 30);
        due("nothing told anew", d.trait(0, 0), NONE);
        due("no weight anew", d.trait(0, 1), 0);
        due("match of nothing told", d.match(0, false), 0);
        cutShort("    traits 1;suspect 1;", 0, 1, 0);
        cutShort("traits 1;suspect 12;", 18, 1, 18);
        cutShort("traits 1;suspect 1;cut 5;", 21, 1, 19);
        cutShort("traits 1;suspect 1;cut 5;", 22, 1, 22);
    }

    /** A text of which only the first bytes are taken: what stands behind them on the tape counts for nothing. */
    private static void cutShort(String text, int n, int kind, int place) {
        LineupDesk d = new LineupDesk();
        feedAll(d, text);
        due("first " + n + " of \"" + text + "\"", d.text(n), kind - 10);
        due("fault of it", d.fault(), place);
        due("tape behind it", d.told(8), 0);
    }

    private static void textForm() {
        fine("traits 1;suspect 0;", 1);
        fine("traits1;suspect0;", 1);
        fine("  traits  001  ;  suspect  0009  ;  ", 1);
        fine("traits 5;suspect 0 1 2 3 4;filler 5 6 7 8 9;", 2);
        fine("traits 1;told 0 9 9;told 0 0 1;filler 3;suspect 2;", 2);
        fine("traits 1;suspect 0;noise 0;cut 0;nudge 0;prior 1;", 1);
        fine("traits 1;suspect 0;noise 5;cut 120;nudge 20;prior 99;", 1);
        fine("traits 1;suspect 0;match((((1))));", 1);
        fine("traits 1;suspect 0;match----1;", 1);
        fine("traits 1;suspect 0;match -(-(1))*-(-(2))--(3)-1;", 1);
        fine("traits 1 ; suspect 0 ; match value0+off 0 * weight00 - ( 99 ) ;", 1);
        StringBuilder many = new StringBuilder("traits 1;suspect 0;");
        for (int k = 0; k < 15; k++) {
            many.append("filler ").append(k % 10).append(';');
        }
        fine(many.toString(), 16);
        StringBuilder all = new StringBuilder("traits 1;suspect 0;match 1");
        while (all.length() < 499) {
            all.append(all.length() % 2 == 0 ? '+' : '1');
        }
        all.setCharAt(498, ' ');
        fine(all.append(';').toString(), 1);
        LineupDesk last = desk("traits 1;told 0 3 4;suspect 2;told 0 5 6;");
        due("told again: value", last.trait(0, 0), 5);
        due("told again: weight", last.trait(0, 1), 6);
        LineupDesk set = desk("traits 1;suspect 0;noise 1;cut 2;nudge 3;prior 4;");
        for (int what = 3; what <= 6; what++) {
            due("told setting " + what, set.told(what), what - 2);
        }
    }

    private static void textFaults() {
        fault("", 1, 0);
        fault("   ", 1, 3);
        fault("traits", 1, 6);
        fault("traits  ", 1, 8);
        fault("Traits 1;", 1, 0);
        fault("  trait 1;", 1, 2);
        fault("traitsx 1;", 1, 0);
        fault("suspect 1;", 1, 0);
        fault("traits 0;", 2, 7);
        fault("traits 99999999999999999999;", 2, 7);
        fault("traits 4294967297;", 2, 7);
        fault("traits 1", 1, 8);
        fault("traits 1 1;", 1, 9);
        fault("traits 1;traits 1;", 1, 9);
        fault("traits 1;;", 1, 9);
        fault("traits 1;\tsuspect 1;", 1, 9);
        fault("traits 1;suspect 1; x", 1, 20);
        fault("traits 1;suspect 1;  ;", 1, 21);
        fault("traits 1;suspect;", 1, 16);
        fault("traits 1;suspect -1;", 1, 17);
        fault("traits 1;suspect 1 20;", 1, 19);
        fault("traits 2;suspect 12;", 2, 17);
        fault("traits 2;suspect 1 ;", 1, 19);
        fault("traits 2;suspect 1 2", 1, 20);
        fault("traits 1;suspect 1;suspect 99;", 1, 19);
        fault("traits 1;noise 1;noise 1;", 1, 17);
        fault("traits 1;cut 1;cut 1;", 1, 15);
        fault("traits 1;nudge 1;nudge 1;", 1, 17);
        fault("traits 1;prior 1;prior 1;", 1, 17);
        fault("traits 1;match 1;match 1;", 1, 17);
        fault("traits 1;cut 121;", 2, 13);
        fault("traits 1;nudge 21;", 2, 15);
        fault("traits 1;prior 100;", 2, 15);
        fault("traits 1;told 0 10 1;", 2, 16);
        fault("traits 1;told 0 1 10;", 2, 18);
        fault("traits 1;told 0 1;", 1, 17);
        fault("traits 1;match ;", 1, 15);
        fault("traits 1;match 1+;", 1, 17);
        fault("traits 1;match +1;", 1, 15);
        fault("traits 1;match 1 1;", 1, 17);
        fault("traits 1;match (1;", 1, 17);
        fault("traits 1;match 1);", 1, 16);
        fault("traits 1;match value;", 1, 20);
        fault("traits 1;match values 0;", 1, 15);
        fault("traits 1;match off 1;", 2, 19);
        fault("traits 1;match weight 9999999999;", 2, 22);
        fault("traits 1;match -----1;", 4, 19);
        fault("traits 1;match ((((-1))));", 4, 19);
        fault("traits 1;match 1-((((1-(2))));", 4, 23);
        fault("traits 1;match (((( ( x", 4, 20);
        fault("traits 1;match 1", 1, 16);
        fault("traits 1;filler 1;told 0 1 1;  ", 5, 31);
        fault("traits 1;", 5, 9);
        StringBuilder many = new StringBuilder("traits 1;");
        for (int k = 0; k < 15; k++) {
            many.append("filler 1;");
        }
        fault(many + "  filler 77;", 3, 146);
        fault(many + "filler", 3, 144);
    }

    private static void promise4() {
        LineupDesk d = new LineupDesk();
        due("fault ahead of any", d.fault(), NONE);
        tell(d, "traits 6;");
        due("fault", d.fault(), 7);
        thrown("text(5)", WRONG, () -> d.text(5));
        due("fault stays behind a throw", d.fault(), 7);
        tell(d, "traits 1;suspect 1;");
        due("fault without one", d.fault(), NONE);
        tell(d, "traits 1;x");
        d.undo();
        due("undo leaves the fault", d.fault(), 9);
    }

    private static final String TEN = "traits 1;suspect 0;filler 1;filler 2;filler 3;filler 4;"
            + "filler 5;filler 6;filler 7;filler 8;filler 9;";

    private static void promise5() {
        LineupDesk d = desk(TEN);
        due("shown at first", d.told(2), 8);
        due("last at first", d.shown(7), 7);
        thrown("show of a ninth", STATE, () -> d.show(8));
        thrown("show of one shown", STATE, () -> d.show(3));
        thrown("show(10)", MISSING, () -> d.show(10));
        thrown("show(-1)", MISSING, () -> d.show(-1));
        due("acts behind refusals", d.told(9), 1);
        due("hide", d.hide(0), 7);
        due("show 9", d.show(9), 8);
        due("9 is last", d.shown(7), 9);
        due("1 is first", d.shown(0), 1);
        thrown("show of one shown at 8", STATE, () -> d.show(9));
    }

    private static void promise6() {
        LineupDesk d = desk("traits 1;suspect 0;filler 1;filler 2;filler 3;");
        thrown("hide(-1)", MISSING, () -> d.hide(-1));
        thrown("hide(4)", MISSING, () -> d.hide(4));
        due("hide the second", d.hide(1), 3);
        due("place 0", d.shown(0), 0);
        due("place 1", d.shown(1), 2);
        due("place 2", d.shown(2), 3);
        due("hide the last", d.hide(2), 2);
        due("hide the first", d.hide(0), 1);
        due("hide the only", d.hide(0), 0);
        thrown("hide of none", MISSING, () -> d.hide(0));
    }

    private static void promise7() {
        LineupDesk d = new LineupDesk();
        int[] least = {0, 0, 0, 1};
        int[] most = {5, 120, 20, 99};
        int[] usual = {2, 30, 5, 50};
        for (int k = 0; k < 4; k++) {
            int what = k;
            due("change to least", d.change(what, least[what]), usual[what]);
            due("change to most", d.change(what, most[what]), least[what]);
            due("changed", d.told(what + 3), most[what]);
            thrown("change below", WRONG, () -> d.change(what, least[what] - 1));
            thrown("change above", WRONG, () -> d.change(what, most[what] + 1));
            due("change to the same", d.change(what, most[what]), most[what]);
        }
        thrown("change(-1)", WRONG, () -> d.change(-1, 1));
        thrown("change(4)", WRONG, () -> d.change(4, 1));
    }

    private static void promise8() {
        LineupDesk d = desk("traits 1;suspect 0;filler 1;");
        due("mock", d.mock(1), 1);
        due("mock again", d.mock(1), 2);
        due("mock the suspect", d.mock(0), 1);
        thrown("mock(2)", MISSING, () -> d.mock(2));
        thrown("mock(-1)", MISSING, () -> d.mock(-1));
        d.hide(1);
        thrown("mock of one hidden", STATE, () -> d.mock(1));
        due("mocks stay hiding", d.mocks(1), 2);
        d.show(1);
        due("mock shown again", d.mock(1), 3);
        for (int k = 4; k <= 999; k++) {
            due("mock up to 999", d.mock(1), k);
        }
        thrown("mock of 999", STATE, () -> d.mock(1));
    }

    private static void promise9() {
        LineupDesk d = new LineupDesk();
        for (int cut = 1; cut <= 10; cut++) {
            d.change(1, cut);
        }
        due("acts at most", d.told(9), 8);
        for (int left = 7; left >= 0; left--) {
            due("undo", d.undo(), left);
            due("cut behind undo", d.told(4), left + 2);
        }
        due("no undo more", d.undo(), NONE);
        due("cut stays", d.told(4), 2);
        tell(d, "traits 2;suspect 1 2;filler 3 4;told 1 2 3;");
        d.mock(1);
        d.hide(0);
        d.show(0);
        due("four acts", d.told(9), 4);
        due("undo show", d.undo(), 3);
        due("shown behind it", d.told(2), 1);
        due("undo hide", d.undo(), 2);
        due("suspect is first again", d.shown(0), 0);
        due("undo mock", d.undo(), 1);
        due("no mock", d.mocks(1), 0);
        feedAll(d, "abc");
        due("undo text", d.undo(), 0);
        due("traits again", d.told(0), 1);
        due("persons again", d.told(1), 1);
        due("told again", d.trait(0, 0), 5);
        due("match again", d.match(0, true), 27);
        due("cut again", d.told(4), 2);
        due("tape is no act", d.told(8), 20);
        d.change(1, 50);
        due("an act behind undo", d.told(9), 1);
        due("undo it", d.undo(), 0);
        due("cut as it was", d.told(4), 2);
    }

    private static void promise10() {
        LineupDesk d = desk("traits 3;suspect 1 2 3;filler 1 1 1;filler 2 2 2;noise 3;cut 44;nudge 6;prior 77;");
        d.mock(1);
        d.mock(2);
        d.mock(2);
        d.hide(2);
        d.feed(0, 0, 0, 0, 0);
        int[] want = {3, 3, 2, 3, 44, 6, 77, 3, 20, 5};
        for (int what = 0; what < want.length; what++) {
            due("told(" + what + ")", d.told(what), want[what]);
        }
        thrown("told(-1)", WRONG, () -> d.told(-1));
        thrown("told(10)", WRONG, () -> d.told(10));
    }

    private static void promise11() {
        LineupDesk d = desk("traits 2;suspect 1 2;told 1 0 9;");
        due("nothing told: value", d.trait(0, 0), NONE);
        due("nothing told: weight", d.trait(0, 1), 0);
        due("told value", d.trait(1, 0), 0);
        due("told weight", d.trait(1, 1), 9);
        thrown("trait(2)", MISSING, () -> d.trait(2, 0));
        thrown("trait(-1)", MISSING, () -> d.trait(-1, 0));
        thrown("trait what 2", WRONG, () -> d.trait(0, 2));
        thrown("trait what -1", WRONG, () -> d.trait(0, -1));
    }

    private static void promise12() {
        LineupDesk d = desk("traits 2;filler 3 4;suspect 1 2;filler 5 6;");
        for (int person = 0; person < 3; person++) {
            due("value 0", d.value(person, 0), 2 * person + 1);
            due("value 1", d.value(person, 1), 2 * person + 2);
        }
        thrown("value(3, 0)", MISSING, () -> d.value(3, 0));
        thrown("value(-1, 0)", MISSING, () -> d.value(-1, 0));
        thrown("value(0, 2)", MISSING, () -> d.value(0, 2));
        thrown("value(0, -1)", MISSING, () -> d.value(0, -1));
    }

    private static void promise13() {
        LineupDesk d = desk("traits 1;suspect 1;filler 2;");
        due("shown(1)", d.shown(1), 1);
        thrown("shown(2)", MISSING, () -> d.shown(2));
        thrown("shown(-1)", MISSING, () -> d.shown(-1));
    }

    private static void matchIs(String formula, int want) {
        LineupDesk d = desk("traits 2;suspect 3 7;told 1 5 4;match " + formula + ";");
        due("match of " + formula, d.match(0, false), want);
    }

    private static void promise14() {
        LineupDesk plain = desk("traits 2;suspect 3 7;filler 9 0;told 0 3 9;told 1 5 9;");
        due("plain match held", plain.match(0, false), 99);
        due("plain match", plain.match(1, false), 63);
        due("plain match by guilt", plain.match(1, true), 45);
        LineupDesk part = desk("traits 2;suspect 3 7;filler 9 0;told 1 5 9;match off 0*10+off 1+weight 0;");
        due("off of nothing told", part.match(1, false), 5);
        due("off by guilt", part.match(1, true), 7);
        due("off of the suspect by guilt", part.match(0, true), 0);
        matchIs("value 0*10+value 1", 37);
        matchIs("off 1*10+weight 1", 24);
        matchIs("weight 0+off 0", 0);
        matchIs("2+3*4", 14);
        matchIs("(2+3)*4", 20);
        matchIs("20-5-3", 12);
        matchIs("20-(5-3)", 18);
        matchIs("-5*-3", 15);
        matchIs("2--3", 5);
        matchIs("-(2-9)", 7);
        matchIs("--9", 9);
        matchIs("99+1", 99);
        matchIs("1-2", 0);
        matchIs("99*99*99*99-99*99*99*99+5", 5);
        matchIs("99*99*99*99+99-99*99*99*99", 0);
        matchIs("0-99*99*99*99-99+99*99*99*99", 0);
        matchIs("99*99*99*-99+99*99*99*99+8", 8);
        LineupDesk later = desk("traits 1;match weight 0+off 0;told 0 1 2;filler 9;suspect 4;told 0 2 3;");
        due("formula ahead of the rest", later.match(1, false), 10);
        due("formula ahead of the rest by guilt", later.match(1, true), 8);
        thrown("match(2)", MISSING, () -> later.match(2, true));
        thrown("match(-1)", MISSING, () -> later.match(-1, false));
    }

    private static void promise15() {
        LineupDesk d = desk("traits 1;suspect 1;filler 2;");
        due("no mocks", d.mocks(1), 0);
        d.mock(1);
        due("a mock", d.mocks(1), 1);
        thrown("mocks(2)", MISSING, () -> d.mocks(2));
        thrown("mocks(-1)", MISSING, () -> d.mocks(-1));
    }

    private static void promise16() {
        LineupDesk d = desk("traits 5;suspect 1 2 3 4 5;filler 1 9 3 9 5;filler 9 9 9 9 9;");
        due("alike(0, 1)", d.alike(0, 1), 21);
        due("alike(1, 2)", d.alike(1, 2), 10);
        due("alike(0, 2)", d.alike(0, 2), 0);
        due("alike(2, 2)", d.alike(2, 2), 31);
        thrown("alike(3, 0)", MISSING, () -> d.alike(3, 0));
        thrown("alike(0, 3)", MISSING, () -> d.alike(0, 3));
        thrown("alike(-1, 0)", MISSING, () -> d.alike(-1, 0));
    }

    private static void promise17() {
        // Two alike: FEELINGS 29 to 31 each, the cut at 30.
        LineupDesk d = desk("traits 1;suspect 3;filler 3;noise 1;cut 30;nudge 1;match value 0*10;");
        chances(d, 0, 0, false, true, 2, 3);
        chances(d, 0, 1, false, true, 2, 9);
        chances(d, 0, NONE, false, true, 1, 9);
        chances(d, 1, 0, false, true, 5, 9);
        chances(d, 1, 1, false, true, 1, 3);
        chances(d, 1, NONE, false, true, 1, 9);
        chances(d, 0, 0, false, false, 1, 1);
        chances(d, 1, 0, false, false, 8, 9);
        chances(d, 1, 1, false, false, 1, 9);
        d.hide(0);
        d.show(0);
        chances(d, 1, 0, false, true, 1, 3);
        chances(d, 1, 1, false, true, 5, 9);
        d.hide(1);
        chances(d, 0, 0, false, true, 0, 1);
        chances(d, 1, 0, true, false, 0, 1);
        d.hide(0);
        chances(d, 0, NONE, false, true, 1, 1);
        chances(d, 1, NONE, true, false, 1, 1);
        thrown("chance of person 2", MISSING, () -> d.chance(0, 2, true, true, 0));
        thrown("chance of person -2", MISSING, () -> d.chance(0, -2, true, true, 0));
        thrown("chance by way 2", WRONG, () -> d.chance(2, NONE, true, true, 0));
        thrown("chance by way -1", WRONG, () -> d.chance(-1, 0, true, true, 0));
        thrown("chance what 2", WRONG, () -> d.chance(0, 0, true, true, 2));
        thrown("chance what -1", WRONG, () -> d.chance(0, 0, true, true, -1));
        LineupDesk all = desk(TEN + "noise 5;cut 2;match 0;");
        // Each one is below the cut by 7 of 11, eight of them.
        chances(all, 1, NONE, true, true, 5764801, 214358881);
        chances(all, 0, 7, true, true, 4 * 823543L, 214358881);
    }

    private static void promise18() {
        LineupDesk d = desk("traits 1;suspect 4;filler 2;filler 0;match value 0;");
        fraction("size", () -> d.size(0), () -> d.size(1), 9, 5);
        fraction("no mock size", () -> d.size(2), () -> d.size(3), 0, 1);
        d.mock(0);
        d.mock(0);
        d.mock(2);
        fraction("mock size", () -> d.size(2), () -> d.size(3), 9, 5);
        d.hide(0);
        fraction("size of less", () -> d.size(0), () -> d.size(1), 1, 1);
        fraction("mock size of less", () -> d.size(2), () -> d.size(3), 1, 1);
        d.hide(0);
        fraction("size of a match 0", () -> d.size(0), () -> d.size(1), 0, 1);
        thrown("size(4)", WRONG, () -> d.size(4));
        thrown("size(-1)", WRONG, () -> d.size(-1));
    }

    private static void promise19() {
        LineupDesk d = desk("traits 1;suspect 4;filler 9;filler 4;filler 1;filler 4;match value 0;");
        due("fairest of 2", d.fairest(2, 0), 4);
        fraction("its size", () -> d.fairest(2, 1), () -> d.fairest(2, 2), 2, 1);
        due("fairest of 3", d.fairest(3, 0), 20);
        fraction("its size", () -> d.fairest(3, 1), () -> d.fairest(3, 2), 3, 1);
        due("fairest of 5", d.fairest(5, 0), 30);
        fraction("its size", () -> d.fairest(5, 1), () -> d.fairest(5, 2), 22 * 22 / 2, 130 / 2);
        for (int what = 0; what <= 2; what++) {
            due("fairest of 6", d.fairest(6, what), NONE);
        }
        LineupDesk zero = desk("traits 1;suspect 4;filler 9;filler 4;filler 1;match 0;");
        due("fairest of none that match", zero.fairest(3, 0), 6);
        fraction("its size", () -> zero.fairest(3, 1), () -> zero.fairest(3, 2), 0, 1);
        LineupDesk one = desk("traits 1;suspect 0;filler 0;filler 1;match value 0;");
        due("fairest of one that matches", one.fairest(2, 0), 4);
        fraction("its size", () -> one.fairest(2, 1), () -> one.fairest(2, 2), 1, 1);
        thrown("fairest(1)", WRONG, () -> d.fairest(1, 0));
        thrown("fairest(9)", WRONG, () -> d.fairest(9, 0));
        thrown("fairest what 3", WRONG, () -> d.fairest(2, 3));
        thrown("fairest what 3 of too many", WRONG, () -> d.fairest(6, 3));
        thrown("fairest what -1", WRONG, () -> d.fairest(2, -1));
        LineupDesk hidden = desk(TEN + "match 7;");
        hidden.hide(1);
        due("fairest looks at all fillers", hidden.fairest(8, 0), 254);
    }

    private static void promise20() {
        // By guilt 27 (suspect), not by guilt 24; the filler is far off.
        LineupDesk d = desk("traits 1;suspect 4;filler 0;told 0 5 3;noise 2;cut 26;nudge 1;prior 40;");
        // By guilt 4 of 5, else 1 of 5.
        oddsOf(d, 0, true, true, 40 * 4 / 20, (40 * 4 + 60) / 20);
        oddsOf(d, 1, true, true, 8, 11);
        oddsOf(d, 1, true, false, 40 / 40, (40 + 60 * 4) / 40);
        oddsOf(d, 0, false, true, 200 / 40, (200 + 120) / 40);
        oddsOf(d, 0, false, false, 0, 1);
        d.change(1, 120);
        oddsOf(d, 0, true, true, 0, 1);
        oddsOf(d, 0, true, false, 2, 5);
        thrown("odds by way 2", WRONG, () -> d.odds(2, true, true, 0));
        thrown("odds by way -1", WRONG, () -> d.odds(-1, true, true, 0));
        thrown("odds what 2", WRONG, () -> d.odds(0, true, true, 2));
        thrown("odds what -1", WRONG, () -> d.odds(0, true, true, -1));
        d.hide(0);
        thrown("odds without the suspect", STATE, () -> d.odds(0, true, true, 0));
    }

    private static void promise21() {
        LineupDesk d = desk("traits 1;suspect 4;filler 0;told 0 5 3;noise 2;nudge 20;cut 3;");
        // 25 to 29 by guilt, 22 to 26 else: 25 to 27 tell 3 fifths.
        due("best cut one by one", d.cut(0), 25);
        due("best cut at once", d.cut(1), 25);
        due("asked, the cut stays", d.told(4), 3);
        LineupDesk high = desk("traits 1;suspect 9;told 0 0 9;match 99-weight 0*off 0;noise 0;");
        due("best cut of 18 and 99", high.cut(0), 19);
        LineupDesk worse = desk("traits 1;suspect 9;told 0 0 9;match weight 0*off 0;noise 0;");
        due("best cut if guilt tells against", worse.cut(0), 0);
        thrown("cut(2)", WRONG, () -> d.cut(2));
        thrown("cut(-1)", WRONG, () -> d.cut(-1));
        d.hide(0);
        thrown("cut without the suspect", STATE, () -> d.cut(1));
    }

    private static void promise22() {
        LineupDesk d = desk("traits 1;suspect 4;told 0 5 3;noise 1;cut 26;nudge 2;");
        // 23 to 25 not by guilt; by the nudge 25 to 27: 2 of 3.
        due("nudged one by one", d.nudged(0), 66);
        due("nudged at once", d.nudged(1), 66);
        d.change(2, 0);
        due("no nudge", d.nudged(0), 0);
        d.change(2, 20);
        due("nudged wholly", d.nudged(1), 100);
        thrown("nudged(2)", WRONG, () -> d.nudged(2));
        thrown("nudged(-1)", WRONG, () -> d.nudged(-1));
        d.hide(0);
        thrown("nudged without the suspect", STATE, () -> d.nudged(0));
    }

    private static void promise23() {
        LineupDesk d = desk("traits 1;suspect 4;filler 1;cut 7;");
        d.hide(0);
        d.show(0);
        d.mock(1);
        d.mock(1);
        d.mock(0);
        due("print", d.print(), (((31L + 2) * 31 + 0) * 31 + 1) * 31 + 7);
        d.hide(0);
        due("print of one", d.print(), 31 + 7);
        d.hide(0);
        due("print of none", d.print(), 7);
        LineupDesk wide = desk(TEN);
        for (int k = 0; k < 2; k++) {
            wide.hide(0);
            wide.show(8 + k);
        }
        long sum = 0;
        for (int k = 0; k < 8; k++) {
            sum = (sum * 31 + k + 2) * 31;
        }
        due("print wraps around", wide.print(), sum * 31 + 30);
    }

    private static void promise24() {
        LineupDesk d = new LineupDesk();
        for (int k = 0; k < 3; k++) {
            thrown("shown(9)", MISSING, () -> d.shown(9));
        }
        thrown("told(99)", WRONG, () -> d.told(99));
        thrown("told(99)", WRONG, () -> d.told(99));
        thrown("show(0)", STATE, () -> d.show(0));
        d.undo();
        tell(d, "x");
        due("status(0)", d.status(0), 3);
        due("status(1)", d.status(1), 2);
        due("status(2)", d.status(2), 1);
        due("status(3)", d.status(3), NONE);
        due("status(-1)", d.status(-1), NONE);
        d.change(1, 1);
        d.undo();
        due("undo leaves status", d.status(0), 3);
    }

    private static void exceptionOrder() {
        LineupDesk d = desk("traits 1;suspect 4;filler 1;");
        d.hide(0);
        thrown("trait(9, 9)", MISSING, () -> d.trait(9, 9));
        thrown("chance(9, 9)", MISSING, () -> d.chance(9, 9, true, true, 9));
        thrown("odds(9)", WRONG, () -> d.odds(9, true, true, 0));
        thrown("odds what 9", WRONG, () -> d.odds(0, true, true, 9));
        thrown("cut(9)", WRONG, () -> d.cut(9));
        thrown("nudged(9)", WRONG, () -> d.nudged(9));
        thrown("show(9)", MISSING, () -> d.show(9));
        thrown("mock(9)", MISSING, () -> d.mock(9));
        due("missing", d.status(0), 4);
        due("wrong", d.status(1), 4);
        due("state", d.status(2), 0);
    }
}
