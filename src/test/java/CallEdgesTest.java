import java.util.ArrayList;
import java.util.LinkedHashMap;
import java.util.List;
import java.util.Map;
import java.util.function.IntFunction;
import java.util.function.ToLongFunction;

/** The sentences of the promises on calls, refusals and acts: each at its edge and just beside it. */
public final class CallEdgesTest extends Checks {
    private static final String THREE = "traits 2;suspect 1 2;filler 3 4;filler 1 9;told 1 5 3;cut 12;";
    private static final int LEAST = Integer.MIN_VALUE;
    private static final int MOST = Integer.MAX_VALUE;

    public static void main(String[] args) {
        newObject();
        newObjectAsByItsText();
        feedUpTo500();
        feedHighestFirst();
        textFromNoneToAll();
        textEmptiesTheTape();
        textTellsAllAnew();
        textWithFault();
        faultOfLatestText();
        persons();
        places();
        traits();
        showEdges();
        hideEdges();
        changeEdges();
        mockEdges();
        undoOfLatestEight();
        undoOfEachAct();
        actsAndNoActs();
        whats();
        ways();
        fairestNumbers();
        chanceOfNobodyAndHidden();
        alikeBits();
        suspectNotShown();
        nudgedCutTowardsZero();
        exceptionToldFirst();
        refusedCallsChangeNothing();
        askedCallsChangeNothing();
        statusCounts();
        fiveHundredTwelveCalls();
        finish("call edges");
    }

    /** All that can be asked of a small lineup, but status(). */
    private static String all(LineupDesk d) {
        StringBuilder s = new StringBuilder();
        for (int what = 0; what <= 9; what++) {
            s.append(" told").append(what).append('=').append(d.told(what));
        }
        int people = d.told(1);
        for (int t = 0; t < d.told(0); t++) {
            s.append(" trait").append(t).append('=').append(d.trait(t, 0)).append('/').append(d.trait(t, 1));
            for (int p = 0; p < people; p++) {
                s.append(' ').append(d.value(p, t));
            }
        }
        for (int k = 0; k < d.told(2); k++) {
            s.append(" shown").append(k).append('=').append(d.shown(k));
        }
        for (int p = 0; p < people; p++) {
            s.append(" person").append(p).append('=').append(d.match(p, false)).append('/').append(d.match(p, true));
            s.append('/').append(d.mocks(p)).append('/').append(d.alike(0, p));
        }
        s.append(" sizes=").append(d.size(0)).append('/').append(d.size(1)).append('/').append(d.size(2))
                .append('/').append(d.size(3));
        s.append(" fault=").append(d.fault()).append(" print=").append(d.print());
        for (int way = 0; way < 2; way++) {
            s.append(" chance=").append(d.chance(way, 0, false, false, 0)).append('/').append(d.chance(way, 0, true, true, 1));
            if (shows(d, 0)) {
                s.append(" odds=").append(d.odds(way, true, true, 0)).append('/').append(d.odds(way, false, false, 1));
                s.append(" cut=").append(d.cut(way)).append(" nudged=").append(d.nudged(way));
            }
        }
        return s.append(" fairest=").append(d.fairest(2, 0)).append('/').append(d.fairest(3, 1)).toString();
    }

    private static boolean shows(LineupDesk d, int person) {
        for (int k = 0; k < d.told(2); k++) {
            if (d.shown(k) == person) {
                return true;
            }
        }
        return false;
    }

    private static void same(String name, String got, String want) {
        if (!got.equals(want)) {
            fail(name + " is" + got + ", due is" + want);
        }
    }

    private static void newObject() {
        says("At first: \"traits 1; suspect 5; told 0 5 3;\"");
        LineupDesk d = new LineupDesk();
        int[] want = {1, 1, 1, 2, 30, 5, 50, 0, 0, 0};
        for (int what = 0; what < want.length; what++) {
            due("told(" + what + ")", d.told(what), want[what]);
        }
        due("value", d.value(0, 0), 5);
        due("value told", d.trait(0, 0), 5);
        due("weight", d.trait(0, 1), 3);
        due("match", d.match(0, false), 27);
        due("nothing to take back", d.undo(), NONE);
        due("still so", d.told(0), 1);
        for (int what = 0; what < 3; what++) {
            due("status", d.status(what), 0);
        }
    }

    private static void newObjectAsByItsText() {
        says("At first as by its text, without an act");
        LineupDesk told = desk("traits 1; suspect 5; told 0 5 3;");
        same("all of a text", all(told).replace("told9=1", "told9=0"), all(new LineupDesk()));
        told.undo();
        same("all behind undo", all(told), all(new LineupDesk()));
    }

    private static void feedUpTo500() {
        says("feed: NONE, doing nothing, if there would be more than 500");
        LineupDesk d = new LineupDesk();
        // The tape's last bytes are "7;" behind 498 that hold the rest.
        String text = "traits 1;" + " ".repeat(481) + "suspect 7;";
        due("bytes", text.length(), 500);
        feedAll(d, text.substring(0, 480));
        due("480 bytes", d.told(8), 480);
        feedAll(d, text.substring(480));
        due("500 bytes", d.told(8), 500);
        for (int k = 0; k < 3; k++) {
            due("no more", d.feed(-1, -1, -1, -1, -1), NONE);
            due("500 bytes still", d.told(8), 500);
        }
        due("it was not fed", d.text(500), 1);
        due("value", d.value(0, 0), 7);
        due("room again", d.feed(0, 0, 0, 0, 0), 20);
    }

    private static void feedHighestFirst() {
        says("feed: Twenty bytes, of each number the highest first");
        LineupDesk d = new LineupDesk();
        due("feed", d.feed(0x74726169, 0x74732031, 0x3b737573, 0x70656374, 0x20373b20), 20);
        due("text", d.text(20), 1);
        due("value", d.value(0, 0), 7);
        // A byte of 128 and more is no other sign, and no number below 0.
        for (int sign = 128; sign < 256; sign++) {
            LineupDesk high = new LineupDesk();
            high.feed(0x74726169, 0x74732031, 0x3b737573, 0x70656374, 0x20373b00 | sign);
            due("text of byte " + sign, high.text(20), -9);
            due("place of byte " + sign, high.fault(), 19);
        }
    }

    private static void textFromNoneToAll() {
        says("text: IllegalArgumentException: n is not 0 to the TAPE's bytes (it stays)");
        LineupDesk d = new LineupDesk();
        thrown("text(1) of none", WRONG, () -> d.text(1));
        thrown("text(-1) of none", WRONG, () -> d.text(-1));
        due("text(0) of none", d.text(0), -9);
        due("its fault", d.fault(), 0);
        feedAll(d, "traits 1;suspect 8; ");
        for (int n : new int[] {LEAST, -1, 21, 500, 501, MOST}) {
            thrown("text(" + n + ")", WRONG, () -> d.text(n));
            due("tape stays", d.told(8), 20);
            due("fault stays", d.fault(), 0);
        }
        due("text(20)", d.text(20), 1);
        due("value", d.value(0, 0), 8);
        thrown("text(20) again", WRONG, () -> d.text(20));
    }

    private static void textEmptiesTheTape() {
        says("text: The first n bytes of the TAPE (empty then); all but the TAPE stays");
        LineupDesk d = new LineupDesk();
        feedAll(d, "traits 1;suspect 8; cut 7;");
        due("40 bytes", d.told(8), 40);
        due("19 of them", d.text(19), 1);
        due("empty", d.told(8), 0);
        due("no cut", d.told(4), 30);
        feedAll(d, "traits 1;suspect 9; cut 7;");
        due("24 of them", d.text(24), -9);
        due("its fault", d.fault(), 24);
        due("empty behind a fault", d.told(8), 0);
        feedAll(d, "traits 1;suspect 9;");
        due("0 of them", d.text(0), -9);
        due("empty behind text(0)", d.told(8), 0);
        due("value", d.value(0, 0), 8);
    }

    private static void textTellsAllAnew() {
        says("text: tell all anew (no MOCK picks): how many PERSONS");
        LineupDesk d = desk("traits 5;suspect 1 2 3 4 5;filler 1 1 1 1 1;told 0 1 1;told 4 1 1;match 5;"
                + "noise 1;cut 2;nudge 3;prior 4;");
        d.mock(0);
        d.mock(1);
        d.hide(0);
        due("persons", tell(d, "traits 2;suspect 6 7;"), 1);
        int[] want = {2, 1, 1, 2, 30, 5, 50, 0, 0, 5};
        for (int what = 0; what < want.length; what++) {
            due("told(" + what + ")", d.told(what), want[what]);
        }
        for (int trait = 0; trait < 2; trait++) {
            due("nothing told", d.trait(trait, 0), NONE);
            due("no weight", d.trait(trait, 1), 0);
        }
        due("no formula", d.match(0, false), 0);
        due("no mocks", d.mocks(0), 0);
        due("the suspect is shown", d.shown(0), 0);
        thrown("no third trait", MISSING, () -> d.trait(2, 0));
        thrown("no filler", MISSING, () -> d.mocks(1));
    }

    private static void textWithFault() {
        says("text: or the FAULT less 10 (all but the TAPE stays)");
        String full = "traits 1;" + "filler 1;".repeat(15);
        String[] texts = {"x", "traits 6;", full + "filler 1;", "traits 1;match -----1;", full};
        for (int kind = 1; kind <= 5; kind++) {
            LineupDesk d = desk(THREE);
            d.mock(2);
            d.hide(0);
            String before = all(d);
            due("fault " + kind, tell(d, texts[kind - 1]), kind - 10);
            int place = d.fault();
            same("all behind fault " + kind, all(d).replace("fault=" + place, "fault=-1"), before);
            due("undo behind it", d.undo(), 2);
            due("the suspect is back", d.shown(0), 0);
        }
    }

    private static void faultOfLatestText() {
        says("fault: of the latest text() that threw nothing; NONE without one, and ahead of any");
        LineupDesk d = new LineupDesk();
        due("ahead of any", d.fault(), NONE);
        thrown("a text that throws", WRONG, () -> d.text(1));
        due("ahead of any that threw nothing", d.fault(), NONE);
        tell(d, "traits 9;");
        due("a fault", d.fault(), 7);
        tell(d, "traits 1;x");
        due("the latest", d.fault(), 9);
        thrown("a text that throws", WRONG, () -> d.text(-1));
        due("stays", d.fault(), 9);
        tell(d, THREE);
        due("without one", d.fault(), NONE);
        thrown("a text that throws", WRONG, () -> d.text(5));
        due("stays without one", d.fault(), NONE);
    }

    /** A call refused for each of some numbers. */
    private static void refused(String name, String want, IntFunction<Call> call, int... numbers) {
        for (int number : numbers) {
            thrown(name + " of " + number, want, call.apply(number));
        }
    }

    private static void persons() {
        says("NoSuchElementException: no such PERSON");
        for (int fillers : new int[] {0, 2, 15}) {
            LineupDesk d = desk("traits 1;suspect 1;" + "filler 2;".repeat(fillers));
            int[] none = {LEAST, -2, -1, fillers + 1, fillers + 2, 16, 858993459, 858993460, MOST};
            refused("show", MISSING, p -> () -> d.show(p), none);
            refused("mock", MISSING, p -> () -> d.mock(p), none);
            refused("value", MISSING, p -> () -> d.value(p, 0), none);
            refused("match", MISSING, p -> () -> d.match(p, false), none);
            refused("match by guilt", MISSING, p -> () -> d.match(p, true), none);
            refused("mocks", MISSING, p -> () -> d.mocks(p), none);
            refused("alike one", MISSING, p -> () -> d.alike(p, 0), none);
            refused("alike other", MISSING, p -> () -> d.alike(0, p), none);
            refused("chance", MISSING, p -> () -> d.chance(0, p, true, true, 0),
                    LEAST, -2, fillers + 1, fillers + 2, 16, 858993460, MOST);
            due("refused", d.status(0), 8 * none.length + 7);
            due("the last one's mocks", d.mocks(fillers), 0);
            due("the last one's value", d.value(fillers, 0), fillers == 0 ? 1 : 2);
            due("the last one is like itself", d.alike(fillers, fillers), 1);
        }
    }

    private static void places() {
        says("NoSuchElementException: no such place");
        LineupDesk d = desk(THREE);
        refused("shown", MISSING, k -> () -> d.shown(k), LEAST, -1, 3, 4, 8, MOST);
        refused("hide", MISSING, k -> () -> d.hide(k), LEAST, -1, 3, 4, 8, MOST);
        due("the first", d.shown(0), 0);
        due("the last", d.shown(2), 2);
        d.hide(2);
        refused("shown", MISSING, k -> () -> d.shown(k), 2, 3);
        due("the last now", d.shown(1), 1);
        d.hide(0);
        d.hide(0);
        refused("shown of none", MISSING, k -> () -> d.shown(k), -1, 0, 1);
        refused("hide of none", MISSING, k -> () -> d.hide(k), -1, 0, 1);
    }

    private static void traits() {
        says("NoSuchElementException: no such TRAIT");
        for (int count = 1; count <= 5; count++) {
            LineupDesk d = desk("traits " + count + ";suspect" + " 3".repeat(count) + ";told " + (count - 1) + " 8 7;");
            int[] none = {LEAST, -1, count, count + 1, 5, MOST};
            refused("trait", MISSING, t -> () -> d.trait(t, 0), none);
            refused("trait", MISSING, t -> () -> d.trait(t, 1), none);
            refused("value", MISSING, t -> () -> d.value(0, t), none);
            due("the last one's value", d.value(0, count - 1), 3);
            due("the last one's value told", d.trait(count - 1, 0), 8);
            due("the last one's weight", d.trait(count - 1, 1), 7);
            due("refused", d.status(0), 3 * none.length);
        }
    }

    private static void showEdges() {
        says("show: behind all others: how many are. IllegalStateException: it is SHOWN, there are 8");
        LineupDesk d = desk("traits 1;suspect 1;" + "filler 2;".repeat(15));
        for (int k = 0; k < 8; k++) {
            d.hide(0);
        }
        for (int k = 0; k < 8; k++) {
            int person = 15 - 2 * k;
            due("show", d.show(person), k + 1);
            due("last", d.shown(k), person);
            thrown("show again", STATE, () -> d.show(person));
        }
        thrown("a ninth", STATE, () -> d.show(0));
        due("still eight", d.told(2), 8);
        due("first", d.shown(0), 15);
        due("refused", d.status(2), 9);
    }

    private static void hideEdges() {
        says("hide: The k-th one SHOWN is so no more: how many are");
        for (int k = 0; k < 8; k++) {
            LineupDesk d = desk("traits 1;suspect 1;" + "filler 2;".repeat(7));
            due("hide", d.hide(k), 7);
            for (int place = 0; place < 7; place++) {
                due("place " + place + " behind hide(" + k + ")", d.shown(place), place < k ? place : place + 1);
            }
            thrown("no eighth place", MISSING, () -> d.shown(7));
            due("shown again", d.show(k), 8);
            due("behind all others", d.shown(7), k);
        }
    }

    private static void changeEdges() {
        says("change: what it was. IllegalArgumentException: another what, n");
        int[] least = {0, 0, 0, 1};
        int[] most = {5, 120, 20, 99};
        int[] was = {2, 30, 5, 50};
        for (int k = 0; k < 4; k++) {
            int what = k;
            LineupDesk d = new LineupDesk();
            refused("change " + what, WRONG, n -> () -> d.change(what, n), LEAST, -1, least[what] - 1, most[what] + 1, MOST);
            due("no act", d.told(9), 0);
            due("stays", d.told(3 + what), was[what]);
            due("to the least", d.change(what, least[what]), was[what]);
            due("is the least", d.told(3 + what), least[what]);
            due("to the most", d.change(what, most[what]), least[what]);
            due("is the most", d.told(3 + what), most[what]);
            due("to the same", d.change(what, most[what]), most[what]);
            due("three acts", d.told(9), 3);
            for (int other = 0; other < 4; other++) {
                due("others stay", d.told(3 + other), other == what ? most[what] : was[other]);
            }
        }
        LineupDesk d = new LineupDesk();
        refused("change", WRONG, what -> () -> d.change(what, 1), LEAST, -1, 4, 5, MOST);
        due("refused once each", d.status(1), 5);
        thrown("both wrong", WRONG, () -> d.change(4, -1));
        due("refused once", d.status(1), 6);
    }

    private static void mockEdges() {
        says("mock: how many it has. IllegalStateException: it is not SHOWN, it has 999");
        LineupDesk d = desk(THREE);
        due("first", d.mock(2), 1);
        due("second", d.mock(2), 2);
        due("of another", d.mock(0), 1);
        d.hide(2);
        thrown("not shown", STATE, () -> d.mock(2));
        due("stays", d.mocks(2), 2);
        due("all", d.told(7), 3);
        d.show(2);
        due("shown again", d.mock(2), 3);
        for (int k = 4; k <= 999; k++) {
            due("up to 999", d.mock(2), k);
        }
        thrown("it has 999", STATE, () -> d.mock(2));
        due("stays at 999", d.mocks(2), 999);
        due("another has not", d.mock(0), 2);
        due("of all", d.told(7), 1001);
        d.undo();
        d.undo();
        due("998 again", d.mocks(2), 998);
        due("999 again", d.mock(2), 999);
        due("mock size below", d.size(3), (999L * 999 + 1) / 2);
        due("mock size above", d.size(2), 1000L * 1000 / 2);
        LineupDesk full = desk("traits 1;suspect 1;" + "filler 2;".repeat(15));
        full.hide(0);
        full.show(15);
        due("of the last filler", full.mock(15), 1);
        due("of all with it", full.told(7), 1);
    }

    private static void undoOfLatestEight() {
        says("undo() takes the latest one back that is not yet, of the latest 8; NONE: none could");
        for (int count = 0; count <= 12; count++) {
            LineupDesk d = new LineupDesk();
            for (int cut = 1; cut <= count; cut++) {
                d.change(1, 100 + cut);
                due("can be taken back", d.told(9), Math.min(8, cut));
            }
            int kept = Math.min(8, count);
            for (int left = kept - 1; left >= 0; left--) {
                due("undo", d.undo(), left);
                due("can be taken back still", d.told(9), left);
                int cut = count - kept + left;
                due("cut", d.told(4), cut == 0 ? 30 : 100 + cut);
            }
            for (int k = 0; k < 2; k++) {
                due("none could", d.undo(), NONE);
                due("none can", d.told(9), 0);
                due("cut stays", d.told(4), count <= 8 ? 30 : 100 + count - 8);
            }
            due("an act anew", d.change(1, 7), count <= 8 ? 30 : 100 + count - 8);
            due("it can be taken back", d.told(9), 1);
            due("undo of it", d.undo(), 0);
        }
        LineupDesk d = new LineupDesk();
        d.change(1, 1);
        d.change(1, 2);
        d.undo();
        d.change(1, 3);
        due("two acts", d.told(9), 2);
        d.undo();
        due("the one ahead of what was taken back", d.told(4), 1);
        d.undo();
        due("as at first", d.told(4), 30);
    }

    private static void undoOfEachAct() {
        says("ACTS: text() without a FAULT, show(), hide(), change(), mock(); all taken back");
        Map<String, ToLongFunction<LineupDesk>> acts = new LinkedHashMap<>();
        acts.put("text", d -> tell(d, "traits 1;suspect 9;noise 0;cut 1;nudge 2;prior 3;match 4;"));
        acts.put("show", d -> d.show(0));
        acts.put("hide the first", d -> d.hide(0));
        acts.put("hide the last", d -> d.hide(1));
        acts.put("noise", d -> d.change(0, 5));
        acts.put("cut", d -> d.change(1, 120));
        acts.put("nudge", d -> d.change(2, 20));
        acts.put("prior", d -> d.change(3, 99));
        acts.put("mock", d -> d.mock(2));
        for (Map.Entry<String, ToLongFunction<LineupDesk>> act : acts.entrySet()) {
            LineupDesk d = desk(THREE);
            d.mock(1);
            d.hide(0);
            String before = all(d);
            act.getValue().applyAsLong(d);
            due("an act: " + act.getKey(), d.told(9), 4);
            due("undo of " + act.getKey(), d.undo(), 3);
            same("all behind undo of " + act.getKey(), all(d), before);
            due("undo of hide", d.undo(), 2);
            due("the suspect is first", d.shown(0), 0);
            due("undo of mock", d.undo(), 1);
            due("no mock", d.told(7), 0);
            due("undo of text", d.undo(), 0);
            same("all behind all", all(d), all(new LineupDesk()));
        }
    }

    private static void actsAndNoActs() {
        says("ACTS: (no others)");
        LineupDesk d = desk(THREE);
        d.change(1, 40);
        d.feed(1, 2, 3, 4, 5);
        due("feed", d.told(9), 2);
        due("a text with a fault", tell(d, "traits"), -9);
        due("fault", d.told(9), 2);
        thrown("a text refused", WRONG, () -> d.text(1));
        thrown("show refused", STATE, () -> d.show(0));
        thrown("hide refused", MISSING, () -> d.hide(3));
        thrown("change refused", WRONG, () -> d.change(0, 6));
        thrown("mock refused", MISSING, () -> d.mock(3));
        due("refused", d.told(9), 2);
        all(d);
        due("asked", d.told(9), 2);
        due("undo", d.undo(), 1);
        due("undo is none", d.told(9), 1);
        due("cut", d.told(4), 12);
    }

    private static void whats() {
        says("IllegalArgumentException: a number that is none such (what)");
        LineupDesk d = desk(THREE);
        refused("told", WRONG, w -> () -> d.told(w), LEAST, -1, 10, 11, MOST);
        refused("trait", WRONG, w -> () -> d.trait(0, w), LEAST, -1, 2, MOST);
        refused("chance", WRONG, w -> () -> d.chance(0, 0, false, false, w), LEAST, -1, 2, MOST);
        refused("chance of nobody", WRONG, w -> () -> d.chance(1, NONE, false, false, w), LEAST, -1, 2, MOST);
        refused("size", WRONG, w -> () -> d.size(w), LEAST, -1, 4, 5, MOST);
        refused("fairest", WRONG, w -> () -> d.fairest(2, w), LEAST, -1, 3, 4, MOST);
        refused("odds", WRONG, w -> () -> d.odds(0, true, true, w), LEAST, -1, 2, MOST);
        due("refused", d.status(1), 5 + 4 + 4 + 4 + 5 + 5 + 4);
        says("status: NONE for others");
        for (int what : new int[] {LEAST, -1, 3, 4, MOST}) {
            due("status(" + what + ")", d.status(what), NONE);
        }
        due("status refuses nothing", d.status(1), 31);
    }

    private static void ways() {
        says("by a way (0 ONE BY ONE, 1 AT ONCE); IllegalArgumentException");
        LineupDesk d = desk(THREE);
        int[] none = {LEAST, -1, 2, 3, MOST};
        refused("chance", WRONG, w -> () -> d.chance(w, 0, false, false, 0), none);
        refused("chance of nobody", WRONG, w -> () -> d.chance(w, NONE, false, false, 0), none);
        refused("odds", WRONG, w -> () -> d.odds(w, true, true, 0), none);
        refused("cut", WRONG, w -> () -> d.cut(w), none);
        refused("nudged", WRONG, w -> () -> d.nudged(w), none);
        due("refused", d.status(1), 5 * none.length);
        d.hide(2);
        refused("chance of one hidden", WRONG, w -> () -> d.chance(w, 2, false, false, 0), none);
        d.hide(0);
        d.hide(0);
        refused("chance of none shown", WRONG, w -> () -> d.chance(w, NONE, false, false, 0), none);
    }

    private static void fairestNumbers() {
        says("FAIREST of n (2 to 8): IllegalArgumentException");
        LineupDesk d = desk(THREE);
        refused("fairest", WRONG, n -> () -> d.fairest(n, 0), LEAST, -1, 0, 1, 9, 10, MOST);
        due("of as many as there are", d.fairest(3, 0), 6);
        due("of one more", d.fairest(4, 0), NONE);
        due("of the most", d.fairest(8, 2), NONE);
        LineupDesk alone = new LineupDesk();
        refused("fairest without fillers", WRONG, n -> () -> alone.fairest(n, 0), 1, 9);
        due("of two, without fillers", alone.fairest(2, 0), NONE);
    }

    private static void chanceOfNobodyAndHidden() {
        says("chance: (NONE: of nobody; who is not SHOWN: 0)");
        LineupDesk d = desk("traits 1;suspect 0;filler 0;match 50;noise 0;cut 50;");
        for (int way = 0; way < 2; way++) {
            chances(d, way, 0, false, true, 1, 1);
            chances(d, way, NONE, false, true, 0, 1);
        }
        d.hide(0);
        for (int way = 0; way < 2; way++) {
            chances(d, way, 0, false, true, 0, 1);
            chances(d, way, 0, true, false, 0, 1);
            chances(d, way, 1, false, true, 1, 1);
        }
        d.hide(0);
        for (int way = 0; way < 2; way++) {
            chances(d, way, 1, false, true, 0, 1);
            chances(d, way, NONE, false, true, 1, 1);
        }
    }

    private static void alikeBits() {
        says("alike: TRAITS in which two PERSONS have one VALUE, as bits");
        LineupDesk d = desk("traits 5;suspect 1 1 1 1 1;filler 1 2 2 2 2;filler 2 2 2 2 1;filler 1 1 1 1 1;filler 0 0 0 0 0;");
        int[] want = {31, 1, 16, 31, 0};
        for (int person = 0; person < want.length; person++) {
            due("alike(0, " + person + ")", d.alike(0, person), want[person]);
            due("alike(" + person + ", 0)", d.alike(person, 0), want[person]);
            due("with itself", d.alike(person, person), 31);
        }
        due("alike(1, 2)", d.alike(1, 2), 14);
        LineupDesk fewer = desk("traits 2;suspect 1 1;filler 1 1;");
        due("traits there are not", fewer.alike(0, 1), 3);
        tell(d, "traits 1;suspect 3;filler 3;");
        due("traits there were", d.alike(0, 1), 1);
    }

    private static void suspectNotShown() {
        says("IllegalStateException: it is not SHOWN (so below)");
        LineupDesk d = desk(THREE);
        for (int k = 0; k < 2; k++) {
            int way = k;
            d.odds(way, true, true, 0);
            d.cut(way);
            d.nudged(way);
            d.hide(0);
            thrown("odds", STATE, () -> d.odds(way, true, true, 0));
            thrown("odds below", STATE, () -> d.odds(way, false, false, 1));
            thrown("cut", STATE, () -> d.cut(way));
            thrown("nudged", STATE, () -> d.nudged(way));
            d.show(0);
            due("shown last, it has odds again", d.odds(way, true, true, 1) > 0 ? 1 : 0, 1);
            d.undo();
            d.undo();
        }
        due("refused", d.status(2), 8);
        d.hide(2);
        d.hide(1);
        d.hide(0);
        thrown("odds of none", STATE, () -> d.odds(0, true, false, 0));
        thrown("cut of none", STATE, () -> d.cut(0));
        thrown("nudged of none", STATE, () -> d.nudged(0));
    }

    private static void nudgedCutTowardsZero() {
        says("nudged: By how many hundredths (cut towards 0)");
        // Noise 5 about 24: a nudge of so many gives so many elevenths more.
        int[] want = {0, 9, 18, 27, 36, 45, 54, 63, 72, 81, 90, 100, 100};
        for (int nudge = 0; nudge < want.length; nudge++) {
            LineupDesk d = desk("traits 1;suspect 0;match 24;noise 5;cut 30;nudge " + nudge + ";");
            for (int way = 0; way < 2; way++) {
                due("nudged by " + nudge, d.nudged(way), want[nudge]);
            }
        }
        // From 3 elevenths on, that it is picked blind as well does not count.
        LineupDesk more = desk("traits 1;suspect 0;match 24;noise 5;cut 27;nudge 1;");
        due("4 elevenths less 3", more.nudged(0), 9);
        more.change(2, 20);
        due("11 elevenths less 3", more.nudged(1), 72);
        LineupDesk third = desk("traits 1;suspect 0;match 24;noise 1;cut 26;nudge 1;");
        due("a third", third.nudged(0), 33);
        third.change(2, 2);
        due("two thirds", third.nudged(1), 66);
        says("nudged: not by GUILT");
        LineupDesk guilt = desk("traits 1;suspect 4;told 0 5 3;noise 0;cut 27;nudge 2;");
        due("24 by 2", guilt.nudged(0), 0);
        guilt.change(2, 3);
        due("24 by 3", guilt.nudged(0), 100);
    }

    private static void exceptionToldFirst() {
        says("Of several exceptions of one call the one told first is thrown");
        LineupDesk d = desk("traits 1;suspect 1;" + "filler 2;".repeat(8));
        thrown("show of nobody, eight shown", MISSING, () -> d.show(9));
        d.hide(0);
        thrown("mock of nobody", MISSING, () -> d.mock(9));
        thrown("trait", MISSING, () -> d.trait(1, 2));
        thrown("chance by a wrong way", MISSING, () -> d.chance(2, 9, true, true, 0));
        thrown("chance of a wrong what", MISSING, () -> d.chance(0, 9, true, true, 2));
        thrown("chance of all wrong", MISSING, () -> d.chance(2, -2, true, true, 2));
        due("missing", d.status(0), 6);
        thrown("odds by a wrong way, the suspect hidden", WRONG, () -> d.odds(2, true, true, 0));
        thrown("odds of a wrong what, the suspect hidden", WRONG, () -> d.odds(0, true, true, 2));
        thrown("cut by a wrong way, the suspect hidden", WRONG, () -> d.cut(2));
        thrown("nudged by a wrong way, the suspect hidden", WRONG, () -> d.nudged(2));
        due("wrong", d.status(1), 4);
        due("state", d.status(2), 0);
        thrown("value of both wrong", MISSING, () -> d.value(9, 1));
        thrown("alike of both wrong", MISSING, () -> d.alike(9, 9));
        due("each counts once", d.status(0), 8);
    }

    private static List<Call> refusals(LineupDesk d) {
        List<Call> calls = new ArrayList<>();
        calls.add(() -> d.text(-1));
        calls.add(() -> d.text(21));
        calls.add(() -> d.show(3));
        calls.add(() -> d.show(1));
        calls.add(() -> d.hide(2));
        calls.add(() -> d.hide(-1));
        calls.add(() -> d.change(0, 6));
        calls.add(() -> d.change(1, 121));
        calls.add(() -> d.change(2, 21));
        calls.add(() -> d.change(3, 0));
        calls.add(() -> d.change(4, 0));
        calls.add(() -> d.mock(3));
        calls.add(() -> d.mock(0));
        calls.add(() -> d.told(10));
        calls.add(() -> d.trait(2, 0));
        calls.add(() -> d.trait(0, 2));
        calls.add(() -> d.value(3, 0));
        calls.add(() -> d.value(0, 2));
        calls.add(() -> d.shown(2));
        calls.add(() -> d.match(3, true));
        calls.add(() -> d.mocks(3));
        calls.add(() -> d.alike(0, 3));
        calls.add(() -> d.chance(0, 3, true, true, 0));
        calls.add(() -> d.chance(2, 0, true, true, 0));
        calls.add(() -> d.size(4));
        calls.add(() -> d.fairest(1, 0));
        calls.add(() -> d.fairest(2, 3));
        calls.add(() -> d.odds(2, true, true, 0));
        calls.add(() -> d.odds(0, true, true, 0));
        calls.add(() -> d.cut(2));
        calls.add(() -> d.cut(0));
        calls.add(() -> d.nudged(2));
        calls.add(() -> d.nudged(0));
        return calls;
    }

    /** The suspect is hidden, the tape holds a text of 20 bytes, and three acts can be taken back. */
    private static LineupDesk readied() {
        LineupDesk d = desk(THREE);
        d.mock(1);
        d.hide(0);
        feedAll(d, "traits 1;suspect 8; ");
        return d;
    }

    private static void refusedCallsChangeNothing() {
        says("a call that throws changes nothing but status()");
        int count = refusals(readied()).size();
        for (int k = 0; k < count; k++) {
            LineupDesk d = readied();
            LineupDesk other = readied();
            boolean threw = false;
            try {
                refusals(d).get(k).run();
            } catch (RuntimeException e) {
                threw = true;
            }
            String name = "refusal " + k;
            due(name + " throws", threw ? 1 : 0, 1);
            due(name + " is counted once", d.status(0) + d.status(1) + d.status(2), 1);
            same("all behind " + name, all(d), all(other));
            due("undo behind " + name, d.undo(), other.undo());
            same("all behind undo and " + name, all(d), all(other));
            due("the tape behind " + name, d.text(20), 1);
            due("its value", d.value(0, 0), 8);
        }
    }

    private static void askedCallsChangeNothing() {
        says("Asked, nothing stays changed");
        LineupDesk d = readied();
        d.show(0);
        String before = all(d);
        for (int way = 0; way < 2; way++) {
            for (int bits = 0; bits < 8; bits++) {
                boolean one = (bits & 1) != 0;
                boolean other = (bits & 2) != 0;
                d.chance(way, 0, one, other, bits >> 2);
                d.chance(way, NONE, one, other, bits >> 2);
                d.odds(way, one, other, bits >> 2);
            }
            d.cut(way);
            d.nudged(way);
        }
        for (int n = 2; n <= 8; n++) {
            d.fairest(n, n % 3);
        }
        d.size(0);
        d.print();
        d.status(0);
        same("all", all(d), before);
    }

    private static void statusCounts() {
        says("status: How many calls were refused: 0 NoSuchElementException, 1 IllegalArgumentException, 2 IllegalStateException");
        LineupDesk d = readied();
        int[] want = new int[3];
        for (Call call : refusals(d)) {
            try {
                call.run();
                fail("a call that is due to throw did not");
            } catch (RuntimeException e) {
                want[List.of(MISSING, WRONG, STATE).indexOf(e.getClass().getSimpleName())]++;
            }
            for (int what = 0; what < 3; what++) {
                due("status(" + what + ")", d.status(what), want[what]);
            }
        }
        d.undo();
        d.feed(0, 0, 0, 0, 0);
        d.text(40);
        tell(d, THREE);
        for (int k = 0; k < 10; k++) {
            d.undo();
        }
        for (int what = 0; what < 3; what++) {
            due("status(" + what + ") behind undo, a fault and a text", d.status(what), want[what]);
        }
    }

    private static void fiveHundredTwelveCalls() {
        says("An object is used for at most 512 calls");
        LineupDesk d = new LineupDesk();
        for (int k = 1; k <= 511; k++) {
            thrown("show", STATE, () -> d.show(0));
        }
        due("refused", d.status(2), 511);
        LineupDesk full = desk("traits 1;suspect 1;" + "filler 1;".repeat(15) + "noise 5;match 50;");
        for (int k = 0; k < 480; k++) {
            due("best cut", full.cut(1), 0);
        }
        LineupDesk fair = desk("traits 1;suspect 1;" + "filler 1;".repeat(15) + "noise 5;match 50;");
        for (int k = 0; k < 480; k++) {
            due("fairest", fair.fairest(8, 0), 254);
        }
    }
}
