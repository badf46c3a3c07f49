/** The sentences of the document on a text's form, its numbers and its faults: each at its edge and just beside it. */
public final class TextEdgesTest extends Checks {
    /** 19 bytes that are a whole text; what is told behind it begins at 19. */
    private static final String HEAD = "traits 1;suspect 4;";

    public static void main(String[] args) {
        lengthOfText();
        traitsOneToFive();
        fillersAtMost();
        fillersAsTold();
        partsInAnyOrder();
        valuesForEachTrait();
        toldAgain();
        settingsWithout();
        numbersInText();
        numbersHeld();
        onceEach();
        manyTimes();
        formulaForm();
        digitsAsMany();
        lettersAsMany();
        blanks();
        everyByteBetweenParts();
        everyByteForNumber();
        everyByteBehindNumber();
        everyByteAheadOfUnit();
        endsTooEarly();
        leastFirstByte();
        oneByteFirstOfList();
        noSuchTrait();
        sixteenthFiller();
        withinFourOthers();
        minusTillItsUnitEnds();
        noSuspect();
        finish("text edges");
    }

    private static String repeated(String part, int times) {
        return part.repeat(times);
    }

    private static String fillers(int count) {
        return repeated("filler 1;", count);
    }

    private static void lengthOfText() {
        says("A TEXT has up to 500 bytes");
        fine(HEAD + repeated(" ", 480), 1);
        fine(HEAD + repeated(" ", 481), 1);
        fine(repeated(" ", 481) + HEAD, 1);
        fault(repeated(" ", 500), 1, 500);
        fault(HEAD + repeated(" ", 480) + ";", 1, 499);
        fault("traits 1;" + repeated(" ", 491), 5, 500);
        String sum = HEAD + "match 1" + repeated("+1", 236) + " ;";
        due("bytes of the text", sum.length(), 500);
        fine(sum, 1);
        due("a sum of 237", desk(sum).match(0, false), 99);
        String zeros = HEAD + "cut " + repeated("0", 475) + "7;";
        due("bytes of the text", zeros.length(), 500);
        due("a number of 476 digits", desk(zeros).told(4), 7);
        fault(repeated("a", 500), 1, 0);
    }

    private static void traitsOneToFive() {
        says("TRAITS (1 to 5, numbered from 0 on)");
        fault("traits 0;suspect 1;", 2, 7);
        for (int traits = 1; traits <= 5; traits++) {
            LineupDesk d = desk("traits " + traits + ";suspect" + repeated(" 8", traits) + ";");
            due("traits", d.told(0), traits);
            due("first trait", d.value(0, 0), 8);
            due("last trait", d.value(0, traits - 1), 8);
            int none = traits;
            thrown("one more trait", MISSING, () -> d.value(0, none));
        }
        fault("traits 6;suspect 1 1 1 1 1 1;", 2, 7);
    }

    private static void fillersAtMost() {
        says("FILLERS (15 at most)");
        fine(HEAD + fillers(14), 15);
        fine(HEAD + fillers(15), 16);
        fault(HEAD + fillers(16), 3, 19 + 15 * 9);
        due("a value of the last one", desk(HEAD + fillers(14) + "filler 7;").value(15, 0), 7);
    }

    private static void fillersAsTold() {
        says("the SUSPECT (number 0), FILLERS (numbered from 1 on as told)");
        LineupDesk d = desk("traits 1;filler 9;filler 8;suspect 7;filler 6;");
        int[] want = {7, 9, 8, 6};
        for (int person = 0; person < want.length; person++) {
            due("value of " + person, d.value(person, 0), want[person]);
        }
    }

    private static void partsInAnyOrder() {
        says("{ \"suspect\" .. | \"match\" E, each with a \";\" }");
        LineupDesk d = desk("traits 1;match off 0;prior 9;nudge 8;cut 7;noise 1;told 0 6 5;filler 4;suspect 3;");
        due("match", d.match(0, false), 3);
        due("prior", d.told(6), 9);
        due("nudge", d.told(5), 8);
        due("cut", d.told(4), 7);
        due("noise", d.told(3), 1);
        fault("suspect 4;traits 1;", 1, 0);
        fault(HEAD + "traits 1;", 1, 19);
        fault(HEAD + ";", 1, 19);
        fault(HEAD + "cut 1", 1, 24);
        fault(HEAD + "cut 1 cut", 1, 25);
    }

    private static void valuesForEachTrait() {
        says("VALUES, one for each TRAIT (a VALUE too many, or \";\" ahead of the last VALUE)");
        fine("traits 3;suspect 1 2 3;filler 4 5 6;", 2);
        fault("traits 3;suspect 1 2;", 1, 20);
        fault("traits 3;suspect;", 1, 16);
        fault("traits 3;suspect 1 2 3 4;", 1, 23);
        fault("traits 3;suspect 1 2 3;filler 4 5 ;", 1, 34);
        fault("traits 3;suspect 1 2 3;filler 4 5 6 7;", 1, 36);
        fault("traits 3;suspect 1 2 filler", 1, 21);
        fault("traits 3;suspect 123;", 2, 17);
    }

    private static void toldAgain() {
        says("a TRAIT, its VALUE, WEIGHT (told again the last counts)");
        LineupDesk d = desk("traits 2;told 0 1 2;told 1 3 4;suspect 0 0;told 0 9 8;");
        due("value of the first trait", d.trait(0, 0), 9);
        due("weight of the first trait", d.trait(0, 1), 8);
        due("value of the other trait", d.trait(1, 0), 3);
        due("weight of the other trait", d.trait(1, 1), 4);
        due("match by the last told", d.match(0, false), 8 * 0 + 4 * 6);
        fault(HEAD + "told 0 1;", 1, 27);
        fault(HEAD + "told 0 1 2 3;", 1, 30);
    }

    private static void settingsWithout() {
        says("NOISE (2 without), CUT (30 without), NUDGE (5 without), PRIOR (50 without)");
        int[] without = {2, 30, 5, 50};
        String[] words = {"noise", "cut", "nudge", "prior"};
        for (int told = 0; told < 4; told++) {
            LineupDesk d = desk(HEAD + words[told] + " 1;");
            for (int what = 0; what < 4; what++) {
                due("setting " + what + " of " + words[told], d.told(what + 3), what == told ? 1 : without[what]);
            }
        }
    }

    /** A place for a number in a text, with the numbers that may stand there. */
    private static void numberFrom(String ahead, String behind, int least, int most) {
        int place = ahead.length();
        for (int number = least; number <= most; number++) {
            fine(ahead + number + behind, 1);
        }
        if (least > 0) {
            fault(ahead + (least - 1) + behind, 2, place);
            fault(ahead + "000" + (least - 1) + behind, 2, place);
        }
        fine(ahead + "000" + least + behind, 1);
        fine(ahead + "000" + most + behind, 1);
        fault(ahead + (most + 1) + behind, 2, place);
        fault(ahead + "000" + (most + 1) + behind, 2, place);
        // Numbers that wrap around to ones that may stand there.
        String[] far = {"256", "65536", "2147483647", "2147483648", "4294967296", "4294967297", "4294967300",
            "18446744073709551616", "18446744073709551617", "340282366920938463463374607431768211457",
            "1000", "1001", "10000", "99999999999999999999"};
        for (String number : far) {
            fault(ahead + number + behind, 2, place);
        }
        fault(ahead + "-1" + behind, 1, place);
    }

    private static void numbersInText() {
        says("a number that is none such");
        numberFrom("traits 1;suspect ", ";", 0, 9);
        numberFrom("traits 3;suspect 1 ", " 1;", 0, 9);
        numberFrom("traits 3;suspect 1 1 ", ";", 0, 9);
        numberFrom(HEAD + "told ", " 1 1;", 0, 0);
        numberFrom("traits 5;suspect 1 1 1 1 1;told ", " 1 1;", 0, 4);
        numberFrom(HEAD + "told 0 ", " 1;", 0, 9);
        numberFrom(HEAD + "told 0 1 ", ";", 1, 9);
        numberFrom(HEAD + "noise ", ";", 0, 5);
        numberFrom(HEAD + "cut ", ";", 0, 120);
        numberFrom(HEAD + "nudge ", ";", 0, 20);
        numberFrom(HEAD + "prior ", ";", 1, 99);
        numberFrom(HEAD + "match value ", ";", 0, 0);
        numberFrom("traits 5;suspect 1 1 1 1 1;match value ", ";", 0, 4);
        numberFrom("traits 4;suspect 1 1 1 1;match 1+off ", ";", 0, 3);
        numberFrom("traits 2;suspect 1 1;match (weight ", ");", 0, 1);
        says("N (0 to 99)");
        for (int number = 0; number <= 99; number++) {
            due("match of a number", desk(HEAD + "match " + number + ";").match(0, false), number);
        }
        fault(HEAD + "match 100;", 2, 25);
        fault(HEAD + "match 0100;", 2, 25);
        fine(HEAD + "match 0099;", 1);
        fault(HEAD + "match 4294967296;", 2, 25);
        says("a VALUE of a \"filler\" (0 to 9)");
        fine(HEAD + "filler 0;filler 9;", 3);
        fault(HEAD + "filler 0;filler 10;", 2, 35);
    }

    private static void numbersHeld() {
        says("NOISE (0 to 5), CUT (0 to 120), NUDGE (0 to 20), PRIOR (1 to 99)");
        String[] words = {"noise", "cut", "nudge", "prior"};
        int[] least = {0, 0, 0, 1};
        int[] most = {5, 120, 20, 99};
        for (int what = 0; what < 4; what++) {
            due(words[what], desk(HEAD + words[what] + " " + least[what] + ";").told(what + 3), least[what]);
            due(words[what], desk(HEAD + words[what] + " " + most[what] + ";").told(what + 3), most[what]);
        }
        says("a VALUE (0 to 9) and a WEIGHT (1 to 9)");
        LineupDesk d = desk("traits 2;suspect 0 9;told 0 0 1;told 1 9 9;");
        due("least value", d.value(0, 0), 0);
        due("greatest value", d.value(0, 1), 9);
        due("least value told", d.trait(0, 0), 0);
        due("greatest value told", d.trait(1, 0), 9);
        due("least weight", d.trait(0, 1), 1);
        due("greatest weight", d.trait(1, 1), 9);
    }

    private static void onceEach() {
        says("\"suspect\", \"noise\", \"cut\", \"nudge\", \"prior\", \"match\" once each (a second one, by its word)");
        String[] words = {"noise", "cut", "nudge", "prior", "match"};
        for (String word : words) {
            String once = HEAD + word + " 1;";
            fine(once, 1);
            fault(once + word + " 1;", 1, once.length());
            fault(once + "  " + word + " 999;", 1, once.length() + 2);
            fault(once + "filler 1;" + word, 1, once.length() + 9);
            fault(once + word + "s", 1, once.length());
        }
        fault(HEAD + "suspect 4;", 1, 19);
        fault(HEAD + " suspect", 1, 20);
        fault(HEAD + "cut 1;noise 1;suspect 99;", 1, 33);
        fine(HEAD + "noise 1;cut 1;nudge 1;prior 1;match 1;", 1);
    }

    private static void manyTimes() {
        says("\"filler\", \"told\": not once alone");
        fine(HEAD + "filler 1;filler 1;told 0 1 1;told 0 1 1;told 0 2 2;", 3);
        String many = HEAD + repeated("told 0 1 1;", 42) + "told 0 7 3;";
        due("told 43 times", desk(many).trait(0, 0), 7);
    }

    private static void formulaForm() {
        says("E: T { ( \"+\" | \"-\" ) T }. T: U { \"*\" U }. U: \"-\" U | \"(\" E \")\" | N | \"value\" N | \"off\" N | \"weight\" N");
        fault(HEAD + "match;", 1, 24);
        fault(HEAD + "match +1;", 1, 25);
        fault(HEAD + "match *1;", 1, 25);
        fault(HEAD + "match 1+;", 1, 27);
        fault(HEAD + "match 1-;", 1, 27);
        fault(HEAD + "match 1*;", 1, 27);
        fault(HEAD + "match 1++1;", 1, 27);
        fault(HEAD + "match 1*+1;", 1, 27);
        fault(HEAD + "match 1**1;", 1, 27);
        fault(HEAD + "match 1/1;", 1, 26);
        fault(HEAD + "match -;", 1, 26);
        fault(HEAD + "match ();", 1, 26);
        fault(HEAD + "match (1;", 1, 27);
        fault(HEAD + "match (1));", 1, 28);
        fault(HEAD + "match 1);", 1, 26);
        fault(HEAD + "match (1)(1);", 1, 28);
        fault(HEAD + "match (1)1;", 1, 28);
        fault(HEAD + "match 1 value 0;", 1, 27);
        fault(HEAD + "match value value 0;", 1, 31);
        fault(HEAD + "match value (0);", 1, 31);
        fault(HEAD + "match value -0;", 1, 31);
        fault(HEAD + "match told 0;", 1, 25);
        fault(HEAD + "match cut;", 1, 25);
        fine(HEAD + "match 1--1;", 1);
        fine(HEAD + "match 1*-1;", 1);
        fine(HEAD + "match -(1);", 1);
    }

    private static void digitsAsMany() {
        says("N: digits as many as stand there");
        fault("traits 2;suspect 12;", 2, 17);
        fine("traits 2;suspect 1 2;", 1);
        fine("traits 2;suspect 01 002;", 1);
        due("digits as one number", desk(HEAD + "cut 12;").told(4), 12);
        fault(HEAD + "cut 1 2;", 1, 25);
        fault(HEAD + "cut 12 0;", 1, 26);
        fine("traits 00000000000000000000000000001;suspect 00000000000000000000000000009;", 1);
    }

    private static void lettersAsMany() {
        says("words: small letters as many as stand there");
        fault("trait 1;", 1, 0);
        fault("traitss 1;", 1, 0);
        fault("traits1;suspects4;", 1, 8);
        fault("traits1;suspec4;", 1, 8);
        fault("traits1;sus pect4;", 1, 8);
        fault("traits1;Suspect4;", 1, 8);
        fault("traits1;suspecT4;", 1, 8);
        fault("traits1;suspect4;cutcut 1;", 1, 17);
        fault("traits1;suspect4;matchvalue 0;", 1, 17);
        fault("traits1;suspect4;match valueoff 0;", 1, 23);
        fine("traits1;suspect4;match-value0*off0+(weight0);cut1;", 1);
        String[] parts = {"filler 1", "told 0 1 1", "noise 1", "cut 1", "nudge 1", "prior 1", "match 1"};
        for (String part : parts) {
            fine(HEAD + part + ";", part.startsWith("filler") ? 2 : 1);
            fault(HEAD + part.substring(1) + ";", 1, 19);
            fault(HEAD + "x" + part + ";", 1, 19);
            fault(HEAD + part.replaceFirst(" ", "x ") + ";", 1, 19);
            fault(HEAD + part.replaceFirst(". ", " ") + ";", 1, 19);
            fault(HEAD + part.substring(0, 1).toUpperCase() + part.substring(1) + ";", 1, 19);
        }
        // The first and the last small letter, and the signs beside them.
        fault(HEAD + "cuta 1;", 1, 19);
        fault(HEAD + "cutz 1;", 1, 19);
        fault(HEAD + "cut`1;", 1, 22);
        fault(HEAD + "cut{1;", 1, 22);
        sameLength("", "traits", " 1;suspect 4;");
        sameLength("traits 1;", "suspect", " 4;");
        for (String part : parts) {
            int end = part.indexOf(' ');
            sameLength(HEAD, part.substring(0, end), part.substring(end) + ";");
        }
        for (String leaf : new String[] {"value", "off", "weight"}) {
            sameLength(HEAD + "match ", leaf, " 0;");
        }
        String[] leaves = {"value 0", "off 0", "weight 0"};
        for (String leaf : leaves) {
            fine(HEAD + "match " + leaf + ";", 1);
            fault(HEAD + "match x" + leaf + ";", 1, 25);
            fault(HEAD + "match " + leaf.replaceFirst(" ", "x ") + ";", 1, 25);
            fault(HEAD + "match " + leaf.replaceFirst(". ", " ") + ";", 1, 25);
        }
    }

    /** Words that differ from one in a single letter, each in its turn, can't stand there. */
    private static void sameLength(String ahead, String word, String behind) {
        fine(ahead + word + behind, word.equals("filler") ? 2 : 1);
        for (int k = 0; k < word.length(); k++) {
            fault(ahead + word.substring(0, k) + 'x' + word.substring(k + 1) + behind, 1, ahead.length());
        }
    }

    private static void blanks() {
        says("blanks (32) may stand ahead of all words, numbers, signs, and at the end");
        String[] tokens = {"traits", "2", ";", "suspect", "1", " 2", ";", "told", "0", " 5", " 3", ";", "match", "-", "(",
            "value", "0", "*", "off", "0", ")", "+", "weight", "1", "-", "9", ";"};
        fine(String.join("", tokens), 1);
        fine(String.join(" ", tokens), 1);
        fine("   " + String.join("   ", tokens) + "   ", 1);
        for (int k = 0; k <= tokens.length; k++) {
            StringBuilder text = new StringBuilder();
            for (int j = 0; j < tokens.length; j++) {
                text.append(j == k ? "  " : "").append(tokens[j]);
            }
            fine(text + (k == tokens.length ? "  " : ""), 1);
        }
        fault("tra its 1;", 1, 0);
        fault(HEAD + "told 0 1 1 0;", 1, 30);
        for (char other : new char[] {0, 9, 10, 11, 12, 13, 31, 33, 127, 160, 255}) {
            fault("traits" + other + "1;suspect 4;", 1, 6);
            fault(other + HEAD, 1, 0);
            fault(HEAD + other, 1, 19);
        }
    }

    private static void everyByteBetweenParts() {
        says("what can't stand there: between two parts");
        for (char sign = 0; sign < 256; sign++) {
            fault(HEAD + sign + ";", 1, sign == ' ' ? 20 : 19);
        }
    }

    private static void everyByteForNumber() {
        says("what can't stand there: for a number");
        for (char sign = 0; sign < 256; sign++) {
            String text = "traits 1;suspect " + sign + ";";
            if (sign >= '0' && sign <= '9') {
                due("value", desk(text).value(0, 0), sign - '0');
            } else {
                fault(text, 1, sign == ' ' ? 18 : 17);
            }
        }
    }

    private static void everyByteBehindNumber() {
        says("what can't stand there: behind a U");
        for (char sign = 0; sign < 256; sign++) {
            String text = HEAD + "match 1" + sign + "2;";
            if (sign == '+' || sign == '-' || sign == '*') {
                fine(text, 1);
            } else if (sign >= '0' && sign <= '9') {
                fault(text, 2, 25);
            } else {
                fault(text, 1, sign == ' ' || sign == ';' ? 27 : 26);
            }
        }
    }

    private static void everyByteAheadOfUnit() {
        says("what can't stand there: for a U");
        for (char sign = 0; sign < 256; sign++) {
            String text = HEAD + "match " + sign + "1;";
            if (sign == '-' || sign == ' ' || sign >= '0' && sign <= '9') {
                fine(text, 1);
            } else {
                fault(text, 1, sign == '(' ? 27 : 25);
            }
        }
    }

    /** Of a text its first bytes alone, from so many to so many; a place of NONE stands for the length. */
    private static void firstBytes(String text, int from, int to, int kind, int place) {
        for (int n = from; n <= to; n++) {
            fault(text.substring(0, n), kind, place == NONE ? n : place);
            LineupDesk d = new LineupDesk();
            feedAll(d, text);
            due("text(" + n + ") of " + text, d.text(n), kind - 10);
            due("fault of text(" + n + ") of " + text, d.fault(), place == NONE ? n : place);
        }
    }

    private static void endsTooEarly() {
        says("what can't stand there (at the length, if the text ends too early)");
        String values = "traits 2;suspect 1 2;";
        // A word that is cut short is another word, which can't stand there.
        firstBytes(values, 1, 5, 1, 0);
        firstBytes(values, 0, 0, 1, NONE);
        firstBytes(values, 6, 8, 1, NONE);
        firstBytes(values, 9, 9, 5, NONE);
        firstBytes(values, 10, 15, 1, 9);
        firstBytes(values, 16, 20, 1, NONE);
        fine(values, 1);
        String formula = HEAD + "match-(2*value 0);";
        fine(formula.substring(0, 19), 1);
        firstBytes(formula, 20, 23, 1, 19);
        firstBytes(formula, 24, 28, 1, NONE);
        firstBytes(formula, 29, 32, 1, 28);
        firstBytes(formula, 33, 36, 1, NONE);
        fine(formula, 1);
        String told = HEAD + "told 0 5 3;cut 5;";
        firstBytes(told, 20, 22, 1, 19);
        firstBytes(told, 23, 29, 1, NONE);
        fine(told.substring(0, 30), 1);
        firstBytes(told, 31, 32, 1, 30);
        firstBytes(told, 33, 35, 1, NONE);
        fine(told, 1);
        fault(HEAD + "filler", 1, 25);
        fault(HEAD + "filler   ", 1, 28);
        // What stands on the tape behind the first n bytes does not make a number or a word longer.
        firstBytes("   traits 1;suspect 12;", 0, 3, 1, NONE);
        firstBytes("traits 1;suspect 12;", 18, 18, 1, NONE);
        firstBytes("traits 1;suspect 12;", 19, 19, 2, 17);
        firstBytes(HEAD + "cuts 5;", 22, 22, 1, NONE);
        firstBytes(HEAD + "cuts 5;", 23, 23, 1, 19);
    }

    private static void leastFirstByte() {
        says("of several of 1 to 4 the one whose first byte is least");
        String full = HEAD + fillers(15);
        fault(HEAD + "cut 121;x;", 2, 23);
        fault(HEAD + "x;cut 121;", 1, 19);
        fault(HEAD + "match ((((-100))));", 4, 29);
        fault(HEAD + "match 100+(((((1)))));", 2, 25);
        fault(HEAD + "match (((((1)))))+100;", 4, 29);
        fault(HEAD + "match (((((1;", 4, 29);
        fault(HEAD + "match ((((x(1;", 1, 29);
        fault(full + "filler 10;", 3, full.length());
        fault(full + "cut 121;filler 1;", 2, full.length() + 4);
        fault(full + "x;filler 1;", 1, full.length());
        fault(full + "filler 1;x;", 3, full.length());
        fault(HEAD + "cut 1;cut 121;", 1, 25);
        fault(HEAD + "cut 121;cut 1;", 2, 23);
        fault("traits 6;suspect 10;", 2, 7);
        fault("traits 1;suspect 10 10;", 2, 17);
        fault("traits 1;cut 121;", 2, 13);
    }

    private static void oneByteFirstOfList() {
        says("of one byte the first in this list");
        // A number too many is none such, too.
        fault("traits 1;suspect 1 10;", 1, 19);
        fault(HEAD + "cut 1 121;", 1, 25);
        fault(HEAD + "match 1 100;", 1, 27);
        // A 16th "filler" where none can stand.
        String full = HEAD + fillers(14) + "filler 1";
        fault(full + " filler 1;", 1, full.length() + 1);
        fault(full + ";filler 1;", 3, full.length() + 1);
        // A fifth "(" where none can stand.
        fault(HEAD + "match ((((1(2)))));", 1, 30);
        fault(HEAD + "match ((((1+(2)))));", 4, 31);
    }

    private static void noSuchTrait() {
        says("a number that is none such (a TRAIT that there is not, too)");
        for (int traits = 1; traits <= 5; traits++) {
            String head = "traits " + traits + ";suspect" + repeated(" 1", traits) + ";";
            String[] words = {"match value ", "match off ", "match weight "};
            for (String word : words) {
                fine(head + word + (traits - 1) + ";", 1);
                fault(head + word + traits + ";", 2, head.length() + word.length());
            }
            fine(head + "told " + (traits - 1) + " 1 1;", 1);
            fault(head + "told " + traits + " 1 1;", 2, head.length() + 5);
        }
    }

    private static void sixteenthFiller() {
        says("a 16th \"filler\" (by its word)");
        String full = "traits 1;" + fillers(15);
        fine(full + "suspect 1;", 16);
        fault(full + "filler 1;suspect 1;", 3, full.length());
        fault(full + "   filler 1;", 3, full.length() + 3);
        fault(full + "filler", 3, full.length());
        fault(full + "filler;", 3, full.length());
        fault(full + "fillers 1;", 1, full.length());
        fault(full + "fille", 1, full.length());
    }

    private static void formulaFine(String formula) {
        fine(HEAD + "match " + formula + ";", 1);
    }

    /** A formula whose fault of depth is at a byte of its own. */
    private static void tooDeep(String formula, int place) {
        fault(HEAD + "match " + formula + ";", 4, 25 + place);
    }

    private static void withinFourOthers() {
        says("a \"(\" or a \"-\" of U within four others of both");
        String[] open = {"(", "-"};
        // All mixes of four and of five, one inside the other.
        for (int bits = 0; bits < 32; bits++) {
            StringBuilder ahead = new StringBuilder();
            StringBuilder behind = new StringBuilder();
            for (int k = 0; k < 4; k++) {
                ahead.append(open[bits >> k & 1]);
                behind.append((bits >> k & 1) == 0 ? ")" : "");
            }
            String fifth = open[bits >> 4];
            formulaFine(ahead + "1" + behind);
            tooDeep(ahead + fifth + "1" + (fifth.equals("(") ? ")" : "") + behind, 4);
            tooDeep(ahead + " " + fifth, 5);
        }
        formulaFine("((((1))))*((((1))))-((((1))))");
        formulaFine("((((1)+(1))))");
        formulaFine("((((1)))+(((1))))");
        tooDeep("((((1)+((1)))))", 8);
        tooDeep("1+2*(3+4*(5+6*(7+8*(9+(1)))))", 22);
        due("four deep", desk(HEAD + "match 1+2*(3+4*(1+2*(3-2*(1))));").match(0, false), 1 + 2 * (3 + 4 * (1 + 2 * (3 - 2))));
    }

    private static void minusTillItsUnitEnds() {
        says("(a \"-\" till its U ends); a \"-\" between two T is none of U");
        formulaFine("-1*((((1))))");
        formulaFine("-1+((((1))))");
        formulaFine("-(1)*((((1))))");
        formulaFine("----1*----1+----1-----1");
        formulaFine("((((1-1-1))))");
        formulaFine("1-((((1))))");
        formulaFine("((((1)-1)-1)-1)-1");
        formulaFine("-(-(1-1))");
        formulaFine("-(((1)))");
        tooDeep("-((((1))))", 4);
        tooDeep("((((1--1))))", 6);
        tooDeep("((((1*-1))))", 6);
        tooDeep("----1-----(1)", 10);
        tooDeep("-(-(1)*-(1))-(-(-(1)))", 17);
        tooDeep("-----1", 4);
    }

    private static void noSuspect() {
        says("If there is none of these: 5, at the length: no \"suspect\"");
        fault("traits 1;", 5, 9);
        fault("traits 1;   ", 5, 12);
        fault("traits 1;filler 1;", 5, 18);
        fault("traits 1;" + fillers(15), 5, 9 + 15 * 9);
        fault("traits 1;" + fillers(16), 3, 9 + 15 * 9);
        fault("traits 1;match suspect;", 1, 15);
        fault("traits 1;cut 999;", 2, 13);
        fault("traits 1;cut 1", 1, 14);
        fault("traits 1;match -----1;", 4, 19);
        fine("traits 1;cut 1;suspect 1;", 1);
    }
}
