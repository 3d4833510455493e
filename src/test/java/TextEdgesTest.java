/** "What it is", LAID, and promises 1 to 5: each sentence that names an edge, on both sides of it. */
public final class TextEdgesTest {
    /** 8 letters; each "e5;" behind it is 3 more. */
    private static final String LEAST = "p0,9;t9;";

    public static void main(String[] args) {
        textIsEmptyAtFirst();
        twoHundredLetters();
        theTwoHundredthIsRead();
        anItemThatIsCutIsNone();
        oneLetterIsNoItem();
        lettersOfAscii();
        onlyFiveLettersBeginAnItem();
        oneOrTwoFigures();
        asManyNumbersAsAreTold();
        partedByAndBehindTheLast();
        kinds();
        coins();
        sixPersons();
        costs();
        sixThings();
        personToldAhead();
        thingToldAhead();
        breaths();
        years();
        ninePauses();
        earned();
        dearer();
        withoutIsAsAtFirst();
        faultIsTheFirst();
        faultLeavesAll();
        aPersonAndAThingAtLeast();
        layBeginsAtYearZero();
        layWhenAllIsFull();
        layForgetsWhatWas();
        wipeLeavesAllElse();
        Check.end();
    }

    private static void sound(String text) {
        Check.due("fault() of " + text, Check.written(text).fault(), Check.NONE);
    }

    private static void faulty(String text, int place) {
        NearlyBought x = Check.written(text);
        Check.due("fault() of " + text, x.fault(), place);
        Check.due("lay() of " + text, x.lay(), Check.NO);
    }

    /** "at first p0,20;..": that is LAID, and no letter of it is THE TEXT. */
    private static void textIsEmptyAtFirst() {
        NearlyBought x = new NearlyBought();
        Check.due("letters", x.count(8), 0);
        Check.due("fault() of nothing", x.fault(), Check.NONE);
        Check.due("lay() of nothing", x.lay(), Check.NO);
        Check.due("wipe() of nothing", x.wipe(), 0);
        Check.due("the first letter", x.write('p'), 1);
        NearlyBought same = Check.laid("p0,20;p1,8;p2,35;p3,4;t30;t6;t14;t9;a0,0,12,0;a1,0,9,0;a2,2,3,0;a3,3,5,0;"
            + "a0,1,10,1;a1,3,9,0;a2,1,2,1;e5;g2;");
        same.wipe();
        NearlyBought first = new NearlyBought();
        Check.same("at first", Check.stand(first), Check.stand(same));
        first.fair();
        same.fair();
        Check.same("at first, behind a FAIR", Check.stand(first), Check.stand(same));
    }

    /** "letters (200 at most)". */
    private static void twoHundredLetters() {
        NearlyBought x = new NearlyBought();
        for (int length = 1; length <= 199; length++) {
            x.write(' ');
        }
        Check.due("the 200th", x.write(' '), 200);
        Check.due("the 201st", x.write(' '), Check.FULL);
        Check.due("the 201st again", x.write('e'), Check.FULL);
        Check.due("200 stay", x.count(8), 200);
        Check.due("wipe()", x.wipe(), 200);
        Check.due("the first", x.write('e'), 1);
    }

    private static void theTwoHundredthIsRead() {
        String text = LEAST + "e5;".repeat(63) + "e7;";
        Check.due("so long", text.length(), 200);
        NearlyBought x = Check.written(text);
        Check.due("refused", x.write('x'), Check.FULL);
        Check.due("fault() of 200", x.fault(), Check.NONE);
        Check.due("lay() of 200", x.lay(), 1);
        x.fair();
        Check.due("the last ITEM counts", x.person(0, 1), 16);
        faulty(LEAST + "e5;".repeat(63) + "e7.", 197);
        faulty(LEAST + "e5;".repeat(61) + "e10;e10;x", 199);
        sound(LEAST + "e5;".repeat(61) + "e10;e10;");
    }

    private static void anItemThatIsCutIsNone() {
        NearlyBought x = Check.written(LEAST + "e5;".repeat(63) + "e10");
        Check.due("its ; is the 201st", x.write(';'), Check.FULL);
        Check.due("fault()", x.fault(), 197);
        Check.due("lay()", x.lay(), Check.NO);
        String pause = LEAST + "a0,0,9,0;";
        for (int cut = LEAST.length() + 1; cut < pause.length(); cut++) {
            faulty(pause.substring(0, cut), LEAST.length());
        }
        sound(pause);
    }

    /** The shortest ITEM has three letters: of one or two, the FAULT is the first. */
    private static void oneLetterIsNoItem() {
        for (char letter = 32; letter <= 126; letter++) {
            faulty(String.valueOf(letter), 0);
            faulty(letter + "5", 0);
            faulty(letter + ";", 0);
            faulty("t5;" + letter, 3);
        }
    }

    /** "A letter (32 to 126, as in ASCII)". */
    private static void lettersOfAscii() {
        NearlyBought x = new NearlyBought();
        for (int letter = 32; letter <= 126; letter++) {
            Check.due("write(" + letter + ")", x.write(letter), letter - 31);
        }
        int[] none = {31, 127, 128, 10, 0, -1, 'p' + 128, 'p' + 256, 'p' + 65536, Integer.MIN_VALUE, Integer.MAX_VALUE};
        for (int letter : none) {
            Check.due("write(" + letter + ")", x.write(letter), Check.BAD);
        }
        Check.due("95 stay", x.count(8), 95);
    }

    private static void onlyFiveLettersBeginAnItem() {
        for (char letter = 32; letter <= 126; letter++) {
            String[] behind = {"5;", "0,5;", "0,0,5,0;"};
            String[] begins = {"teg", "p", "a"};
            for (int k = 0; k < behind.length; k++) {
                String text = LEAST + letter + behind[k];
                if (begins[k].indexOf(letter) >= 0) {
                    sound(text);
                } else {
                    faulty(text, 8);
                }
            }
        }
    }

    /** "numbers (one or two figures)". */
    private static void oneOrTwoFigures() {
        String[][] items = {{"p", ",5;"}, {"p0,", ";"}, {"t", ";"}, {"a", ",0,5,0;"}, {"a0,", ",5,0;"},
            {"a0,0,", ",0;"}, {"a0,0,5,", ";"}, {"e", ";"}, {"g", ";"}};
        // What each number may be of what is told: one, so that no figure alone is the fault.
        String[] number = {"1", "5", "5", "0", "0", "5", "5", "5", "5"};
        for (int k = 0; k < items.length; k++) {
            faulty(LEAST + items[k][0] + items[k][1], 8);
            sound(LEAST + items[k][0] + number[k] + items[k][1]);
            sound(LEAST + items[k][0] + "0" + number[k] + items[k][1]);
            faulty(LEAST + items[k][0] + "00" + number[k] + items[k][1], 8);
            faulty(LEAST + items[k][0] + number[k] + "00" + items[k][1], 8);
        }
        NearlyBought x = Check.laid("p03,07;t08;a00,00,05,01;e04;g03;");
        Check.due("KIND", x.person(0, 0), 3);
        Check.due("COINS", x.person(0, 1), 7);
        Check.due("P", x.thing(0, 0), 8);
        x.fair();
        Check.due("E", x.person(0, 1), 11);
        Check.due("G", x.thing(0, 0), 11);
        Check.due("B", x.nearly(0, 0, 0), 5);
        Check.due("Y", x.nearly(0, 0, 2), 1);
    }

    private static void asManyNumbersAsAreTold() {
        String letters = "ptaeg";
        int[] due = {2, 1, 4, 1, 1};
        for (int k = 0; k < due.length; k++) {
            for (int numbers = 0; numbers <= 6; numbers++) {
                // 0,0,1,1 and so on: none of them is what is not told.
                String all = "0,0,1,1,1,1".substring(0, Math.max(0, 2 * numbers - 1));
                String item = letters.charAt(k) + (letters.charAt(k) == 't' ? all.replace('0', '1') : all) + ";";
                if (numbers == due[k]) {
                    sound(LEAST + item);
                } else {
                    faulty(LEAST + item, 8);
                }
            }
        }
    }

    /** "parted by , and a ; behind the last one". */
    private static void partedByAndBehindTheLast() {
        for (char sign = 32; sign <= 126; sign++) {
            boolean parts = sign == ',';
            boolean ends = sign == ';';
            String[] between = {"p0" + sign + "5;", "a0" + sign + "0,5,0;", "a0,0" + sign + "5,0;", "a0,0,5" + sign + "0;"};
            for (String item : between) {
                Check.due("fault() of " + item, Check.written(LEAST + item).fault(), parts ? Check.NONE : 8);
            }
            String[] behind = {"p0,5" + sign, "t5" + sign, "a0,0,5,0" + sign, "e5" + sign, "g5" + sign};
            for (String item : behind) {
                Check.due("fault() of " + item, Check.written(LEAST + item).fault(), ends ? Check.NONE : 8);
            }
        }
        faulty(LEAST + "t,5;", 8);
        faulty(LEAST + "t5;;", 11);
        faulty(LEAST + ";", 8);
        faulty(";" + LEAST, 0);
        faulty(LEAST + " ", 8);
    }

    /** "of KIND K (0 PLAIN, 1 MASKED, 2 THIEF, 3 CHILD)". */
    private static void kinds() {
        NearlyBought x = Check.laid("p0,1;p1,1;p2,1;p3,1;t1;");
        for (int k = 0; k <= 3; k++) {
            Check.due("KIND", x.person(k, 0), k);
        }
        faulty(LEAST + "p4,1;", 8);
        faulty(LEAST + "p10,1;", 8);
        faulty(LEAST + "p99,1;", 8);
    }

    /** "with C (0 to 99) COINS". */
    private static void coins() {
        NearlyBought x = Check.laid("p0,0;p0,99;t1;");
        Check.due("0 COINS", x.person(0, 1), 0);
        Check.due("99 COINS", x.person(1, 1), 99);
        faulty(LEAST + "p0,100;", 8);
        faulty(LEAST + "p0,-1;", 8);
    }

    private static void sixPersons() {
        String five = "t1;p0,1;p1,2;p2,3;p3,4;p0,5;";
        NearlyBought x = Check.laid(five + "p1,6;");
        Check.due("6 PERSONS", x.count(0), 6);
        for (int i = 0; i < 6; i++) {
            Check.due("KIND of " + i, x.person(i, 0), i % 4);
            Check.due("COINS of " + i, x.person(i, 1), i + 1);
        }
        faulty(five + "p1,6;p2,7;", five.length() + 5);
        faulty(five + "p1,6;e5;p2,7;", five.length() + 8);
    }

    /** "costs P (1 to 60)". */
    private static void costs() {
        NearlyBought x = Check.laid("p0,0;t1;t60;");
        Check.due("1", x.thing(0, 0), 1);
        Check.due("60", x.thing(1, 0), 60);
        faulty(LEAST + "t0;", 8);
        faulty(LEAST + "t61;", 8);
        faulty(LEAST + "t99;", 8);
    }

    private static void sixThings() {
        String five = "p0,0;t1;t2;t3;t4;t5;";
        NearlyBought x = Check.written(five + "t60;");
        Check.due("lay()", x.lay(), 6);
        for (int t = 0; t < 6; t++) {
            Check.due("cost of " + t, x.thing(t, 0), t < 5 ? t + 1 : 60);
        }
        faulty(five + "t60;t7;", five.length() + 4);
    }

    /** "PERSON I PAUSED before THING T (both told ahead)". */
    private static void personToldAhead() {
        StringBuilder text = new StringBuilder("t9;");
        faulty(text + "a0,0,9,0;", 3);
        for (int i = 0; i < 6; i++) {
            faulty(text + "a" + i + ",0,9,0;p0,1;", text.length());
            text.append("p0,1;");
            sound(text + "a" + i + ",0,9,0;");
        }
        faulty(text + "a6,0,9,0;", text.length());
        faulty(text + "a99,0,9,0;", text.length());
    }

    private static void thingToldAhead() {
        StringBuilder text = new StringBuilder("p0,9;");
        faulty(text + "a0,0,9,0;", 5);
        for (int t = 0; t < 6; t++) {
            faulty(text + "a0," + t + ",9,0;t9;", text.length());
            text.append("t9;");
            sound(text + "a0," + t + ",9,0;");
        }
        faulty(text + "a0,6,9,0;", text.length());
        faulty(text + "a0,99,9,0;", text.length());
    }

    /** "for B (1 to 30) BREATHS". */
    private static void breaths() {
        NearlyBought x = Check.laid("p0,0;t1;t1;a0,0,1,0;a0,1,30,0;");
        Check.due("1", x.nearly(0, 0, 0), 1);
        Check.due("30", x.nearly(0, 1, 0), 30);
        faulty(LEAST + "a0,0,0,0;", 8);
        faulty(LEAST + "a0,0,31,0;", 8);
        faulty(LEAST + "a0,0,99,0;", 8);
    }

    /** "in YEAR Y (0 to 9)". */
    private static void years() {
        NearlyBought x = Check.laid("p0,0;t60;t60;a0,0,1,0;a0,1,30,9;");
        Check.due("YEAR 0", x.nearly(0, 0, 2), 0);
        Check.fairs(x, 8);
        Check.due("not in YEAR 8", x.nearly(0, 1, 2), Check.NONE);
        Check.fairs(x, 1);
        Check.due("YEAR 9", x.nearly(0, 1, 2), 9);
        faulty(LEAST + "a0,0,9,10;", 8);
        faulty(LEAST + "a0,0,9,99;", 8);
    }

    private static void ninePauses() {
        StringBuilder text = new StringBuilder("p0,0;p0,0;t9;t9;t9;t9;t9;");
        for (int a = 0; a < 9; a++) {
            text.append('a').append(a / 5).append(',').append(a % 5).append(',').append(a + 1).append(",0;");
        }
        NearlyBought x = Check.laid(text.toString());
        for (int a = 0; a < 9; a++) {
            Check.due("PAUSE " + a, x.nearly(a / 5, a % 5, 0), a + 1);
        }
        faulty(text + "a1,4,10,0;", text.length());
        faulty(text + "e5;a1,4,10,0;", text.length() + 3);
        sound(text + "e5;g5;t9;p0,0;");
    }

    /** "each earns E (0 to 30) a YEAR (5 without; of several the last one counts)". */
    private static void earned() {
        String[] told = {"", "e0;", "e30;", "e30;e0;", "e0;e30;", "e1;e2;e3;", "e5;e4;"};
        int[] due = {5, 0, 30, 0, 30, 3, 4};
        for (int k = 0; k < told.length; k++) {
            for (String text : new String[] {told[k] + LEAST, LEAST + told[k]}) {
                NearlyBought x = Check.laid(text);
                x.fair();
                Check.due("earned by " + text, x.person(0, 1), 9 + due[k]);
            }
        }
        faulty(LEAST + "e31;", 8);
        faulty(LEAST + "e99;", 8);
        faulty(LEAST + "e31;e30;", 8);
    }

    /** "a THING costs G (0 to 9) more each YEAR (2 without; of several the last one counts)". */
    private static void dearer() {
        String[] told = {"", "g0;", "g9;", "g9;g0;", "g0;g9;", "g1;g2;g3;", "g2;g1;"};
        int[] due = {2, 0, 9, 0, 9, 3, 1};
        for (int k = 0; k < told.length; k++) {
            for (String text : new String[] {told[k] + LEAST, LEAST + told[k]}) {
                NearlyBought x = Check.laid(text);
                Check.due("in YEAR 0 by " + text, x.thing(0, 0), 9);
                x.fair();
                Check.due("in YEAR 1 by " + text, x.thing(0, 0), 9 + due[k]);
            }
        }
        faulty(LEAST + "g10;", 8);
        faulty(LEAST + "g99;", 8);
        faulty(LEAST + "g10;g9;", 8);
    }

    /** "(5 without ..)", "(2 without ..)": whatever was LAID or told with a FAULT ahead. */
    private static void withoutIsAsAtFirst() {
        String[] ahead = {"e30;g9;" + LEAST, "e0;g0;" + LEAST, "e30;g9;x", "e31;", "g10;"};
        for (String text : ahead) {
            NearlyBought x = Check.written(text);
            x.lay();
            x.wipe();
            Check.put(x, LEAST);
            Check.due("lay() behind " + text, x.lay(), 1);
            x.fair();
            Check.due("5 behind " + text, x.person(0, 1), 14);
            Check.due("2 behind " + text, x.thing(0, 0), 11);
        }
    }

    /** "FAULT: the place of the first letter of the first ITEM that is not so." */
    private static void faultIsTheFirst() {
        faulty("x" + LEAST, 0);
        faulty("p4,0;t0;", 0);
        faulty("p0,9;t0;t61;", 5);
        faulty("p0,9;t9;t61;t0;", 8);
        faulty("p0,9;t9;a0,0,31,0;p4,0;", 8);
        sound("p0,9;t9;a0,0,30,0;p3,0;");
        sound("p0,9;");
        sound("t9;");
        sound("e5;");
    }

    private static void faultLeavesAll() {
        for (String text : new String[] {"p0,1;t1;", "p0,1;t1;x", ""}) {
            NearlyBought x = new NearlyBought();
            x.fair();
            x.keep();
            x.seen(0, 0, 5);
            Check.put(x, text);
            int[] before = Check.stand(x);
            x.fault();
            Check.same("fault() leaves all", Check.stand(x), before);
        }
    }

    /** "LAID is a TEXT without FAULT, of a PERSON and a THING at least (NO else)". */
    private static void aPersonAndAThingAtLeast() {
        String[] none = {"", "e5;", "p0,9;", "p0,9;p0,9;p0,9;p0,9;p0,9;p0,9;", "t9;", "t9;t9;t9;t9;t9;t9;", "e5;g2;"};
        for (String text : none) {
            NearlyBought x = Check.written(text);
            Check.due("fault() of " + text, x.fault(), Check.NONE);
            Check.due("lay() of " + text, x.lay(), Check.NO);
            Check.due("4 THINGS stay", x.count(1), 4);
        }
        Check.due("one of each", Check.written("p0,9;t9;").lay(), 1);
        Check.due("one of each", Check.written("t9;p0,9;").lay(), 1);
        faulty(LEAST + "p", 8);
    }

    /** "YEARS are 0, 1, .., YEAR 0 first." */
    private static void layBeginsAtYearZero() {
        NearlyBought x = Check.laid("p0,99;t9;t8;a0,0,9,0;");
        Check.fairs(x, 99);
        Check.due("YEAR 99", x.count(2), 99);
        Check.due("lay()", x.lay(), 2);
        Check.due("YEAR 0", x.count(2), 0);
        Check.same("as new", Check.stand(x), Check.stand(Check.laid("p0,99;t9;t8;a0,0,9,0;")));
        Check.due("fair()", x.fair(), 1);
    }

    /** "nothing SEEN, UNDONE, KEPT": of as many as there can be. */
    private static void layWhenAllIsFull() {
        NearlyBought x = Check.laid("p0,99;t9;t8;a0,0,9,0;");
        for (int k = 0; k < 9; k++) {
            x.keep();
            x.seen(1, 0, 9);
            x.fair();
        }
        x.pause(0, 1, 30);
        Check.due("SEEN", x.count(5), 6);
        Check.due("UNDONE", x.count(6), 8);
        Check.due("KEPT", x.count(7), 2);
        Check.due("lay()", x.lay(), 2);
        Check.due("forget()", x.forget(), 0);
        Check.due("undo()", x.undo(), Check.NO);
        Check.due("back()", x.back(), Check.NO);
        Check.due("THE TEXT stays", x.count(8), 21);
        for (int k = 1; k <= 6; k++) {
            Check.due("seen()", x.seen(1, 0, 9), k);
        }
        for (int k = 1; k <= 2; k++) {
            Check.due("keep()", x.keep(), k);
        }
        Check.due("no PAUSE but those told", x.nearly(0, 1, 0), 0);
    }

    /** What was MISSED, given and PAUSED ahead is so no more. */
    private static void layForgetsWhatWas() {
        String text = "p0,8;p0,1;t9;t60;a0,0,9,0;e0;";
        NearlyBought x = Check.laid(text);
        int[] first = Check.stand(x);
        x.pause(1, 1, 30);
        x.give(1, 0, 1);
        Check.fairs(x, 5);
        Check.due("MISSED", x.thing(1, 2), 3);
        Check.due("gone", x.thing(0, 1), 0);
        Check.due("lay()", x.lay(), 2);
        Check.same("as LAID first", Check.stand(x), first);
        x.fair();
        Check.due("MISSED once", x.thing(0, 2), 1);
    }

    /** "THE TEXT is empty": it alone. */
    private static void wipeLeavesAllElse() {
        NearlyBought x = Check.laid(LEAST);
        x.keep();
        x.fair();
        x.seen(0, 0, 1);
        int[] before = Check.stand(x);
        Check.due("wipe()", x.wipe(), 8);
        before[8] = 0;
        Check.same("wipe() leaves all else", Check.stand(x), before);
        Check.due("lay() of nothing", x.lay(), Check.NO);
    }
}
