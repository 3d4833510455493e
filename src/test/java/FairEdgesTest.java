/** The second part of "Terms" (YEARS to UNDONE), and promises 6 to 12: each sentence that names an edge. */
public final class FairEdgesTest {
    public static void main(String[] args) {
        counted();
        nineAreEnough();
        noPauseAtAll();
        notAheadOfItsYear();
        mostBreathsStand();
        ofAsManyTheEarlier();
        priceByYear();
        halfForAChildCut();
        claimOfMost();
        claimOfTheLowest();
        claimIsNobodys();
        justAsManyCoins();
        paidForNothing();
        zeroFirst();
        whatIsSomebodysStays();
        nobodyNearlyBoughtIsNotMissed();
        missedThreeTimesAtMost();
        goesAtTheThirdAtOnce();
        fromThenOnIfMissedAnew();
        notMissedAnewIsTheClaims();
        othersWithJustAsManyCoins();
        othersOfSix();
        dearestMoreThanThatPrice();
        dearestGreatestAndLowest();
        dearestOfAChildIsHalf();
        dearestIsNearlyBought();
        forThatPrice();
        missedTakesCoinsOfTheNext();
        earnedBehindTheFair();
        nineHundredNinetyNine();
        lastYear();
        worthAndHowMany();
        pauseBeforeAnyThing();
        pauseAnswersWhatStands();
        giftOfAll();
        giftToTheFull();
        giftOrder();
        giftAlike();
        undoneEight();
        undoneThoughNothingChanged();
        undoneWhole();
        undoneIsNotUndoneAgain();
        Check.end();
    }

    /** "COUNTED are BREATHS of a PLAIN one as many .., MASKED .. 2 fewer (0 at least), THIEF 3 times .., CHILD twice". */
    private static void counted() {
        for (int b = 1; b <= 30; b++) {
            NearlyBought x = Check.laid("p0,0;p1,0;p2,0;p3,0;t1;");
            int[] due = {b, b < 2 ? 0 : b - 2, b + b + b, b + b};
            for (int i = 0; i < 4; i++) {
                Check.due("pause(" + i + ", 0, " + b + ")", x.pause(i, 0, b), due[i]);
                Check.due("BREATHS of " + i, x.nearly(i, 0, 0), b);
                Check.due("COUNTED of " + i + " by " + b, x.nearly(i, 0, 1), due[i]);
                Check.due("NEARLY of " + i + " by " + b, x.nearly(i, 0, 3), due[i] < 9 ? 0 : 1);
            }
        }
    }

    /** "He NEARLY bought it, if the BREATHS COUNTED of that one are 9 or more". */
    private static void nineAreEnough() {
        NearlyBought x = Check.laid("p0,0;p1,0;p2,0;p3,0;t8;t8;"
            + "a0,0,8,0;a0,1,9,0;a1,0,10,0;a1,1,11,0;a2,0,2,0;a2,1,3,0;a3,0,4,0;a3,1,5,0;");
        for (int i = 0; i < 4; i++) {
            Check.due("too few, " + i, x.nearly(i, 0, 3), 0);
            Check.due("no PRICE, " + i, x.nearly(i, 0, 4), Check.NONE);
            Check.due("no RANK, " + i, x.rank(i, 1), Check.NONE);
            Check.due("enough, " + i, x.nearly(i, 1, 3), 1);
            Check.due("PRICE, " + i, x.nearly(i, 1, 4), i == 3 ? 4 : 8);
            Check.due("RANK, " + i, x.rank(i, 0), 1);
        }
        Check.due("thing 0 is nobody's CLAIM", x.thing(0, 3), Check.NONE);
        Check.due("thing 1 is the child's", x.thing(1, 3), 3);
        Check.due("WANTED", x.wanted(1), 4);
        Check.due("CHEAPEST of thing 0", x.cheapest(0, 0), Check.NONE);
    }

    /** "BREATHS (what = 0; 0: none), .. YEAR (2; NONE) .. PRICE (4; NONE: he did not)". */
    private static void noPauseAtAll() {
        NearlyBought x = Check.laid("p0,0;p1,0;t8;t8;a1,1,1,0;");
        int[] none = {0, 0, Check.NONE, 0, Check.NONE};
        int[] one = {1, 0, 0, 0, Check.NONE};
        for (int what = 0; what <= 4; what++) {
            Check.due("none: nearly(0, 0, " + what + ")", x.nearly(0, 0, what), none[what]);
            Check.due("another's: nearly(0, 1, " + what + ")", x.nearly(0, 1, what), none[what]);
            Check.due("before another: nearly(1, 0, " + what + ")", x.nearly(1, 0, what), none[what]);
            Check.due("one BREATH: nearly(1, 1, " + what + ")", x.nearly(1, 1, what), one[what]);
        }
    }

    /** "made in this YEAR or ahead of it": not in the YEAR ahead, and ever from its YEAR on. */
    private static void notAheadOfItsYear() {
        for (int year = 0; year <= 9; year++) {
            NearlyBought x = Check.laid("p0,0;t60;a0,0,9," + year + ";e0;");
            for (int now = 0; now <= 11; now++) {
                boolean made = now >= year;
                String when = ", told for " + year + ", in YEAR " + now;
                Check.due("BREATHS" + when, x.nearly(0, 0, 0), made ? 9 : 0);
                Check.due("YEAR" + when, x.nearly(0, 0, 2), made ? year : Check.NONE);
                Check.due("CLAIM" + when, x.thing(0, 3), made ? 0 : Check.NONE);
                x.fair();
            }
            Check.due("MISSED", x.thing(0, 2), 3);
        }
        NearlyBought y = Check.laid("p0,0;t60;a0,0,9,9;e0;");
        Check.fairs(y, 9);
        Check.due("not MISSED ahead of its YEAR", y.thing(0, 2), 0);
        y.fair();
        Check.due("MISSED in its YEAR", y.thing(0, 2), 1);
    }

    /** "that of most BREATHS stands": a told one and a made one, one fewer, as many, one more. */
    private static void mostBreathsStand() {
        int[] made = {11, 12, 13};
        int[] stands = {12, 12, 13};
        int[] since = {0, 0, 1};
        for (int k = 0; k < 3; k++) {
            NearlyBought x = Check.laid("p0,0;t20;a0,0,12,0;g3;e0;");
            x.fair();
            Check.due("pause() of " + made[k], x.pause(0, 0, made[k]), stands[k]);
            Check.due("BREATHS", x.nearly(0, 0, 0), stands[k]);
            Check.due("YEAR", x.nearly(0, 0, 2), since[k]);
            Check.due("PRICE", x.nearly(0, 0, 4), 20 + 3 * since[k]);
            NearlyBought y = Check.laid("p0,0;t20;a0,0,12,1;g3;e0;");
            y.pause(0, 0, 24 - made[k]);
            y.fair();
            // 13, 12, 11 made in YEAR 0, and 12 told for YEAR 1.
            Check.due("BREATHS", y.nearly(0, 0, 0), Math.max(12, 24 - made[k]));
            Check.due("YEAR", y.nearly(0, 0, 2), made[k] == 13 ? 1 : 0);
            Check.due("PRICE", y.nearly(0, 0, 4), made[k] == 13 ? 23 : 20);
        }
        NearlyBought z = Check.laid("p0,0;t20;a0,0,9,0;a0,0,10,0;a0,0,8,0;");
        Check.due("most of one YEAR", z.nearly(0, 0, 0), 10);
    }

    private static void ofAsManyTheEarlier() {
        // Told the later one first: the YEAR counts, not the place in the TEXT.
        NearlyBought x = Check.laid("p0,0;t20;a0,0,9,2;a0,0,9,1;g3;e0;");
        Check.fairs(x, 1);
        Check.due("YEAR 1", x.nearly(0, 0, 2), 1);
        x.fair();
        Check.due("YEAR 1 stays", x.nearly(0, 0, 2), 1);
        Check.due("its PRICE stays", x.nearly(0, 0, 4), 23);
        x.pause(0, 0, 9);
        Check.due("YEAR 1 stays", x.nearly(0, 0, 2), 1);
    }

    /** "what it cost in the YEAR of that PAUSE (P and G for each YEAR behind YEAR 0 ..)". */
    private static void priceByYear() {
        NearlyBought x = Check.laid("p0,0;t1;t60;g9;e0;");
        int[] breaths = {9, 10, 11, 12};
        int[] years = {0, 1, 50, 99};
        int now = 0;
        for (int k = 0; k < years.length; k++) {
            Check.fairs(x, years[k] - now);
            now = years[k];
            x.pause(0, 0, breaths[k]);
            x.pause(0, 1, breaths[k]);
            Check.due("PRICE of 0 in YEAR " + now, x.nearly(0, 0, 4), 1 + 9 * now);
            Check.due("PRICE of 1 in YEAR " + now, x.nearly(0, 1, 4), 60 + 9 * now);
            Check.due("cost of 0 in YEAR " + now, x.thing(0, 0), 1 + 9 * now);
            Check.due("cost of 1 in YEAR " + now, x.thing(1, 0), 60 + 9 * now);
        }
        NearlyBought y = Check.laid("p0,0;t60;g0;e0;");
        Check.fairs(y, 99);
        Check.due("never dearer", y.thing(0, 0), 60);
    }

    /** "for a CHILD half of it, cut": of what it cost with G, 0 of 1. */
    private static void halfForAChildCut() {
        int[] costs = {1, 2, 3, 59, 60};
        int[] halves = {0, 1, 1, 29, 30};
        for (int k = 0; k < costs.length; k++) {
            NearlyBought x = Check.laid("p3,0;t" + costs[k] + ";a0,0,5,0;");
            Check.due("half of " + costs[k], x.nearly(0, 0, 4), halves[k]);
            Check.due("it costs the whole", x.thing(0, 0), costs[k]);
        }
        NearlyBought y = Check.laid("p3,0;t5;a0,0,5,3;g1;e0;");
        Check.fairs(y, 3);
        Check.due("half of 5 and 3", y.nearly(0, 0, 4), 4);
    }

    /** "that one's with most BREATHS COUNTED": counted, not made. */
    private static void claimOfMost() {
        NearlyBought x = Check.laid("p1,0;p0,0;t60;a0,0,12,0;a1,0,10,0;");
        Check.due("10 and 10: the lowest", x.thing(0, 3), 0);
        x.pause(1, 0, 11);
        Check.due("10 and 11", x.thing(0, 3), 1);
        x.pause(0, 0, 13);
        Check.due("11 and 11", x.thing(0, 3), 0);
        NearlyBought y = Check.laid("p0,0;p2,0;p3,0;t60;a0,0,30,0;a1,0,10,0;a2,0,15,0;");
        Check.due("30, 30 and 30", y.thing(0, 3), 0);
        y.pause(2, 0, 16);
        Check.due("32 of the child", y.thing(0, 3), 2);
        y.pause(1, 0, 11);
        Check.due("33 of the thief", y.thing(0, 3), 1);
    }

    private static void claimOfTheLowest() {
        for (int lowest = 0; lowest < 6; lowest++) {
            StringBuilder text = new StringBuilder("p0,9;".repeat(6) + "t9;");
            for (int i = 5; i >= lowest; i--) {
                text.append('a').append(i).append(",0,9,0;");
            }
            NearlyBought x = Check.laid(text.toString());
            Check.due("of several the lowest", x.thing(0, 3), lowest);
            x.fair();
            Check.due("he has it", x.thing(0, 1), lowest);
        }
    }

    /** "whose CLAIM it is now (3; NONE: nobody's, it is somebody's)". */
    private static void claimIsNobodys() {
        NearlyBought x = Check.laid("p0,9;t9;t9;t60;a0,0,9,0;a0,1,8,0;a0,2,9,0;");
        Check.due("his", x.thing(0, 3), 0);
        Check.due("nobody's", x.thing(1, 3), Check.NONE);
        Check.due("his, though he has too few", x.thing(2, 3), 0);
        x.fair();
        Check.due("somebody's", x.thing(0, 3), Check.NONE);
        Check.due("it is", x.thing(0, 1), 0);
        Check.due("still his", x.thing(2, 3), 0);
    }

    /** "He has it, if he has COINS for his PRICE (he pays, it is his). If not, it is MISSED once more". */
    private static void justAsManyCoins() {
        int[] coins = {19, 20, 21};
        for (int c : coins) {
            NearlyBought x = Check.laid("p0," + c + ";t20;a0,0,9,0;e0;");
            boolean enough = c >= 20;
            Check.due("fair() with " + c, x.fair(), enough ? 1 : 0);
            Check.due("whose", x.thing(0, 1), enough ? 0 : Check.NONE);
            Check.due("MISSED", x.thing(0, 2), enough ? 0 : 1);
            Check.due("left", x.person(0, 1), enough ? c - 20 : c);
        }
    }

    private static void paidForNothing() {
        NearlyBought x = Check.laid("p3,0;p0,0;t1;t1;a0,0,5,0;a1,1,9,0;e0;g0;");
        Check.due("half of 1 is had without COINS, 1 is not", x.fair(), 1);
        Check.due("the child's", x.thing(0, 1), 0);
        Check.due("0 are left", x.person(0, 1), 0);
        Check.due("MISSED", x.thing(1, 2), 1);
    }

    /** "THINGS that are nobody's, 0 first": what is paid for the first is missing for the next. */
    private static void zeroFirst() {
        for (int k = 0; k < 2; k++) {
            NearlyBought x = Check.laid("p0," + (19 + k) + ";t10;t10;t1;a0,2,9,0;a0,1,9,0;a0,0,9,0;e0;");
            Check.due("how many", x.fair(), 2);
            Check.due("0", x.thing(0, 1), 0);
            Check.due("1", x.thing(1, 1), k == 1 ? 0 : Check.NONE);
            Check.due("2", x.thing(2, 1), k == 1 ? Check.NONE : 0);
        }
    }

    private static void whatIsSomebodysStays() {
        NearlyBought x = Check.laid("p0,99;p0,99;t9;a0,0,9,0;e0;");
        x.fair();
        x.pause(1, 0, 30);
        Check.due("nothing goes", x.fair(), 0);
        Check.due("it stays his", x.thing(0, 1), 0);
        Check.due("nobody pays", x.count(4), 99 + 90);
        Check.due("not MISSED", x.thing(0, 2), 0);
    }

    /** "What nobody NEARLY bought is not MISSED": by 8 it is not, by 9 it is. */
    private static void nobodyNearlyBoughtIsNotMissed() {
        for (int b = 8; b <= 9; b++) {
            NearlyBought x = Check.laid("p0,0;p0,99;t30;t60;a0,0," + b + ",0;a1,1,9,0;e0;g0;");
            x.fair();
            Check.due("MISSED by " + b, x.thing(0, 2), b - 8);
            Check.fairs(x, 2);
            Check.due("goes to another", x.thing(0, 1), b == 9 ? 1 : Check.NONE);
        }
    }

    private static void missedThreeTimesAtMost() {
        NearlyBought x = Check.laid("p0,0;t30;a0,0,9,0;e0;");
        for (int k = 0; k <= 9; k++) {
            Check.due("MISSED behind " + k, x.thing(0, 2), Math.min(k, 3));
            Check.due("nobody's", x.thing(0, 1), Check.NONE);
            x.fair();
        }
    }

    /** "MISSED 3 times, it goes at once": at the third FAIR that misses it, not at the second, not at the fourth. */
    private static void goesAtTheThirdAtOnce() {
        NearlyBought x = Check.laid("p0,0;p0,99;t30;t60;a0,0,9,0;a1,1,9,0;e0;g0;");
        int[] gone = {1, 0, 1, 0};
        int[] missed = {1, 2, 3, 3};
        for (int k = 0; k < 4; k++) {
            Check.due("FAIR " + k, x.fair(), gone[k]);
            Check.due("MISSED", x.thing(0, 2), missed[k]);
            Check.due("whose", x.thing(0, 1), k < 2 ? Check.NONE : 1);
        }
        Check.due("99 less 60 and 30", x.person(1, 1), 9);
    }

    /** "(at each FAIR from then on, if it is missed anew)": at the fourth and the fifth, too. */
    private static void fromThenOnIfMissedAnew() {
        for (int misses = 3; misses <= 6; misses++) {
            NearlyBought x = Check.laid("p0,0;p0,99;t30;t60;a0,0,9,0;e0;g0;");
            Check.fairs(x, misses);
            Check.due("nobody has a dearer one", x.thing(0, 1), Check.NONE);
            x.pause(1, 1, 9);
            Check.due("both go behind " + misses, x.fair(), 2);
            Check.due("thing 0 is 1's", x.thing(0, 1), 1);
            Check.due("for 30, and 60 for thing 1", x.person(1, 1), 9);
            Check.due("MISSED 3 times", x.thing(0, 2), 3);
        }
    }

    /** MISSED 3 times, but not anew: the CLAIM's own COINS are enough by then. */
    private static void notMissedAnewIsTheClaims() {
        for (int c = 29; c <= 30; c++) {
            NearlyBought x = Check.laid("p0,0;p0,99;p0,99;t30;t60;a0,0,9,0;e0;g0;");
            Check.fairs(x, 3);
            x.give(2, 0, c);
            x.pause(1, 1, 9);
            x.fair();
            Check.due("whose, he having " + c, x.thing(0, 1), c == 30 ? 0 : 1);
            Check.due("his COINS", x.person(0, 1), c == 30 ? 0 : 29);
            Check.due("the other's", x.person(1, 1), c == 30 ? 39 : 9);
        }
        NearlyBought y = Check.laid("p0,0;p0,99;t30;a0,0,9,0;e0;g0;");
        Check.fairs(y, 3);
        y.pause(1, 0, 10);
        Check.due("another's CLAIM", y.fair(), 1);
        Check.due("is first", y.thing(0, 1), 1);
    }

    /** "to one of the others who have as many COINS". */
    private static void othersWithJustAsManyCoins() {
        for (int c = 29; c <= 31; c++) {
            NearlyBought x = Check.laid("p0,0;p0," + c + ";t30;t60;a0,0,9,0;a1,1,9,0;e0;g0;");
            Check.fairs(x, 3);
            Check.due("whose, the other having " + c, x.thing(0, 1), c < 30 ? Check.NONE : 1);
            Check.due("left", x.person(1, 1), c < 30 ? c : c - 30);
            Check.due("MISSED", x.thing(0, 2), 3);
        }
        // The CLAIM's own dearest is greatest, but it is none of the others.
        NearlyBought y = Check.laid("p0,29;p0,99;t30;t60;a0,0,9,0;a0,1,9,0;e0;g0;");
        Check.fairs(y, 4);
        Check.due("nobody's", y.thing(0, 1), Check.NONE);
    }

    /** "one of the others": of six any, and none of them. */
    private static void othersOfSix() {
        for (int claim = 0; claim < 6; claim++) {
            for (int other = 0; other < 6; other++) {
                StringBuilder text = new StringBuilder();
                for (int i = 0; i < 6; i++) {
                    text.append(i == claim ? "p0,0;" : "p0,40;");
                }
                text.append("t30;t60;a").append(claim).append(",0,9,0;a").append(other).append(",1,9,0;e0;g0;");
                NearlyBought x = Check.laid(text.toString());
                Check.fairs(x, 4);
                Check.due("from " + claim + " to " + other, x.thing(0, 1), other == claim ? Check.NONE : other);
                Check.due("paid", x.count(4), other == claim ? 200 : 170);
            }
        }
    }

    /** "(.. more than that PRICE)": 30 is not, 31 is. */
    private static void dearestMoreThanThatPrice() {
        for (int dearest = 29; dearest <= 31; dearest++) {
            NearlyBought x = Check.laid("p0,0;p0,99;t30;t" + dearest + ";a0,0,9,0;a1,1,9,0;e0;g0;");
            Check.fairs(x, 5);
            Check.due("whose, the dearest being " + dearest, x.thing(0, 1), dearest > 30 ? 1 : Check.NONE);
        }
        NearlyBought y = Check.laid("p0,0;p0,99;t30;t60;a0,0,9,0;a1,0,8,0;a1,1,8,0;e0;g0;");
        Check.fairs(y, 5);
        Check.due("nobody else NEARLY bought any: it stays", y.thing(0, 1), Check.NONE);
    }

    /** "to whom his dearest is greatest .., of several the lowest". */
    private static void dearestGreatestAndLowest() {
        int[] seconds = {49, 50, 51};
        for (int second : seconds) {
            NearlyBought x = Check.laid("p0,0;p0,40;p0,40;t30;t50;t" + second + ";a0,0,9,0;a1,1,9,0;a2,2,9,0;e0;g0;");
            Check.fairs(x, 3);
            Check.due("whose, by 50 and " + second, x.thing(0, 1), second > 50 ? 2 : 1);
        }
        NearlyBought y = Check.laid("p0,29;p0,40;p0,0;t30;t50;t51;a2,0,9,0;a0,2,9,0;a1,1,9,0;e0;g0;");
        Check.fairs(y, 3);
        Check.due("whose dearest is greatest has too few: the next", y.thing(0, 1), 1);
        NearlyBought z = Check.laid("p0,40;p0,0;t30;t50;a1,0,9,0;a0,1,9,0;e0;g0;");
        Check.fairs(z, 3);
        Check.due("a lower one than the CLAIM's, too", z.thing(0, 1), 0);
    }

    /** A CHILD'S PRICE is half: 62 by 2 is 31, 61 by 2, cut, is 30. */
    private static void dearestOfAChildIsHalf() {
        for (int g = 1; g <= 2; g++) {
            NearlyBought x = Check.laid("p0,0;p3,30;t30;t60;a0,0,9,0;e0;g" + g + ";");
            x.fair();
            x.pause(1, 1, 5);
            Check.due("half of " + (60 + g), x.nearly(1, 1, 4), 29 + g);
            x.fair();
            x.fair();
            Check.due("whose", x.thing(0, 1), g == 2 ? 1 : Check.NONE);
        }
        NearlyBought y = Check.laid("p3,0;p0,30;t59;t60;a0,0,5,0;a1,1,9,0;e0;g0;");
        Check.fairs(y, 3);
        Check.due("for the child's PRICE", y.person(1, 1), 1);
    }

    /** "the greatest PRICE of all THINGS that he NEARLY bought": in this YEAR or ahead of it. */
    private static void dearestIsNearlyBought() {
        for (int year = 1; year <= 4; year++) {
            NearlyBought x = Check.laid("p0,0;p0,30;t30;t60;a0,0,9,0;a1,1,9," + year + ";e0;g0;");
            Check.due("goes(0), told for " + year, x.goes(0), Math.max(3, year + 1));
        }
        NearlyBought y = Check.laid("p0,0;p0,30;t30;t60;t31;a0,0,9,0;a1,1,8,0;a1,2,9,0;e0;g0;");
        Check.due("60 does not count, 31 does", y.behind(0, 3), 1);
    }

    /** "for that PRICE": the CLAIM's, of its YEAR; not what the THING costs by now, nor the other's own. */
    private static void forThatPrice() {
        NearlyBought x = Check.laid("p0,0;p0,99;t30;t60;a0,0,9,0;a1,0,8,0;a1,1,9,2;e0;g5;");
        Check.fairs(x, 3);
        Check.due("it costs 45 by now", x.thing(0, 0), 45);
        Check.due("gone", x.thing(0, 1), 1);
        Check.due("thing 1 is too dear behind it", x.thing(1, 1), Check.NONE);
        Check.due("30 are paid", x.person(1, 1), 69);
    }

    /** A THING that goes to another at once takes the COINS that he would have for the next. */
    private static void missedTakesCoinsOfTheNext() {
        for (int c = 89; c <= 90; c++) {
            NearlyBought x = Check.laid("p0,0;p0," + c + ";t30;t60;a0,0,9,0;a1,1,9,2;e0;g0;");
            Check.fairs(x, 2);
            Check.due("how many at the third", x.fair(), c - 88);
            Check.due("thing 0 first", x.thing(0, 1), 1);
            Check.due("thing 1", x.thing(1, 1), c == 90 ? 1 : Check.NONE);
            Check.due("MISSED", x.thing(1, 2), c == 90 ? 0 : 1);
        }
    }

    /** "Behind the FAIR each earns E": what is earned is for the next one. */
    private static void earnedBehindTheFair() {
        NearlyBought x = Check.laid("p0,0;p1,1;p2,2;p3,3;t5;a0,0,9,0;e5;g0;");
        Check.due("not yet", x.fair(), 0);
        Check.due("MISSED", x.thing(0, 2), 1);
        for (int i = 0; i < 4; i++) {
            Check.due("each earns", x.person(i, 1), 5 + i);
        }
        Check.due("now", x.fair(), 1);
        Check.due("paid and earned", x.person(0, 1), 5);
    }

    /** "(999 COINS at most)": 998, 999 and what would be 1000. */
    private static void nineHundredNinetyNine() {
        NearlyBought x = Check.laid("p0,98;p0,99;p0,97;t1;e30;");
        Check.fairs(x, 30);
        int[] before = {998, 999, 997};
        for (int i = 0; i < 3; i++) {
            Check.due("behind 30", x.person(i, 1), before[i]);
        }
        x.fair();
        for (int i = 0; i < 3; i++) {
            Check.due("behind 31", x.person(i, 1), 999);
        }
        int[] firsts = {68, 69, 70};
        for (int first : firsts) {
            NearlyBought y = Check.laid("p0," + first + ";t1;e30;");
            Check.fairs(y, 30);
            Check.due("30 ahead", y.person(0, 1), first + 900);
            y.fair();
            Check.due("30 more of " + (first + 900), y.person(0, 1), Math.min(first + 930, 999));
        }
    }

    /** "NO: YEAR 99": the FAIR of YEAR 98 is the last. */
    private static void lastYear() {
        NearlyBought x = Check.laid("p0,9;t9;e0;g0;");
        Check.fairs(x, 98);
        x.pause(0, 0, 9);
        Check.due("in YEAR 98", x.count(2), 98);
        Check.due("fair()", x.fair(), 1);
        int[] before = Check.stand(x);
        Check.due("in YEAR 99", x.fair(), Check.NO);
        Check.due("again", x.fair(), Check.NO);
        Check.same("a refused FAIR", Check.stand(x), before);
        Check.due("a PAUSE is made in YEAR 99", x.pause(0, 0, 10), 10);
        Check.due("its YEAR", x.nearly(0, 0, 2), 99);
        Check.due("the PAUSE is UNDONE", x.undo(), 7);
        Check.due("the FAIR is UNDONE", x.undo(), 6);
        Check.due("in YEAR 98", x.count(2), 98);
        Check.due("fair()", x.fair(), 1);
        Check.due("fair()", x.fair(), Check.NO);
    }

    /** "how many THINGS are his (2), WORTH (3)": none, one and one more, by what they cost in this YEAR. */
    private static void worthAndHowMany() {
        NearlyBought x = Check.laid("p0,99;p3,7;t10;t11;t12;t1;t1;t1;a0,0,9,0;a0,1,9,1;a0,2,9,2;e0;g2;");
        int[] coins = {99, 89, 76, 60};
        int[] cost = {0, 12, 14 + 15, 16 + 17 + 18};
        for (int his = 0; his <= 3; his++) {
            Check.due("his THINGS", x.person(0, 2), his);
            Check.due("his COINS", x.person(0, 1), coins[his]);
            Check.due("his WORTH", x.person(0, 3), coins[his] + cost[his]);
            Check.due("the other's THINGS", x.person(1, 2), 0);
            Check.due("the other's WORTH", x.person(1, 3), 7);
            x.fair();
        }
        NearlyBought y = Check.laid("p3,9;t9;a0,0,5,0;e0;g0;");
        y.fair();
        Check.due("a CHILD pays half", y.person(0, 1), 5);
        Check.due("WORTH is of what it costs", y.person(0, 3), 14);
        NearlyBought all = Check.laid("p0,21;t1;t2;t3;t4;t5;t6;a0,0,9,0;a0,1,9,0;a0,2,9,0;a0,3,9,0;a0,4,9,0;a0,5,9,0;e0;g0;");
        Check.due("all six", all.fair(), 6);
        Check.due("all are his", all.person(0, 2), 6);
        Check.due("no COINS, all THINGS", all.person(0, 3), 21);
    }

    private static void pauseBeforeAnyThing() {
        NearlyBought x = Check.laid("p0,99;p0,99;t9;t8;a0,0,9,0;e0;g1;");
        x.fair();
        Check.due("before his own", x.pause(0, 0, 10), 10);
        Check.due("by it he NEARLY bought it anew", x.nearly(0, 0, 4), 10);
        Check.due("before another's", x.pause(1, 0, 30), 30);
        Check.due("no CLAIM", x.thing(0, 3), Check.NONE);
        Check.due("before nobody's", x.pause(1, 1, 9), 9);
        Check.due("CLAIM", x.thing(1, 3), 1);
    }

    /** "how many are COUNTED of that that stands". */
    private static void pauseAnswersWhatStands() {
        NearlyBought x = Check.laid("p1,0;t9;");
        int[] made = {1, 2, 3, 2, 11, 10, 11, 12, 1, 30, 29};
        int[] due = {0, 0, 1, 1, 9, 9, 9, 10, 10, 28, 28};
        for (int k = 0; k < made.length; k++) {
            Check.due("pause() of " + made[k], x.pause(0, 0, made[k]), due[k]);
        }
    }

    /** "c (1 to 99) COINS are given: how many are left. .. NO: not so many". */
    private static void giftOfAll() {
        for (int had = 98; had <= 99; had++) {
            NearlyBought x = Check.laid("p0," + had + ";p0,0;t9;");
            Check.due("99 of " + had, x.give(0, 1, 99), had == 99 ? 0 : Check.NO);
            Check.due("given", x.person(1, 1), had == 99 ? 99 : 0);
            Check.due("left", x.person(0, 1), had == 99 ? 0 : 98);
            Check.due("UNDONE can be", x.count(6), had - 98);
        }
        NearlyBought y = Check.laid("p0,0;p0,1;t9;");
        Check.due("1 of 0", y.give(0, 1, 1), Check.NO);
        Check.due("2 of 1", y.give(1, 0, 2), Check.NO);
        Check.due("1 of 1", y.give(1, 0, 1), 0);
    }

    /** "FULL: more than 999 then". */
    private static void giftToTheFull() {
        NearlyBought x = Check.laid("p0,99;p0,90;t9;e30;");
        Check.fairs(x, 30);
        Check.due("990", x.person(1, 1), 990);
        Check.due("1000", x.give(0, 1, 10), Check.FULL);
        Check.due("1089", x.give(0, 1, 99), Check.FULL);
        Check.due("990 stay", x.person(1, 1), 990);
        Check.due("999 stay", x.person(0, 1), 999);
        Check.due("8 can be UNDONE", x.count(6), 8);
        Check.due("999", x.give(0, 1, 9), 990);
        Check.due("999 now", x.person(1, 1), 999);
        Check.due("1 more", x.give(0, 1, 1), Check.FULL);
        Check.due("1 back", x.give(1, 0, 1), 998);
    }

    /** "Of several the first in this order": BAD, NO, NONE, FULL. */
    private static void giftOrder() {
        NearlyBought x = Check.laid("p0,99;p0,99;p0,99;p0,99;p0,99;p0,99;t9;e30;");
        Check.fairs(x, 5);
        int[] gifts = {99, 99, 51};
        for (int i = 0; i < 3; i++) {
            for (int c : gifts) {
                x.give(i, 5, c);
            }
        }
        Check.due("249 and 3 x 249", x.person(5, 1), 996);
        Check.due("0 left", x.person(0, 1), 0);
        Check.due("not so many, and more than 999", x.give(0, 5, 4), Check.NO);
        Check.due("not so many alone", x.give(0, 5, 3), Check.NO);
        Check.due("more than 999 alone", x.give(3, 5, 4), Check.FULL);
        Check.due("none that is told, not so many, and more than 999", x.give(0, 5, 100), Check.BAD);
        Check.due("none that is told, and more than 999", x.give(3, 5, 100), Check.BAD);
        Check.due("none that is told, and not so many", x.give(0, 1, 100), Check.BAD);
        Check.due("alike, and not so many", x.give(0, 0, 1), Check.BAD);
        Check.due("alike, and more than 999", x.give(5, 5, 99), Check.BAD);
        Check.due("999", x.give(3, 5, 3), 246);
    }

    /** "BAD (alike, too)". */
    private static void giftAlike() {
        NearlyBought x = Check.laid("p0,99;p0,99;p0,99;p0,99;p0,99;p0,99;t9;");
        for (int i = 0; i < 6; i++) {
            for (int j = 0; j < 6; j++) {
                Check.due("give(" + i + ", " + j + ", 1)", x.give(i, j, 1), i == j ? Check.BAD : x.person(i, 1));
            }
        }
        Check.due("alone", Check.laid("p0,99;t9;").give(0, 0, 1), Check.BAD);
    }

    /** "the last 8 can be". */
    private static void undoneEight() {
        for (int acts = 0; acts <= 10; acts++) {
            NearlyBought x = Check.laid("p0,0;t60;e0;");
            Check.fairs(x, acts);
            int can = Math.min(acts, 8);
            Check.due("can be", x.count(6), can);
            for (int left = can - 1; left >= 0; left--) {
                Check.due("undo()", x.undo(), left);
                Check.due("YEAR", x.count(2), acts - can + left);
            }
            Check.due("no more", x.undo(), Check.NO);
            Check.due("YEAR", x.count(2), acts - can);
            Check.due("none can be", x.count(6), 0);
        }
    }

    /** "(such by which nothing becomes another, too ..)". */
    private static void undoneThoughNothingChanged() {
        NearlyBought x = Check.laid("p0,5;p0,5;t60;a0,0,12,0;e0;g0;");
        x.pause(0, 0, 12);
        x.pause(0, 0, 1);
        Check.due("two PAUSES", x.count(6), 2);
        x.give(0, 1, 5);
        x.give(1, 0, 5);
        Check.due("two gifts", x.count(6), 4);
        for (int left = 3; left >= 0; left--) {
            Check.due("undo()", x.undo(), left);
        }
        Check.due("undo()", x.undo(), Check.NO);
        for (int k = 0; k < 9; k++) {
            x.pause(0, 0, 1);
        }
        Check.due("8 of 9", x.count(6), 8);
        x.give(0, 1, 5);
        for (int k = 0; k < 8; k++) {
            x.pause(0, 0, 1);
        }
        for (int left = 7; left >= 0; left--) {
            Check.due("undo()", x.undo(), left);
        }
        Check.due("the gift can't be UNDONE any more", x.person(1, 1), 10);
    }

    /** What a FAIR, a PAUSE and a gift changed is as it was, all of it. */
    private static void undoneWhole() {
        NearlyBought x = Check.laid("p0,0;p0,99;t30;t60;a0,0,9,0;a1,1,9,2;a0,1,7,1;e3;g2;");
        x.fair();
        int[][] stands = new int[3][];
        stands[0] = Check.stand(x);
        x.fair();
        stands[1] = Check.stand(x);
        x.pause(1, 0, 8);
        stands[2] = Check.stand(x);
        x.give(1, 0, 4);
        for (int k = 2; k >= 0; k--) {
            Check.due("undo()", x.undo(), k + 1);
            Check.same("UNDONE to " + k, Check.stand(x), stands[k]);
        }
    }

    private static void undoneIsNotUndoneAgain() {
        NearlyBought x = Check.laid("p0,9;p0,9;t60;e0;");
        x.give(0, 1, 1);
        x.give(0, 1, 2);
        Check.due("the latest first", x.undo(), 1);
        Check.due("2 are back", x.person(0, 1), 8);
        x.give(0, 1, 4);
        Check.due("two can be", x.count(6), 2);
        Check.due("4 are back", x.undo(), 1);
        Check.due("4 are back", x.person(0, 1), 8);
        Check.due("1 is back", x.undo(), 0);
        Check.due("1 is back", x.person(0, 1), 9);
        Check.due("no more", x.undo(), Check.NO);
        Check.due("all as at first", x.person(1, 1), 9);
    }
}
