/** Promises 6 to 8: person, thing, nearly. */
public final class StandTest {
    private static final int[] WRONG = {-1, 4, 5, 6, 7, 36, Integer.MAX_VALUE, Integer.MIN_VALUE};

    public static void main(String[] args) {
        person();
        thing();
        claims();
        nearly();
        enoughBreathsByKind();
        whichPauseStands();
        prices();
        wrong();
        Check.end();
    }

    private static void person() {
        NearlyBought x = Check.laid("p0,50;p3,9;t20;t10;t60;a0,0,9,0;a0,1,9,1;a1,1,1,0;e7;g3;");
        Check.due("person(0, 2) first", x.person(0, 2), 0);
        Check.due("person(0, 3) first", x.person(0, 3), 50);
        x.fair();
        Check.due("person(0, 0)", x.person(0, 0), 0);
        Check.due("person(1, 0)", x.person(1, 0), 3);
        Check.due("person(0, 1)", x.person(0, 1), 37);
        Check.due("person(0, 2)", x.person(0, 2), 1);
        Check.due("person(0, 3): worth by this year", x.person(0, 3), 37 + 23);
        x.fair();
        Check.due("person(0, 1): paid what it cost in year 1", x.person(0, 1), 37 - 13 + 7);
        Check.due("person(0, 2): two", x.person(0, 2), 2);
        Check.due("person(0, 3): two", x.person(0, 3), 31 + 26 + 16);
        Check.due("person(1, 3)", x.person(1, 3), 23);
    }

    private static void thing() {
        NearlyBought x = Check.laid("p3,10;p0,40;t21;t50;a0,0,5,0;a1,1,9,0;e1;g4;");
        Check.due("thing(0, 0)", x.thing(0, 0), 21);
        Check.due("thing(0, 1)", x.thing(0, 1), Check.NONE);
        Check.due("thing(0, 3)", x.thing(0, 3), 0);
        x.fair();
        Check.due("a child pays half, cut", x.person(0, 1), 1);
        Check.due("thing(0, 0) in year 1", x.thing(0, 0), 25);
        Check.due("thing(0, 1)", x.thing(0, 1), 0);
        Check.due("thing(0, 2)", x.thing(0, 2), 0);
        Check.due("thing(0, 3): it is somebody's", x.thing(0, 3), Check.NONE);
        Check.due("a child's thing is worth the whole", x.person(0, 3), 26);
        for (int missed = 1; missed <= 5; missed++) {
            Check.due("thing(1, 2)", x.thing(1, 2), Math.min(missed, 3));
            Check.due("thing(1, 1)", x.thing(1, 1), Check.NONE);
            x.fair();
        }
    }

    private static void claims() {
        NearlyBought x = Check.laid("p0,0;p1,0;p2,0;p3,0;t9;t9;t9;a0,0,18,0;a1,0,20,0;a2,0,6,0;a3,0,9,0;a3,1,30,1;");
        Check.due("of as many the lowest", x.thing(0, 3), 0);
        Check.due("nobody's claim", x.thing(1, 3), Check.NONE);
        x.pause(1, 0, 21);
        Check.due("counted 19", x.thing(0, 3), 1);
        x.pause(2, 0, 7);
        Check.due("counted 21", x.thing(0, 3), 2);
        x.pause(3, 0, 11);
        Check.due("counted 22", x.thing(0, 3), 3);
        x.pause(0, 2, 8);
        Check.due("8 are not enough", x.thing(2, 3), Check.NONE);
        x.pause(1, 2, 11);
        Check.due("9 are", x.thing(2, 3), 1);
        x.fair();
        Check.due("the claim of a year is of that year on", x.thing(1, 3), 3);
    }

    private static void nearly() {
        NearlyBought x = Check.laid("p0,0;p1,0;t30;t40;a0,0,9,2;a1,0,1,0;a1,1,10,0;g5;");
        int[] none = {0, 0, Check.NONE, 0, Check.NONE};
        for (int what = 0; what < 5; what++) {
            Check.due("not paused: nearly(0, 1, " + what + ")", x.nearly(0, 1, what), none[what]);
            Check.due("not paused yet: nearly(0, 0, " + what + ")", x.nearly(0, 0, what), none[what]);
        }
        int[] little = {1, 0, 0, 0, Check.NONE};
        int[] more = {10, 8, 0, 0, Check.NONE};
        for (int what = 0; what < 5; what++) {
            Check.due("masked, 1: nearly(1, 0, " + what + ")", x.nearly(1, 0, what), little[what]);
            Check.due("masked, 10: nearly(1, 1, " + what + ")", x.nearly(1, 1, what), more[what]);
        }
        x.fair();
        Check.due("not in year 1", x.nearly(0, 0, 0), 0);
        x.fair();
        int[] then = {9, 9, 2, 1, 40};
        for (int what = 0; what < 5; what++) {
            Check.due("in year 2: nearly(0, 0, " + what + ")", x.nearly(0, 0, what), then[what]);
        }
        x.fair();
        Check.due("as dear as in its year", x.nearly(0, 0, 4), 40);
        Check.due("its year stays", x.nearly(0, 0, 2), 2);
    }

    private static void enoughBreathsByKind() {
        int[] enough = {9, 11, 3, 5};
        int[] counted = {9, 9, 9, 10};
        int[] before = {8, 8, 6, 8};
        for (int i = 0; i < 4; i++) {
            NearlyBought x = Check.laid("p0,0;p1,0;p2,0;p3,0;t30;");
            x.pause(i, 0, enough[i] - 1);
            Check.due("kind " + i + ", one fewer: counted", x.nearly(i, 0, 1), before[i]);
            Check.due("kind " + i + ", one fewer", x.nearly(i, 0, 3), 0);
            x.pause(i, 0, enough[i]);
            Check.due("kind " + i + ": counted", x.nearly(i, 0, 1), counted[i]);
            Check.due("kind " + i, x.nearly(i, 0, 3), 1);
            Check.due("kind " + i + ": price", x.nearly(i, 0, 4), i == 3 ? 15 : 30);
        }
    }

    private static void whichPauseStands() {
        NearlyBought x = Check.laid("p0,0;t10;a0,0,12,3;a0,0,10,0;a0,0,12,1;a0,0,11,2;g9;");
        Check.due("year 0", x.nearly(0, 0, 0), 10);
        x.fair();
        Check.due("year 1", x.nearly(0, 0, 0), 12);
        x.fair();
        Check.due("fewer do not stand", x.nearly(0, 0, 0), 12);
        x.fair();
        Check.due("of as many that of the earlier year", x.nearly(0, 0, 2), 1);
        Check.due("and its price", x.nearly(0, 0, 4), 19);
        x.pause(0, 0, 12);
        Check.due("a made one as well", x.nearly(0, 0, 2), 1);
        x.pause(0, 0, 13);
        Check.due("one of more stands", x.nearly(0, 0, 2), 3);
        Check.due("at the price of its year", x.nearly(0, 0, 4), 37);

        NearlyBought y = Check.laid("p1,0;t10;a0,0,2,1;a0,0,1,0;");
        Check.due("masked: 1 of year 0", y.nearly(0, 0, 2), 0);
        y.fair();
        Check.due("most by breaths, as many counted", y.nearly(0, 0, 0), 2);
        Check.due("its year", y.nearly(0, 0, 2), 1);
    }

    private static void prices() {
        NearlyBought x = Check.laid("p0,0;p3,0;t1;t60;a0,0,9,9;a1,0,9,9;a1,1,5,0;a0,1,30,0;g9;");
        Check.due("a child's half of 60", x.nearly(1, 1, 4), 30);
        Check.due("60", x.nearly(0, 1, 4), 60);
        Check.fairs(x, 9);
        Check.due("1 and 9 x 9", x.nearly(0, 0, 4), 82);
        Check.due("half", x.nearly(1, 0, 4), 41);
        NearlyBought y = Check.laid("p3,0;t1;a0,0,5,0;");
        Check.due("half of 1", y.nearly(0, 0, 4), 0);
        Check.due("for nothing", y.fair(), 1);
    }

    private static void wrong() {
        NearlyBought x = new NearlyBought();
        for (int w : WRONG) {
            Check.due("person(" + w + ", 0)", x.person(w, 0), Check.BAD);
            Check.due("person(0, " + w + ")", x.person(0, w), Check.BAD);
            Check.due("thing(" + w + ", 0)", x.thing(w, 0), Check.BAD);
            Check.due("thing(0, " + w + ")", x.thing(0, w), Check.BAD);
            Check.due("nearly(" + w + ", 0, 0)", x.nearly(w, 0, 0), Check.BAD);
            Check.due("nearly(0, " + w + ", 0)", x.nearly(0, w, 0), Check.BAD);
            Check.due("nearly(0, 0, " + w + ")", x.nearly(0, 0, w), w == 4 ? 30 : Check.BAD);
        }
        NearlyBought y = Check.laid("p0,0;t1;");
        Check.due("persons such as there are", y.person(1, 0), Check.BAD);
        Check.due("things such as there are", y.thing(1, 0), Check.BAD);
        Check.due("nearly(1, 0, 0) of one", y.nearly(1, 0, 0), Check.BAD);
        Check.due("nearly(0, 1, 0) of one", y.nearly(0, 1, 0), Check.BAD);
    }
}
