/** Section 4, promises 23 to 26: each sentence that names a bound has a test of its own. */
public final class BoundsOfSignsTest {
    private static final int BAD = Due.BAD, NONE = Due.NONE;

    public static void main(String[] args) {
        aStrangerHasNoTray();
        aStrangerWentByNoDoor();
        costNoMoreThanC();
        noSetForNothing();
        setsForNothing();
        allSetsForNinetyNine();
        hingesAndGlassAsTheyAre();
        leastWrongExactly();
        ofSeveralTheCheapest();
        ofTheseTheLowest();
        eitherWayTheEmptySet();
        whatStandsIsNoMatter();
        allItsSignsAndWhatTheyCost();
        signsInBounds();
        hungNone();
        hungAll();
        hungBits();
        hungOfEitherIsNoMatter();
        hungOfFewestDoors();
        hungInParts();
        hungChangesNothing();
        hungInBounds();
        clashNone();
        clashOnAllSides();
        clashOfWhatDoesNothing();
        clashBothToPushAndToPull();
        clashWhatIsLessIsMost();
        clashOfSeveralTheLowest();
        clashByHingesAndGlass();
        clashThroughGlassOfEitherSide();
        clashInBounds();
        worthOfNoneIsTwentyThousand();
        worthMoreAndLess();
        worthAtTheMost();
        worthOnNone();
        worthInBounds();
        Due.end();
    }

    private static void best(PushSaidDoor x, int d, int e, int c, int all, int cost) {
        Due.is("signs(" + d + ", " + e + ", " + c + ", 0)", x.signs(d, e, c, 0), all);
        Due.is("signs(" + d + ", " + e + ", " + c + ", 1)", x.signs(d, e, c, 1), cost);
    }

    private static void aStrangerHasNoTray() {
        Due.sentence("A STRANGER has no TRAY");
        PushSaidDoor x = Due.house("r2;d0,1,0,1;s0,0,1;s0,1,2;w9,9,0,0,0,0;p0,1;p1,1;", 2);
        // 10 by 11 on both SIDES, hung 1 by 11
        Due.is("hung(0)", x.hung(0), 1);
        Due.is("hung(1)", x.hung(1), 180);
        Due.is("worth(0)", x.worth(0), 20000 + 500 - 909);
        Due.is("signs for a pull", x.signs(0, 1, 3, 0), 1);
        Due.is("late to a push", x.crowd(1, 0, 0), 4);
        Due.is("late to a pull", x.crowd(1, 1, 0), 4);
    }

    private static void aStrangerWentByNoDoor() {
        Due.sentence("A STRANGER .. went by no DOOR");
        PushSaidDoor x = Due.house("r2;d0,1,0,2;d0,1,1,1;s0,0,1;s1,0,1;w9,9,0,0,20,20;p0,0;", 2);
        int[] ahead = answersOfAStranger(x);
        for (int k = 0; k < 30; k++) {
            x.go(0, k / 2 % 2);
        }
        int[] behind = answersOfAStranger(x);
        for (int k = 0; k < ahead.length; k++) {
            Due.is("answer " + k, behind[k], ahead[k]);
        }
        // 10 by 11 and 1 by 2; 1 by 2 and 1 by 2; 1 by 11; 1 by 2: as it was ahead of all
        Due.is("hung(1)", x.hung(1), 590 + 1000 + 90 + 500);
    }

    private static int[] answersOfAStranger(PushSaidDoor x) {
        return new int[] {x.signs(0, 0, 99, 0), x.signs(0, 1, 3, 0), x.signs(1, 0, 99, 1), x.hung(0), x.hung(1),
            x.clash(0), x.clash(1), x.worth(0), x.worth(1), x.crowd(40, 0, 0), x.crowd(5, 0, -1),
            x.crowd(5, 1, 0), x.day(1, 99, 0, 0, 0), x.day(1, 99, 1, 1, 1), x.fits(9, 0)};
    }

    private static void costNoMoreThanC() {
        Due.sentence("that cost no more than c together");
        PushSaidDoor x = Due.house("r2;d0,1,0,1;w0,9,5,0,0,0;c1,13;c2,6;p0,0;", 2);
        best(x, 0, 0, 5, 0, 0);
        best(x, 0, 0, 6, 4, 6);
        best(x, 0, 0, 12, 4, 6);
        best(x, 0, 0, 13, 2, 13);
        best(x, 0, 0, 18, 2, 13);
        best(x, 0, 0, 19, 6, 19);
        best(x, 0, 0, 20, 6, 19);
    }

    private static void noSetForNothing() {
        Due.sentence("BEST SIGNS of a SIDE for c (0 ..)");
        PushSaidDoor x = Due.house("r2;d0,1,0,1;s0,0,9;s0,1,63;c0,1;c1,1;c2,1;c3,1;p0,0;", 2);
        best(x, 0, 0, 0, 0, 0);
        best(x, 0, 1, 0, 48, 0);
        best(x, 0, 0, 1, 2, 1);
    }

    private static void setsForNothing() {
        Due.sentence("that cost no more than c together (0, and SIGNS that cost 0)");
        PushSaidDoor x = Due.house("r2;d0,1,0,1;c0,0;c1,0;c2,0;c3,0;p0,0;", 2);
        best(x, 0, 0, 0, 6, 0);
        best(x, 0, 1, 0, 9, 0);
        best(x, 0, 0, 99, 6, 0);
    }

    private static void allSetsForNinetyNine() {
        Due.sentence("BEST SIGNS of a SIDE for c (.. to 99)");
        PushSaidDoor x = Due.house("r2;d0,1,0,1;w1,1,1,0,0,0;c0,20;c1,20;c2,20;c3,20;p0,0;", 2);
        best(x, 0, 0, 99, 6, 40);
        best(x, 0, 0, 40, 6, 40);
        best(x, 0, 0, 39, 2, 20);
        best(x, 0, 0, 19, 0, 0);
    }

    private static void hingesAndGlassAsTheyAre() {
        Due.sentence("HINGES, GLASS as they are");
        for (int fixed = 0; fixed < 64; fixed += 16) {
            PushSaidDoor x = Due.house("r2;d0,1,0,1;s0,0," + (fixed + 9) + ";s0,1," + (fixed + 2) + ";p0,0;", 2);
            best(x, 0, 0, 99, fixed + 6, 6);
            best(x, 0, 1, 99, fixed + 9, 6);
            best(x, 0, 0, 2, fixed, 0);
        }
        // PUSH of the other SIDE is seen through GLASS already; its own PUSH is still better
        PushSaidDoor y = Due.house("r2;d0,1,0,1;s0,0,32;s0,1,4;w0,0,20,0,0,0;c2,5;p0,0;", 2);
        best(y, 0, 0, 5, 36, 5);
        best(y, 0, 0, 4, 32, 0);
    }

    private static void leastWrongExactly() {
        Due.sentence("that by which a STRANGER is least WRONG there");
        // HINGES and PLATE: 1 by 42, and PUSH: 1 by 43; both are 23 of a thousand, cut
        PushSaidDoor x = Due.house("r2;d0,1,0,1;d0,1,0,2;s0,0,16;s1,0,16;w0,20,1,20,0,0;c2,20;p0,0;", 2);
        for (int d = 0; d < 2; d++) {
            best(x, d, 0, 23, 16 + 6, 23);
            best(x, d, 0, 22, 16 + 2, 3);
        }
    }

    private static void ofSeveralTheCheapest() {
        Due.sentence("of several the cheapest");
        PushSaidDoor x = Due.house("r2;d0,1,0,1;w5,5,5,0,0,0;c0,4;c1,4;c2,3;c3,3;p0,0;", 2);
        best(x, 0, 0, 4, 4, 3);
        best(x, 0, 1, 4, 8, 3);
        // what does nothing is not put on for 1
        PushSaidDoor y = Due.house("r2;d0,1,0,1;w0,0,5,0,0,0;c0,1;c1,1;p0,0;", 2);
        best(y, 0, 0, 99, 4, 3);
        best(y, 0, 1, 99, 8, 3);
        best(y, 0, 0, 2, 0, 0);
    }

    private static void ofTheseTheLowest() {
        Due.sentence("of these the lowest");
        PushSaidDoor x = Due.house("r2;d0,1,0,1;w5,5,5,0,0,0;p0,0;", 2);
        best(x, 0, 0, 3, 2, 3);
        best(x, 0, 1, 3, 1, 3);
        PushSaidDoor y = Due.house("r2;d0,1,0,1;w0,0,0,0,0,0;c0,0;c1,0;c2,0;c3,0;s0,0,15;p0,0;", 2);
        best(y, 0, 0, 99, 0, 0);
        // PLATE does nothing and costs nothing: PUSH alone is the lower set
        PushSaidDoor z = Due.house("r2;d0,1,0,1;w0,0,5,0,0,0;c1,0;p0,0;", 2);
        best(z, 0, 0, 99, 4, 3);
    }

    private static void eitherWayTheEmptySet() {
        Due.sentence("BEST SIGNS (either way nothing is WRONG by a hand)");
        PushSaidDoor x = Due.house("r2;d0,1,2,1;d0,1,2,2;s0,0,15;s1,0,63;p0,0;", 2);
        best(x, 0, 0, 99, 0, 0);
        best(x, 0, 1, 99, 0, 0);
        best(x, 1, 0, 99, 48, 0);
        best(x, 1, 1, 99, 0, 0);
    }

    private static void whatStandsIsNoMatter() {
        Due.sentence("of sets of SIGNS 0 to 3 (whichever stand there now)");
        for (int signs = 0; signs < 16; signs++) {
            PushSaidDoor x = Due.house("r2;d0,1,0,1;s0,0," + signs + ";c1,7;p0,0;", 2);
            best(x, 0, 0, 99, 6, 10);
            best(x, 0, 0, 9, 2, 7);
            best(x, 0, 0, 6, 4, 3);
            best(x, 0, 0, 2, 0, 0);
            Due.is("they stay", x.door(0, 4), signs);
        }
    }

    private static void allItsSignsAndWhatTheyCost() {
        Due.sentence("all its SIGNS; what those of 0 to 3 cost");
        PushSaidDoor x = Due.house("r2;d0,1,1,1;s0,0,48;c0,19;c3,20;p0,0;", 2);
        best(x, 0, 0, 99, 48 + 9, 39);
        best(x, 0, 0, 38, 48 + 1, 19);
    }

    private static void signsInBounds() {
        Due.sentence("BEST SIGNS: all (what = 0), what it costs (1). BAD.");
        PushSaidDoor x = Due.house("r2;d0,1,0,1;d0,1,0,1;p0,0;", 2);
        int[][] bad = {{2, 0, 0, 0}, {-1, 0, 0, 0}, {0, 2, 0, 0}, {0, -1, 0, 0}, {0, 0, 100, 0}, {0, 0, -1, 0},
            {0, 0, 0, 2}, {0, 0, 0, -1}, {0, 0, Integer.MAX_VALUE, 0}, {0, 0, Integer.MIN_VALUE, 0}};
        for (int[] b : bad) {
            Due.is("signs", x.signs(b[0], b[1], b[2], b[3]), BAD);
        }
        Due.is("the highest numbers", x.signs(1, 1, 99, 1), 6);
    }

    private static void hungNone() {
        Due.sentence("HUNG: of sets of DOORS (the empty one, too)");
        PushSaidDoor x = Due.house("r2;d0,1,0,1;d0,1,1,1;s0,0,2;s0,1,1;s1,0,1;s1,1,2;w9,9,0,0,0,0;p0,0;", 2);
        Due.is("the set", x.hung(0), 0);
        Due.is("PARTS", x.hung(1), 360);
        PushSaidDoor y = Due.house("r2;d0,1,2,1;p0,0;", 2);
        Due.is("the set", y.hung(0), 0);
        Due.is("PARTS", y.hung(1), 0);
    }

    private static void hungAll() {
        Due.sentence("of sets of DOORS of W 0 or 1 (bits) (all eight)");
        PushSaidDoor x = Due.house("r2;d0,1,0,1;d1,0,1,1;d0,1,0,1;d1,0,1,1;d0,1,0,1;d1,0,1,1;d0,1,0,1;d1,0,1,1;p0,0;", 2);
        for (int d = 0; d < 8; d++) {
            x.put(d, d % 2, 1);
        }
        // each 7 by 8 and 1 by 2, hung 1 by 8 and 1 by 2
        Due.is("the set", x.hung(0), 255);
        Due.is("PARTS", x.hung(1), 8 * 625);
        for (int d = 0; d < 8; d++) {
            x.hang(d);
            Due.is("the set behind " + d, x.hung(0), 255 - (2 << d) + 1);
            Due.is("PARTS behind " + d, x.hung(1), 8 * 625);
        }
    }

    private static void hungBits() {
        Due.sentence("DOORS (bits)");
        for (int only = 0; only < 8; only++) {
            PushSaidDoor x = Due.house("r2;d0,1,0,1;d0,1,0,1;d0,1,0,1;d0,1,0,1;d0,1,0,1;d0,1,0,1;d0,1,0,1;d0,1,0,1;p0,0;", 2);
            x.put(only, 0, 1);
            Due.is("the set", x.hung(0), 1 << only);
            Due.is("PARTS", x.hung(1), 7 * 1000 + 625);
        }
    }

    private static void hungOfEitherIsNoMatter() {
        Due.sentence("DOORS of W 0 or 1");
        PushSaidDoor x = Due.house("r2;d0,1,2,2;d0,1,0,1;d0,1,2,1;s0,0,1;s1,0,1;s2,0,1;p0,0;", 2);
        // the bolts of 0 count: 1 by 2 on both SIDES
        Due.is("the set", x.hung(0), 2);
        Due.is("PARTS", x.hung(1), 1000 + 625);
    }

    private static void hungOfFewestDoors() {
        Due.sentence("that of fewest DOORS");
        // hung the other way they are just as WRONG
        PushSaidDoor x = Due.house("r2;d0,1,0,1;d0,1,1,2;d0,1,0,1;s2,0,15;s2,1,15;w5,5,5,5,5,5;p0,0;", 2);
        Due.is("the set", x.hung(0), 0);
        Due.is("PARTS", x.hung(1), 1000 + 2000 + 1000);
        x.put(1, 1, 2);
        Due.is("worse by it", x.hung(0), 0);
        x.put(1, 1, 1);
        Due.is("better by it", x.hung(0), 2);
    }

    private static void hungInParts() {
        Due.sentence("in fewest PARTS on all SIDES of all DOORS together");
        // PLATE 1 and PULL 20 there: 21 by 23 is 913, hung 2 by 23 is 86; and 500
        PushSaidDoor x = Due.house("r2;d0,1,0,1;s0,0,10;w0,1,20,0,0,0;p0,0;", 2);
        Due.is("the set", x.hung(0), 1);
        Due.is("PARTS", x.hung(1), 86 + 500);
        // a push: 6 by 9 is 666 and 3 by 9 is 333; hung 333 and 666
        PushSaidDoor y = Due.house("r2;d0,1,0,1;s0,0,3;s0,1,3;w5,2,0,0,0,0;p0,0;", 2);
        Due.is("alike in PARTS", y.hung(0), 0);
        Due.is("PARTS", y.hung(1), 999);
    }

    private static void hungChangesNothing() {
        Due.sentence("HUNG (were they HUNG: none is)");
        PushSaidDoor x = Due.house("r2;d0,1,0,1;s0,0,1;p0,0;", 2);
        Due.is("the set", x.hung(0), 1);
        Due.is("W", x.door(0, 2), 0);
        Due.is("nothing to undo", x.count(5), 0);
        Due.is("the set again", x.hung(0), 1);
    }

    private static void hungInBounds() {
        Due.sentence("HUNG: the set (what = 0), PARTS (1). BAD.");
        PushSaidDoor x = new PushSaidDoor();
        int[] none = {-1, 2, Integer.MIN_VALUE, Integer.MAX_VALUE};
        for (int far : none) {
            Due.is("hung(" + far + ")", x.hung(far), BAD);
        }
        Due.is("hung(0)", x.hung(0), 3);
        // 1 by 12, 1 by 2; hung 1 by 12 and 1 by 2, 1 by 2 and 1 by 2
        Due.is("hung(1)", x.hung(1), 83 + 500 + 583 + 1000);
    }

    private static void clashNone() {
        Due.sentence("CLASH: .. none");
        PushSaidDoor x = Due.house("r2;d0,1,0,1;p0,0;", 2);
        Due.is("how many", x.clash(0), 0);
        Due.is("which", x.clash(1), NONE);
        x.put(0, 0, 6);
        x.put(0, 1, 9);
        Due.is("how many", x.clash(0), 0);
        Due.is("which", x.clash(1), NONE);
        x.put(0, 1, 3);
        Due.is("how many", x.clash(0), 1);
        Due.is("which", x.clash(1), 1);
    }

    private static void clashOnAllSides() {
        Due.sentence("how many SIDES there are (.. as 2 times the DOOR and the SIDE)");
        PushSaidDoor x = Due.house("r2;d0,1,0,1;d0,1,1,1;d0,1,2,1;d0,1,0,1;d0,1,0,1;d0,1,0,1;d0,1,0,1;d0,1,0,1;w9,1,1,0,0,0;p0,0;", 2);
        for (int side = 0; side < 16; side++) {
            x.put(side / 2, side % 2, 3);
            Due.is("how many", x.clash(0), side + 1);
            Due.is("which", x.clash(1), 0);
        }
        for (int side = 0; side < 16; side++) {
            x.put(side / 2, side % 2, 7);
            Due.is("2 to push there", x.clash(1), side);
            x.put(side / 2, side % 2, 3);
        }
        for (int side = 0; side < 15; side++) {
            x.put(side / 2, side % 2, 0);
            Due.is("how many", x.clash(0), 15 - side);
            Due.is("the lowest left", x.clash(1), side + 1);
        }
    }

    private static void clashOfWhatDoesNothing() {
        Due.sentence("on which SIGNS do something");
        PushSaidDoor x = Due.house("r2;d0,1,0,1;s0,0,63;s0,1,63;w0,0,0,0,20,20;p0,0;", 2);
        Due.is("all do nothing", x.clash(0), 0);
        Due.is("all do nothing", x.clash(1), NONE);
        PushSaidDoor y = Due.house("r2;d0,1,0,1;s0,0,7;s0,1,11;w0,20,1,20,0,0;p0,0;", 2);
        Due.is("a GRIP that does nothing", y.clash(0), 1);
        Due.is("a PULL that does 1", y.clash(1), 1);
        PushSaidDoor z = Due.house("r2;d0,1,0,1;s0,0,33;s0,1,4;w5,5,1,5,0,0;p0,0;", 2);
        Due.is("1 by 2, cut", z.clash(0), 0);
    }

    private static void clashBothToPushAndToPull() {
        Due.sentence("do something both to push and to pull");
        int[] push = {0, 1, 1, 0, 1, 0};
        for (int k = 0; k < 4; k++) {
            for (int j = 0; j < 4; j++) {
                PushSaidDoor x = Due.house("r2;d0,1,0,1;s0,0," + (1 << k | 1 << j) + ";p0,0;", 2);
                Due.is("SIGNS " + k + " and " + j, x.clash(0), push[k] != push[j] ? 1 : 0);
            }
        }
    }

    private static void clashWhatIsLessIsMost() {
        Due.sentence("the one on which what is less of the two is most");
        PushSaidDoor x = Due.house("r2;d0,1,0,1;d0,1,0,1;s0,0,3;s0,1,12;s1,0,14;w20,4,5,0,0,0;p0,0;", 2);
        // 4 of 4 and 20, 5 of 5 and 5, 5 of 9 and 5
        Due.is("how many", x.clash(0), 3);
        Due.is("5 of 5 and 5", x.clash(1), 1);
        x.put(1, 0, 15);
        Due.is("9 of 9 and 25", x.clash(1), 2);
        x.put(0, 0, 7);
        Due.is("9 of 9 and 20", x.clash(1), 0);
    }

    private static void clashOfSeveralTheLowest() {
        Due.sentence("of several the lowest (CLASH)");
        PushSaidDoor x = Due.house("r2;d0,1,0,1;d0,1,0,1;s0,1,3;s1,0,3;s1,1,3;p0,0;", 2);
        Due.is("how many", x.clash(0), 3);
        Due.is("of 1, 2, 3", x.clash(1), 1);
        x.put(0, 1, 12);
        Due.is("of 2, 3", x.clash(1), 2);
        x.put(0, 0, 3);
        Due.is("of 0, 2, 3", x.clash(1), 0);
    }

    private static void clashByHingesAndGlass() {
        Due.sentence("SIGNS do something (HINGES and GLASS, too)");
        PushSaidDoor x = Due.house("r2;d0,1,0,1;d0,1,2,1;s0,0,17;s0,1,18;s1,0,19;p0,0;", 2);
        Due.is("HINGES to a push, to a pull", x.clash(0), 3);
        x.put(0, 0, 18);
        x.put(0, 1, 17);
        x.put(1, 0, 17);
        Due.is("alike both, to either nothing", x.clash(0), 0);
        x.put(1, 0, 33);
        x.put(1, 1, 4);
        Due.is("GLASS to PUSH", x.clash(0), 1);
        Due.is("on the SIDE of the GLASS", x.clash(1), 2);
        x.put(1, 0, 32);
        x.put(1, 1, 12);
        Due.is("both words, and through GLASS", x.clash(0), 2);
        Due.is("4 of 4 and 4", x.clash(1), 3);
    }

    private static void clashThroughGlassOfEitherSide() {
        Due.sentence("GLASS to what each word on the other SIDE says (CLASH, CROWD, of both SIDES)");
        for (int d = 0; d < 8; d++) {
            for (int e = 0; e < 2; e++) {
                PushSaidDoor x = Due.house("r2;d0,1,0,1;d0,1,0,1;d0,1,0,1;d0,1,0,1;d0,1,0,1;d0,1,0,1;d0,1,0,1;d0,1,0,1;p0,0;", 2);
                x.put(d, e, 33);
                x.put(d, 1 - e, 4);
                Due.is("how many", x.clash(0), 1);
                Due.is("which", x.clash(1), 2 * d + e);
                x.put(d, e, 32);
                x.put(d, 1 - e, e == 0 ? 8 : 4);
                Due.is("none", x.clash(0), 0);
                Due.is("the other word is late", x.crowd(1, e, d), 4);
                x.put(d, 1 - e, e == 0 ? 4 : 8);
                Due.is("the word that is so", x.crowd(1, e, d), 1);
            }
        }
    }

    private static void clashInBounds() {
        Due.sentence("CLASH: how many (what = 0), which (1; NONE). BAD.");
        PushSaidDoor x = new PushSaidDoor();
        int[] none = {-1, 2, Integer.MIN_VALUE, Integer.MAX_VALUE};
        for (int far : none) {
            Due.is("clash(" + far + ")", x.clash(far), BAD);
        }
        Due.is("clash(0)", x.clash(0), 0);
        Due.is("clash(1)", x.clash(1), NONE);
    }

    private static void worthOfNoneIsTwentyThousand() {
        Due.sentence("WORTH .. and 20000");
        PushSaidDoor x = Due.house("r2;d0,1,0,1;d0,1,2,2;s1,0,63;s1,1,63;p0,0;", 2);
        for (int k = 0; k < 6; k++) {
            Due.is("worth(" + k + ")", x.worth(k), 20000);
        }
    }

    private static void worthMoreAndLess() {
        Due.sentence("how many PARTS more (or less) a STRANGER would be WRONG on all SIDES together");
        PushSaidDoor x = Due.house("r2;d0,1,0,1;s0,0,2;w9,9,0,0,0,0;p0,0;", 2);
        Due.is("a PLATE to be pushed", x.worth(1), 20000 + 500 - 90);
        x.put(0, 0, 0);
        x.put(0, 1, 2);
        Due.is("a PLATE to be pulled", x.worth(1), 20000 + 500 - 909);
        x.put(0, 0, 2);
        Due.is("on both SIDES", x.worth(1), 20000 + 1000 - 999);
    }

    private static void worthAtTheMost() {
        Due.sentence("on all SIDES together (of eight DOORS)");
        PushSaidDoor x = Due.house("r2;d0,1,0,1;d0,1,0,1;d0,1,0,1;d0,1,0,1;d0,1,0,1;d0,1,0,1;d0,1,0,2;d0,1,0,2;w20,20,20,20,0,0;p0,0;", 2);
        for (int side = 0; side < 16; side++) {
            x.put(side / 2, side % 2, 16);
        }
        // 1 by 22 each, without 1 by 2; of the two LEAVES 1 by 2 besides in both
        Due.is("HINGES", x.worth(4), 20000 + 12 * (500 - 45) + 4 * (1000 - 545));
        for (int side = 0; side < 16; side++) {
            x.put(side / 2, side % 2, side % 2 == 0 ? 1 : 2);
        }
        Due.is("GRIP", x.worth(0), 20000 + 6 * (500 - 954) + 2 * (1000 - 1454));
        Due.is("PLATE", x.worth(1), 20000 + 6 * (500 - 954) + 2 * (1000 - 1454));
    }

    private static void worthOnNone() {
        Due.sentence("were it on none (a word not seen through GLASS either)");
        PushSaidDoor x = Due.house("r2;d0,1,0,1;s0,0,4;s0,1,32;w0,0,6,0,0,0;p0,0;", 2);
        // 1 by 8; push 4, pull 1 to a pull: 4 by 5. Without PUSH 1 by 2 each; without GLASS 1 by 8 and 1 by 2
        Due.is("PUSH", x.worth(2), 20000 + 1000 - 925);
        Due.is("GLASS", x.worth(5), 20000 + 625 - 925);
        Due.is("SIGNS stay", x.door(0, 4) * 100 + x.door(0, 5), 432);
    }

    private static void worthInBounds() {
        Due.sentence("WORTH of a SIGN (0 to 5). BAD.");
        PushSaidDoor x = Due.house("r2;d0,1,0,1;s0,0,16;w0,0,0,1,0,0;p0,0;", 2);
        int[] none = {-1, 6, 7, 31, 32, Integer.MIN_VALUE, Integer.MAX_VALUE};
        for (int far : none) {
            Due.is("worth(" + far + ")", x.worth(far), BAD);
        }
        Due.is("worth(0)", x.worth(0), 20000);
        Due.is("worth(4)", x.worth(4), 20000 + 500 - 333);
        Due.is("worth(5)", x.worth(5), 20000);
    }
}
