/** Section 4, promises 27 to 34: each sentence that names a bound has a test of its own. */
public final class BoundsOfDaysTest {
    private static final int BAD = Due.BAD, NO = Due.NO, FULL = Due.FULL, NONE = Due.NONE;
    private static final String EIGHT_PULLS = "r2;d1,0,0,1;d1,0,0,2;d1,0,0,1;d1,0,0,2;d1,0,0,1;d1,0,0,2;d1,0,0,1;d1,0,0,2;";

    public static void main(String[] args) {
        crowdOfOneToNinetyNine();
        firstBehindOneSecondOrFour();
        chanceOfLessThanOneOfTwo();
        eitherIsNeverLate();
        fromTheEleventhOnTwo();
        pullsNoMoreThanFive();
        crowdByAllDoors();
        crowdWellParted();
        crowdNone();
        crowdOfARoomWithoutDoors();
        crowdNotBeside();
        crowdInBounds();
        eightFilmsAtMost();
        filmOfOneToFifty();
        filmInBounds();
        forgetAnswersHowManyThereWere();
        fitsWithoutFilm();
        fitsByGripFromNoughtToTwenty();
        fitsNoMoreThanT();
        fitsEachFilm();
        fitsCut();
        fitsAllElseAsItIs();
        fitsThroughGlassOfEitherSide();
        fitsOnlyByAGrip();
        fitsNone();
        fitsInBounds();
        daysByDraws();
        dayOfTheFirstStranger();
        dayLetsTwoLeavesBe();
        dayOfEither();
        dayByWhatStrangersWeigh();
        dayInBounds();
        twoHousesKept();
        keptIsTheHouseAsItIs();
        keptButRowAndFilms();
        keepLeavesWhatCanBeUndone();
        backIsAsKeptLast();
        backUndoesNothing();
        backOfNothingIsNo();
        countInBounds();
        Due.end();
    }

    private static void crowdOfOneToNinetyNine() {
        Due.sentence("one of n (1 to 99) .. then 1 with each second");
        PushSaidDoor x = Due.house("r2;d0,1,0,1;p0,0;", 2);
        for (int n = 1; n <= 99; n++) {
            Due.is("crowd of " + n, x.crowd(n, 0, 0), n);
            Due.is("crowd of " + n + " by all", x.crowd(n, 0, -1), n);
        }
        Due.is("of none", x.crowd(0, 0, 0), BAD);
        Due.is("of 100", x.crowd(100, 0, 0), BAD);
    }

    private static void firstBehindOneSecondOrFour() {
        Due.sentence("the first one is out behind 1 second, or behind 4");
        PushSaidDoor x = Due.house("r2;d0,1,0,1;p0,0;", 2);
        Due.is("the first one", x.crowd(1, 0, 0), 1);
        x.put(0, 0, 1);
        for (int n = 1; n <= 99; n++) {
            Due.is("crowd of " + n, x.crowd(n, 0, 0), n + 3);
        }
        Due.is("toward there", x.crowd(1, 1, 0), 1);
        x.put(0, 1, 2);
        Due.is("toward there", x.crowd(1, 1, 0), 4);
    }

    private static void chanceOfLessThanOneOfTwo() {
        Due.sentence("if a STRANGER tries first what it WANTS by a chance of less than 1 of 2");
        // a push of 21 + P, a pull of 21 + G: one more or less of either
        int[][] gripAndPlate = {{0, 0}, {1, 1}, {20, 20}, {0, 1}, {19, 20}, {1, 0}, {20, 19}, {1, 1}};
        int[] toPush = {1, 1, 1, 1, 1, 4, 4, 1};
        int[] toPull = {1, 1, 1, 4, 4, 1, 1, 1};
        for (int k = 0; k < toPush.length; k++) {
            PushSaidDoor x = Due.house("r2;d0,1,0,1;s0,0,15;s0,1,15;w" + gripAndPlate[k][0] + ","
                    + gripAndPlate[k][1] + ",20,0,0,0;p0,0;", 2);
            Due.is("a push", x.crowd(1, 0, 0), toPush[k]);
            Due.is("a pull", x.crowd(1, 1, 0), toPull[k]);
        }
    }

    private static void eitherIsNeverLate() {
        Due.sentence("tries first what it WANTS (either)");
        PushSaidDoor x = Due.house("r2;d0,1,2,1;d0,1,2,2;s0,0,1;s0,1,2;s1,0,63;w20,20,0,0,0,0;p0,0;", 2);
        for (int room = 0; room < 2; room++) {
            Due.is("the first one", x.crowd(1, room, 0), 1);
            Due.is("the last one", x.crowd(99, room, 0), 99);
            Due.is("the first one", x.crowd(1, room, 1), 1);
            Due.is("the last one", x.crowd(99, room, 1), 55);
        }
    }

    private static void fromTheEleventhOnTwo() {
        Due.sentence("from the eleventh one on 2, if it is of two LEAVES");
        PushSaidDoor x = Due.house("r2;d0,1,0,2;d0,1,0,1;p0,0;", 2);
        for (int n = 1; n <= 99; n++) {
            int due = n <= 10 ? n : 10 + (n - 9) / 2;
            Due.is("two LEAVES, crowd of " + n, x.crowd(n, 0, 0), due);
            Due.is("one leaf, crowd of " + n, x.crowd(n, 0, 1), n);
        }
        x.put(0, 0, 1);
        int[] n = {1, 9, 10, 11, 12, 13, 98, 99};
        int[] due = {4, 12, 13, 14, 14, 15, 57, 58};
        for (int k = 0; k < n.length; k++) {
            Due.is("late, crowd of " + n[k], x.crowd(n[k], 0, 0), due[k]);
        }
    }

    private static void pullsNoMoreThanFive() {
        Due.sentence("by one that WANTS a pull no more than 5 at all");
        PushSaidDoor x = Due.house("r2;d0,1,1,1;d0,1,1,2;s1,0,2;p0,0;", 2);
        for (int n = 1; n <= 99; n++) {
            Due.is("a pull, crowd of " + n, x.crowd(n, 0, 0), n <= 5 ? n : NONE);
            Due.is("a late pull, crowd of " + n, x.crowd(n, 0, 1), n <= 5 ? n + 3 : NONE);
        }
        Due.is("a push from the other side", x.crowd(99, 1, 0), 99);
    }

    private static void crowdByAllDoors() {
        Due.sentence("by all DOORS of a ROOM");
        PushSaidDoor x = Due.house(EIGHT_PULLS + "p0,0;", 2);
        for (int n = 1; n <= 99; n++) {
            Due.is("eight pulls, crowd of " + n, x.crowd(n, 0, -1), n <= 40 ? (n + 7) / 8 : NONE);
        }
        // eight pushes, four of two LEAVES: 12 a second behind 80
        Due.is("80 by 10 each", x.crowd(80, 1, -1), 10);
        Due.is("12 more", x.crowd(92, 1, -1), 11);
        Due.is("one more", x.crowd(93, 1, -1), 12);
        Due.is("all", x.crowd(99, 1, -1), 12);
        PushSaidDoor y = Due.house("r4;d0,1,0,1;d1,2,0,1;d2,3,0,1;p0,0;", 4);
        Due.is("only those of the ROOM", y.crowd(9, 0, -1), 9);
        Due.is("one push, one pull", y.crowd(9, 1, -1), 5);
        Due.is("a pull alone", y.crowd(6, 3, -1), NONE);
    }

    private static void crowdWellParted() {
        Due.sentence("by all DOORS of a ROOM, well parted");
        // 0 in time, 1 late, 2 a pull in time: by second 1, 2, 3, 4 there are 2, 4, 6, 9 out, and so on
        PushSaidDoor x = Due.house("r2;d0,1,0,1;d0,1,0,1;d0,1,1,1;s1,0,1;p0,0;", 2);
        int[] out = {2, 4, 6, 9, 12, 14, 16, 18};
        int n = 1;
        for (int second = 1; second <= out.length; second++) {
            for (; n <= out[second - 1]; n++) {
                Due.is("crowd of " + n, x.crowd(n, 0, -1), second);
            }
        }
        Due.is("all", x.crowd(99, 0, -1), 49);
    }

    private static void crowdNone() {
        Due.sentence("CROWD .. none");
        PushSaidDoor x = Due.house("r2;d0,1,1,1;d0,1,1,2;p0,0;", 2);
        Due.is("five by a pull", x.crowd(5, 0, 1), 5);
        Due.is("six by a pull", x.crowd(6, 0, 1), NONE);
        Due.is("ten by two", x.crowd(10, 0, -1), 5);
        Due.is("eleven by two", x.crowd(11, 0, -1), NONE);
        x.hang(0);
        Due.is("eleven, one of them a push", x.crowd(11, 0, -1), 6);
    }

    private static void crowdOfARoomWithoutDoors() {
        Due.sentence("by all DOORS of a ROOM .. none (it has no DOOR)");
        PushSaidDoor x = Due.house("r4;d0,1,0,1;p0,0;", 4);
        Due.is("of 1", x.crowd(1, 2, -1), NONE);
        Due.is("of 99", x.crowd(99, 3, -1), NONE);
        Due.is("of 0", x.crowd(0, 3, -1), BAD);
    }

    private static void crowdNotBeside() {
        Due.sentence("NO: it is not beside (crowd)");
        PushSaidDoor x = Due.house("r4;d0,1,0,1;d2,1,0,1;p0,0;", 4);
        Due.is("0 from 2", x.crowd(1, 2, 0), NO);
        Due.is("0 from 3", x.crowd(99, 3, 0), NO);
        Due.is("1 from 0", x.crowd(6, 0, 1), NO);
        Due.is("1 from 1, a pull", x.crowd(6, 1, 1), NONE);
        Due.is("1 from 2", x.crowd(6, 2, 1), 6);
    }

    private static void crowdInBounds() {
        Due.sentence("SECONDS by DOOR d from ROOM r, by all of that ROOM (d = -1). BAD");
        PushSaidDoor x = Due.house("r3;d0,1,0,1;d1,2,0,1;p0,0;", 3);
        int[][] bad = {{0, 0, 0}, {-1, 0, 0}, {100, 0, 0}, {1, 3, 0}, {1, -1, 0}, {1, 3, -1}, {1, -1, -1}, {1, 0, 2},
            {1, 0, -2}, {0, 0, -1}, {100, 0, -1}, {1, 0, Integer.MIN_VALUE}, {1, 0, Integer.MAX_VALUE},
            {1, Integer.MAX_VALUE, -1}, {Integer.MAX_VALUE, 0, 0}, {Integer.MIN_VALUE, 0, -1}};
        for (int[] b : bad) {
            Due.is("crowd", x.crowd(b[0], b[1], b[2]), BAD);
        }
        Due.is("the highest ROOM and DOOR", x.crowd(5, 2, 1), 5);
    }

    private static void eightFilmsAtMost() {
        Due.sentence("FILM (8 at most); FULL");
        PushSaidDoor x = Due.house("r2;d0,1,0,1;p0,0;", 2);
        for (int k = 1; k <= 8; k++) {
            Due.is("FILM", x.film(0, 0, 1, 2), k);
        }
        Due.is("all fit", x.fits(0, 0), 21);
        Due.is("the ninth", x.film(0, 0, 0, 1), FULL);
        Due.is("the ninth again", x.film(0, 0, 0, 1), FULL);
        Due.is("count(4)", x.count(4), 8);
        Due.is("all fit still", x.fits(0, 0), 21);
        // the eighth is looked at
        x.forget();
        for (int k = 1; k <= 7; k++) {
            x.film(0, 0, 1, 2);
        }
        Due.is("another eighth", x.film(0, 0, 0, 2), 8);
        Due.is("that does not fit", x.fits(49, 0), 0);
        Due.is("but by 50", x.fits(50, 0), 21);
    }

    private static void filmOfOneToFifty() {
        Due.sentence("x (0 to 50) of n (1 to 50, x or more)");
        for (int n = 1; n <= 50; n++) {
            PushSaidDoor x = Due.house("r2;d0,1,0,1;p0,0;", 2);
            Due.is("none of " + n, x.film(0, 0, 0, n), 1);
            Due.is("all of " + n, x.film(0, 0, n, n), 2);
            Due.is("one more than " + n, x.film(0, 0, n + 1, n), BAD);
            Due.is("one less than none of " + n, x.film(0, 0, -1, n), BAD);
            Due.is("one of " + n, x.film(0, 0, 1, n), 3);
        }
        PushSaidDoor y = Due.house("r2;d0,1,0,1;p0,0;", 2);
        Due.is("0 of 0", y.film(0, 0, 0, 0), BAD);
        Due.is("0 of 51", y.film(0, 0, 0, 51), BAD);
        Due.is("51 of 51", y.film(0, 0, 51, 51), BAD);
        Due.is("51 of 50", y.film(0, 0, 51, 50), BAD);
        Due.is("-1 of -1", y.film(0, 0, -1, -1), BAD);
        Due.is("0 of -1", y.film(0, 0, 0, -1), BAD);
        Due.is("no FILM", y.count(4), 0);
    }

    private static void filmInBounds() {
        Due.sentence("FILM: how many. BAD");
        PushSaidDoor x = Due.house("r2;d0,1,0,1;d0,1,0,1;p0,0;", 2);
        int[][] bad = {{2, 0, 1, 1}, {-1, 0, 1, 1}, {0, 2, 1, 1}, {0, -1, 1, 1}, {0, 0, 2, 1}, {0, 0, 0, 0},
            {0, 0, Integer.MAX_VALUE, Integer.MAX_VALUE}, {0, 0, Integer.MIN_VALUE, 1}, {0, 0, 0, Integer.MIN_VALUE}};
        for (int[] b : bad) {
            Due.is("film", x.film(b[0], b[1], b[2], b[3]), BAD);
            Due.is("no FILM", x.count(4), 0);
        }
        Due.is("the highest numbers", x.film(1, 1, 50, 50), 1);
    }

    private static void forgetAnswersHowManyThereWere() {
        Due.sentence("No FILM: how many there were.");
        PushSaidDoor x = Due.house("r2;d0,1,0,1;p0,0;", 2);
        Due.is("none", x.forget(), 0);
        x.film(0, 0, 0, 1);
        Due.is("one does not fit", x.fits(0, 0), 0);
        Due.is("one", x.forget(), 1);
        Due.is("none again", x.forget(), 0);
        Due.is("any fits", x.fits(0, 0), 21);
        for (int k = 0; k < 9; k++) {
            x.film(0, 0, 0, 1);
        }
        Due.is("eight", x.forget(), 8);
        Due.is("a FILM anew", x.film(0, 0, 1, 2), 1);
    }

    private static void fitsWithoutFilm() {
        Due.sentence("FITS: for how many G (0 to 20) .. each FILM (there is none)");
        PushSaidDoor x = Due.house("r2;d0,1,0,1;p0,0;", 2);
        for (int t = 0; t <= 99; t++) {
            Due.is("how many", x.fits(t, 0), 21);
            Due.is("the lowest", x.fits(t, 1), 0);
        }
    }

    private static void fitsByGripFromNoughtToTwenty() {
        Due.sentence("for how many G (0 to 20); the lowest");
        // pull 1 + G of 2 + G: 50 by 0, 66 by 1, 94 by 15, 16, 17, 95 by 18, 19, 20
        int[][] films = {{1, 2, 1, 0}, {2, 3, 1, 1}, {19, 20, 3, 18}, {47, 50, 3, 15}};
        for (int[] f : films) {
            PushSaidDoor x = Due.house("r2;d0,1,0,1;s0,0,1;p0,0;", 2);
            x.film(0, 0, f[0], f[1]);
            Due.is("how many by " + f[0] + " of " + f[1], x.fits(0, 0), f[2]);
            Due.is("the lowest by " + f[0] + " of " + f[1], x.fits(0, 1), f[3]);
            Due.is("G stays", x.does(0), 6);
        }
    }

    private static void fitsNoMoreThanT() {
        Due.sentence("is no more than t (0 to 99) away");
        // no GRIP: 50 of a hundred, whatever G
        int[][] films = {{1, 2, 0}, {0, 50, 50}, {50, 50, 50}, {1, 3, 17}, {2, 3, 16}, {49, 50, 48}, {1, 50, 48}};
        for (int[] f : films) {
            PushSaidDoor x = Due.house("r2;d0,1,0,1;p0,0;", 2);
            x.film(0, 0, f[0], f[1]);
            for (int t = 0; t <= 99; t++) {
                Due.is(f[0] + " of " + f[1] + " by " + t, x.fits(t, 0), t >= f[2] ? 21 : 0);
                Due.is(f[0] + " of " + f[1] + " by " + t, x.fits(t, 1), t >= f[2] ? 0 : NONE);
            }
        }
        // push 71, pull 1: 1 of a hundred, of a FILM of 100
        PushSaidDoor y = Due.house("r2;d0,1,0,1;s0,0,54;s0,1,4;w0,20,20,20,0,0;p0,0;", 2);
        y.film(0, 0, 1, 1);
        Due.is("99 away, by 98", y.fits(98, 0), 0);
        Due.is("99 away, by 99", y.fits(99, 0), 21);
    }

    private static void fitsEachFilm() {
        Due.sentence("each FILM is no more than t away");
        PushSaidDoor x = Due.house("r2;d0,1,0,1;d0,1,0,1;s1,1,2;w0,1,0,0,0,0;p0,0;", 2);
        // 50 on SIDE 0 of 0, 33 on SIDE 1 of 1
        x.film(0, 0, 2, 5);
        Due.is("40 and 50", x.fits(9, 0) + x.fits(10, 0), 21);
        x.film(0, 0, 31, 50);
        Due.is("62 and 50, too", x.fits(11, 0) + x.fits(12, 0), 21);
        x.film(1, 1, 1, 5);
        Due.is("20 and 33, too", x.fits(12, 0) + x.fits(13, 0), 21);
        x.film(1, 1, 1, 2);
        Due.is("50 and 33, too", x.fits(16, 0) + x.fits(17, 0), 21);
        x.film(0, 0, 1, 2);
        Due.is("one that fits undoes none", x.fits(16, 0) + x.fits(17, 0), 21);
    }

    private static void fitsCut() {
        Due.sentence("(of a hundred, cut) .. the chance (of a hundred, cut)");
        // pull 2 of 3: 66, a FILM of 2 by 3: 66, of 33 by 49: 67
        PushSaidDoor x = Due.house("r2;d0,1,0,1;s0,0,8;w0,0,1,0,0,0;p0,0;", 2);
        x.film(0, 0, 2, 3);
        Due.is("66 and 66", x.fits(0, 0), 21);
        x.film(0, 0, 33, 49);
        Due.is("67 and 66", x.fits(0, 0), 0);
        Due.is("67 and 66", x.fits(1, 0), 21);
        x.film(0, 0, 31, 46);
        Due.is("67.4 is 67", x.fits(1, 0), 21);
    }

    private static void fitsAllElseAsItIs() {
        Due.sentence("for how many G, all else as it is");
        PushSaidDoor x = Due.house("r2;d0,1,0,1;s0,0,17;w20,0,0,8,0,0;p0,0;", 2);
        x.film(0, 0, 1, 2);
        // push 9 by HINGES, pull 1 + G: 50 by 8
        Due.is("to a push", x.fits(0, 1), 8);
        x.put(0, 0, 1);
        Due.is("without HINGES", x.fits(0, 1), 0);
        x.put(0, 0, 17);
        x.hang(0);
        Due.is("to a pull", x.fits(0, 0), 0);
        Due.is("to a pull", x.fits(0, 1), NONE);
        for (int k = 0; k < 9; k++) {
            x.go(0, 0);
        }
        x.hang(0);
        Due.is("of STRANGERS", x.fits(0, 1), 8);
        x.go(0, 0);
        Due.is("of STRANGERS", x.fits(0, 0), 1);
    }

    private static void fitsThroughGlassOfEitherSide() {
        Due.sentence("all else as it is (FITS and DAY through GLASS, of both SIDES)");
        for (int d = 0; d < 8; d++) {
            for (int e = 0; e < 2; e++) {
                PushSaidDoor x = Due.house(EIGHT_PULLS + "w0,0,8,0,0,0;p0,0;", 2);
                x.put(d, e, 33);
                x.put(d, 1 - e, 4);
                x.film(d, e, 1, 2);
                // push 1 and 8 by 2, pull 1 and G
                Due.is("how many", x.fits(0, 0), 1);
                Due.is("the lowest", x.fits(0, 1), 4);
                // push 5 of 6: DRAW 0 and 2592, a pull, then 0 by 6, a pull, too; z 3: 3471 by 6 is 3
                int wanted = x.door(d, 6 + e);
                Due.is("pulls of two", x.day(0, 2, d, e, 1), 2);
                Due.is("WRONG of two", x.day(0, 2, d, e, 0), wanted == 0 ? 2 : 0);
            }
        }
    }

    private static void fitsOnlyByAGrip() {
        Due.sentence("what GRIP does (a SIDE without GRIP is alike by any G)");
        PushSaidDoor x = Due.house("r2;d0,1,0,1;s0,0,32;s0,1,1;p0,0;", 2);
        x.film(0, 0, 1, 2);
        Due.is("not through GLASS", x.fits(0, 0), 21);
        x.film(0, 1, 1, 2);
        Due.is("with a GRIP", x.fits(0, 0), 1);
        Due.is("with a GRIP", x.fits(0, 1), 0);
    }

    private static void fitsNone() {
        Due.sentence("FITS: how many (what = 0), the lowest (1; NONE).");
        PushSaidDoor x = Due.house("r2;d0,1,0,1;s0,0,1;p0,0;", 2);
        x.film(0, 0, 49, 50);
        // 95 by 18, 19, 20
        Due.is("how many", x.fits(2, 0), 0);
        Due.is("the lowest", x.fits(2, 1), NONE);
        Due.is("how many", x.fits(3, 0), 3);
        Due.is("the lowest", x.fits(3, 1), 18);
    }

    private static void fitsInBounds() {
        Due.sentence("FITS .. BAD.");
        PushSaidDoor x = Due.house("r2;d0,1,0,1;p0,0;", 2);
        int[][] bad = {{-1, 0}, {100, 0}, {0, -1}, {0, 2}, {100, 2}, {Integer.MAX_VALUE, 0}, {Integer.MIN_VALUE, 1},
            {0, Integer.MAX_VALUE}, {0, Integer.MIN_VALUE}};
        for (int[] b : bad) {
            Due.is("fits", x.fits(b[0], b[1]), BAD);
        }
    }

    /** z, n, then of each SIDE of both first DOORS how many are WRONG and how many pulls; reckoned outside of Java. */
    private static final int[][] DAYS = {
        {0, 1, 1, 1, 0, 1, 0, 1, 1, 1},
        {0, 2, 2, 2, 0, 2, 0, 2, 2, 2},
        {0, 99, 91, 91, 53, 99, 85, 99, 46, 46},
        {1, 1, 1, 1, 1, 1, 1, 1, 0, 0},
        {1, 99, 92, 92, 59, 99, 92, 99, 40, 40},
        {271, 50, 45, 45, 25, 50, 47, 50, 25, 25},
        {5000, 98, 88, 88, 46, 98, 91, 98, 52, 52},
        {9998, 99, 90, 90, 50, 99, 88, 99, 49, 49},
        {9999, 1, 1, 1, 0, 1, 1, 1, 1, 1},
        {9999, 2, 2, 2, 0, 2, 2, 2, 2, 2},
        {9999, 98, 93, 93, 41, 98, 86, 98, 57, 57},
        {9999, 99, 94, 94, 42, 99, 87, 99, 57, 57},
    };

    private static void daysByDraws() {
        Due.sentence("A DAY by z (0 to 9999) of n (1 to 99) STRANGERS; DRAW being ((q times q) modulo 65521) by 16, cut");
        PushSaidDoor x = new PushSaidDoor();
        for (int[] day : DAYS) {
            for (int k = 0; k < 8; k++) {
                int got = x.day(day[0], day[1], k / 4, k / 2 % 2, k % 2);
                Due.is("day " + day[0] + " of " + day[1] + ", " + k, got, day[2 + k]);
            }
        }
    }

    private static void dayOfTheFirstStranger() {
        Due.sentence("the k-th (0 first) tries a pull first, if DRAW modulo .. is less than what pull WEIGHS");
        // z 0, k 0: q is 1, DRAW 0, so a pull; k 1: q 6152, q times q modulo 65521 is 41487, DRAW 2592
        PushSaidDoor x = Due.house("r2;d0,1,0,1;s0,0,2;w0,20,0,0,0,0;p0,0;", 2);
        Due.is("a pull by DRAW 0", x.day(0, 1, 0, 0, 0), 1);
        Due.is("a push by DRAW 2592, 18 by 22", x.day(0, 2, 0, 0, 0), 1);
        PushSaidDoor y = Due.house("r2;d0,1,0,1;s0,0,3;w17,3,0,0,0,0;p0,0;", 2);
        Due.is("18 is not less than 18", y.day(0, 2, 0, 0, 0), 1);
        PushSaidDoor z = Due.house("r2;d0,1,0,1;s0,0,3;w18,2,0,0,0,0;p0,0;", 2);
        Due.is("18 is less than 19", z.day(0, 2, 0, 0, 0), 2);
    }

    private static void dayLetsTwoLeavesBe() {
        Due.sentence("how many are WRONG so (two LEAVES let be)");
        PushSaidDoor x = Due.house("r2;d0,1,0,1;d0,1,0,2;p0,0;", 2);
        for (int z = 0; z <= 9999; z += 1111) {
            for (int e = 0; e < 2; e++) {
                Due.is("WRONG by " + z, x.day(z, 99, 1, e, 0), x.day(z, 99, 0, e, 0));
                Due.is("pulls by " + z, x.day(z, 99, 1, e, 1), x.day(z, 99, 0, e, 1));
            }
        }
    }

    private static void dayOfEither() {
        Due.sentence("and the other then, if it is not WANTED (either: none is WRONG)");
        PushSaidDoor x = Due.house("r2;d0,1,2,2;d0,1,0,1;d0,1,1,1;p0,0;", 2);
        for (int z = 0; z <= 9999; z += 1111) {
            Due.is("none is WRONG", x.day(z, 99, 0, 0, 0), 0);
            // as many as those who pull first where a push is WANTED
            Due.is("pulls", x.day(z, 99, 0, 0, 1), x.day(z, 99, 1, 0, 1));
            Due.is("pulls where a push is WANTED are WRONG", x.day(z, 99, 1, 0, 0), x.day(z, 99, 1, 0, 1));
            Due.is("all pull where a pull is WANTED", x.day(z, 99, 2, 0, 1), 99);
            Due.is("those who push first are WRONG", x.day(z, 99, 2, 0, 0), 99 - x.day(z, 99, 0, 0, 1));
        }
    }

    private static void dayByWhatStrangersWeigh() {
        Due.sentence("of n STRANGERS .. what push and pull WEIGH together");
        PushSaidDoor x = Due.house("r2;d0,1,0,1;s0,0,63;s0,1,12;w20,20,20,20,20,20;p0,0;", 2);
        int wrong = x.day(77, 99, 0, 0, 0);
        for (int k = 0; k < 20; k++) {
            x.go(0, 0);
        }
        Due.is("whoever went there", x.day(77, 99, 0, 0, 0), wrong);
        PushSaidDoor y = Due.house("r2;d0,1,0,1;s0,0,63;s0,1,12;w0,0,0,0,0,0;p0,0;", 2);
        PushSaidDoor z = Due.house("r2;d0,1,0,1;p0,0;", 2);
        Due.is("1 and 1", y.day(77, 99, 0, 0, 0), z.day(77, 99, 0, 0, 0));
    }

    private static void dayInBounds() {
        Due.sentence("A DAY: how many are WRONG (what = 0), pulls (1). BAD.");
        PushSaidDoor x = Due.house("r2;d0,1,1,1;d0,1,0,1;p0,0;", 2);
        int[][] bad = {{-1, 1, 0, 0, 0}, {10000, 1, 0, 0, 0}, {0, 0, 0, 0, 0}, {0, 100, 0, 0, 0}, {0, -1, 0, 0, 0},
            {0, 1, 2, 0, 0}, {0, 1, -1, 0, 0}, {0, 1, 0, 2, 0}, {0, 1, 0, -1, 0}, {0, 1, 0, 0, 2}, {0, 1, 0, 0, -1},
            {Integer.MAX_VALUE, 1, 0, 0, 0}, {Integer.MIN_VALUE, 1, 0, 0, 0}, {0, Integer.MAX_VALUE, 0, 0, 0}};
        for (int[] b : bad) {
            Due.is("day", x.day(b[0], b[1], b[2], b[3], b[4]), BAD);
        }
        Due.is("the highest numbers", x.day(9999, 99, 1, 1, 1), 99);
        Due.is("the lowest numbers", x.day(0, 1, 0, 0, 1), 1);
    }

    private static void twoHousesKept() {
        Due.sentence("KEPT: 2 at most. How many. FULL.");
        PushSaidDoor x = Due.house("r2;d0,1,0,1;p0,0;", 2);
        x.put(0, 0, 1);
        Due.is("the first", x.keep(), 1);
        x.put(0, 0, 2);
        Due.is("the second", x.keep(), 2);
        x.put(0, 0, 3);
        Due.is("the third", x.keep(), FULL);
        Due.is("the third again", x.keep(), FULL);
        Due.is("count(6)", x.count(6), 2);
        Due.is("SIGNS stay", x.door(0, 4), 3);
        Due.is("back to the second", x.back(), 1);
        Due.is("SIGNS of the second", x.door(0, 4), 2);
        Due.is("back to the first", x.back(), 0);
        Due.is("SIGNS of the first", x.door(0, 4), 1);
    }

    private static void keptIsTheHouseAsItIs() {
        Due.sentence("KEPT is the house as it is");
        PushSaidDoor x = Due.house("r3;d0,1,0,1;d1,2,2,2;s0,0,9;p0,0;p2,1;", 3);
        x.go(0, 0);
        x.go(1, 1);
        x.keep();
        x.go(0, 1);
        x.go(1, 1);
        x.put(0, 0, 1);
        x.put(1, 1, 2);
        x.hang(0);
        Due.is("back", x.back(), 0);
        int[][] doors = {{0, 1, 0, 1, 9, 0, 0, 1}, {1, 2, 2, 2, 0, 0, 2, 2}};
        int[][] persons = {{1, 0, 0}, {1, 1, 2}};
        int[][] times = {{1, 0, 0, 0}, {0, 0, 0, 1}};
        for (int k = 0; k < 8; k++) {
            Due.is("door(0, " + k + ")", x.door(0, k), doors[0][k]);
            Due.is("door(1, " + k + ")", x.door(1, k), doors[1][k]);
            Due.is("person", x.person(k % 2, k / 2 % 3), persons[k % 2][k / 2 % 3]);
            Due.is("times", x.times(k / 4, k / 2 % 2, k % 2), times[k / 4][k % 4]);
        }
        Due.is("ROOMS, DOORS, PERSONS", x.count(0) * 100 + x.count(1) * 10 + x.count(2), 322);
    }

    private static void keptButRowAndFilms() {
        Due.sentence("but the told row and FILMS");
        PushSaidDoor x = Due.house("r2;d0,1,0,1;d0,1,0,1;p0,0;", 2);
        x.tell(0);
        x.film(0, 0, 1, 2);
        x.keep();
        x.tell(1);
        x.film(0, 0, 0, 2);
        x.write('!');
        Due.is("back", x.back(), 0);
        Due.is("the row", x.count(3), 2);
        Due.is("FILMS", x.count(4), 2);
        Due.is("THE TEXT", x.count(7), 27);
        x.keep();
        x.noRow();
        x.forget();
        x.wipe();
        Due.is("back", x.back(), 0);
        Due.is("the row", x.count(3), 0);
        Due.is("FILMS", x.count(4), 0);
        Due.is("THE TEXT", x.count(7), 0);
    }

    private static void keepLeavesWhatCanBeUndone() {
        Due.sentence("KEPT: how many (what can be UNDONE stays)");
        PushSaidDoor x = Due.house("r2;d0,1,0,1;p0,0;", 2);
        x.put(0, 0, 5);
        x.hang(0);
        x.keep();
        Due.is("can be UNDONE", x.count(5), 2);
        Due.is("the hang", x.undo(), 1);
        Due.is("the put", x.undo(), 0);
        Due.is("SIGNS", x.door(0, 4), 0);
        Due.is("back", x.back(), 0);
        Due.is("SIGNS as KEPT", x.door(0, 4), 5);
        Due.is("W as KEPT", x.door(0, 2), 1);
    }

    private static void backIsAsKeptLast() {
        Due.sentence("As KEPT last: how many are left");
        PushSaidDoor x = Due.house("r2;d0,1,0,1;p0,0;", 2);
        for (int k = 1; k <= 10; k++) {
            x.put(0, 0, k);
            Due.is("keep", x.keep(), 1);
            x.put(0, 0, k + 20);
            Due.is("keep", x.keep(), 2);
            x.put(0, 0, k + 40);
            Due.is("back", x.back(), 1);
            Due.is("the second", x.door(0, 4), k + 20);
            x.put(0, 0, k + 50);
            Due.is("keep another second", x.keep(), 2);
            x.put(0, 0, 0);
            Due.is("back", x.back(), 1);
            Due.is("the other second", x.door(0, 4), k + 50);
            Due.is("back", x.back(), 0);
            Due.is("the first", x.door(0, 4), k);
        }
    }

    private static void backUndoesNothing() {
        Due.sentence("nothing is UNDONE then");
        PushSaidDoor x = Due.house("r2;d0,1,0,1;p0,0;", 2);
        x.put(0, 0, 1);
        x.keep();
        x.put(0, 0, 2);
        x.back();
        Due.is("can be UNDONE", x.count(5), 0);
        Due.is("undo", x.undo(), NO);
        Due.is("SIGNS as KEPT", x.door(0, 4), 1);
        x.put(0, 0, 3);
        Due.is("but what is done then", x.undo(), 0);
        Due.is("SIGNS as KEPT", x.door(0, 4), 1);
        Due.is("no more", x.undo(), NO);
    }

    private static void backOfNothingIsNo() {
        Due.sentence("As KEPT last .. NO.");
        PushSaidDoor x = Due.house("r2;d0,1,0,1;p0,0;", 2);
        x.put(0, 0, 1);
        Due.is("nothing KEPT", x.back(), NO);
        Due.is("SIGNS stay", x.door(0, 4), 1);
        Due.is("the put can be UNDONE", x.count(5), 1);
        x.keep();
        Due.is("one KEPT", x.back(), 0);
        Due.is("nothing KEPT any more", x.back(), NO);
        Due.is("count(6)", x.count(6), 0);
    }

    private static void countInBounds() {
        Due.sentence("How many: 0 ROOMS .. 7 letters of THE TEXT. BAD.");
        PushSaidDoor x = Due.house("r8;d0,1,0,1;d0,1,0,1;p0,0;p0,0;p0,0;", 8);
        for (int k = 0; k < 13; k++) {
            x.tell(0);
            x.film(0, 0, 1, 1);
            x.hang(0);
        }
        x.keep();
        int[] due = {8, 2, 3, 12, 8, 8, 1, 36};
        for (int k = 0; k < 8; k++) {
            Due.is("count(" + k + ")", x.count(k), due[k]);
        }
        int[] none = {-1, 8, 9, Integer.MIN_VALUE, Integer.MAX_VALUE};
        for (int far : none) {
            Due.is("count(" + far + ")", x.count(far), BAD);
        }
    }
}
