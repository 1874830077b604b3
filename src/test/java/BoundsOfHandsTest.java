/** Section 2 and promises 10 to 15: each sentence that names a bound has a test of its own. */
public final class BoundsOfHandsTest {
    private static final int BAD = Due.BAD, NO = Due.NO, NONE = Due.NONE;

    public static void main(String[] args) {
        aDoorWantsByTheSideOfItsRoom();
        withATrayOneCanNotPull();
        pushAndPullWeighOneEach();
        eachSignFromNothingToTwenty();
        hingesByWhatIsWanted();
        glassByTwoCut();
        glassShowsWordsAlone();
        noLastDoorAtFirst();
        theLastDoorAsItWanted();
        timesFromNoneToNinetyNine();
        timesFromThisSideAlone();
        anotherDoorOfJustTheSameSigns();
        anotherDoorWithoutSigns();
        bothSidesOfAnotherDoor();
        theOtherSideIsNoOtherDoor();
        toEitherNothingIsDone();
        withATrayNoChanceOfAPull();
        weighsAsIfWithoutTray();
        wrongOfEitherIsNothing();
        twoLeavesByTimesOfBothSides();
        twoLeavesAtTheMost();
        oneLeafHasNoBolt();
        wrongInLowestTerms();
        wrongIsNoneForATray();
        weighsInBounds();
        wrongInBounds();
        goesToTheOtherRoom();
        goOnlyBesideHim();
        goInBounds();
        ninetyNineTimesAtMost();
        theLatestIsHisLastOne();
        putAnswersWhatTheyWere();
        putInBounds();
        hangTurnsThereAndBack();
        hangOfEitherIsNo();
        hangInBounds();
        undoOfNothingIsNo();
        undoIsTheLatest();
        theLastEightCanBeUndone();
        undoneAgainAndAgain();
        whatChangedNothingIsUndoneToo();
        undoneAtNinetyNine();
        whatWasRefusedIsNotUndone();
        ofTheHighestDoorAndPerson();
        undoneOfTheHighestDoorAndPerson();
        Due.end();
    }

    private static void weighs(PushSaidDoor x, int i, int d, int e, int push, int pull) {
        Due.is("push of " + i + " at " + d + ", " + e, x.weighs(i, d, e, 0), push);
        Due.is("pull of " + i + " at " + d + ", " + e, x.weighs(i, d, e, 1), pull);
    }

    private static void wrongIs(PushSaidDoor x, int i, int d, int e, int above, int below) {
        Due.is("above of " + i + " at " + d + ", " + e, x.wrong(i, d, e, 0), above);
        Due.is("below of " + i + " at " + d + ", " + e, x.wrong(i, d, e, 1), below);
    }

    private static void aDoorWantsByTheSideOfItsRoom() {
        Due.sentence("a DOOR WANTS a push (0), if it opens away from there, a pull (1), if toward there, or either (2)");
        PushSaidDoor x = Due.house("r3;d2,0,0,1;d2,0,1,1;d2,0,2,1;p0,0;p2,0;", 3);
        int[][] wants = {{0, 1}, {1, 0}, {2, 2}};
        for (int d = 0; d < 3; d++) {
            Due.is("on SIDE 0 of " + d, x.door(d, 6), wants[d][0]);
            Due.is("on SIDE 1 of " + d, x.door(d, 7), wants[d][1]);
            Due.is("from 0 by " + d, x.go(0, d), 2);
            Due.is("it WANTED of him there", x.person(0, 2), wants[d][1]);
            Due.is("undo", x.undo(), 0);
            Due.is("from 2 by " + d, x.go(1, d), 0);
            Due.is("it WANTED of him there", x.person(1, 2), wants[d][0]);
            Due.is("undo", x.undo(), 0);
        }
    }

    private static void withATrayOneCanNotPull() {
        Due.sentence("With a TRAY one can not pull.");
        PushSaidDoor x = Due.house("r2;d0,1,0,1;d0,1,1,1;d0,1,2,1;p0,1;p1,1;p0,0;", 2);
        Due.is("a pull from 0", x.go(0, 1), NO);
        Due.is("a pull from 1", x.go(1, 0), NO);
        Due.is("a pull without TRAY", x.go(2, 1), 1);
        Due.is("a push from 0", x.go(0, 0), 1);
        Due.is("a push from 1", x.go(1, 1), 0);
        Due.is("either from 1", x.go(0, 2), 0);
        Due.is("either from 0", x.go(1, 2), 1);
        Due.is("no one else went", x.count(5), 5);
        x.hang(1);
        Due.is("hung: a push from 0", x.go(0, 1), 1);
        Due.is("hung: a pull from 1", x.go(1, 1), NO);
    }

    private static void pushAndPullWeighOneEach() {
        Due.sentence("A hand WEIGHS push and pull, each 1");
        PushSaidDoor x = Due.house("r2;d0,1,0,2;d0,1,1,1;w20,20,20,20,20,20;p0,0;p1,1;", 2);
        PushSaidDoor y = Due.house("r2;d0,1,0,2;d0,1,1,1;s0,0,63;s0,1,63;s1,0,63;s1,1,63;w0,0,0,0,0,0;p0,0;p1,1;", 2);
        y.go(0, 0);
        y.go(0, 1);
        for (int k = 0; k < 8; k++) {
            weighs(x, k / 4, k / 2 % 2, k % 2, 1, 1);
            weighs(y, k / 4, k / 2 % 2, k % 2, 1, 1);
        }
    }

    private static void eachSignFromNothingToTwenty() {
        Due.sentence("GRIP does G to pull; PLATE P to push; a word W to what it says");
        for (int much = 0; much <= 20; much++) {
            PushSaidDoor x = Due.house("r2;d0,1,0,1;w" + much + ",0,0,0,0,0;s0,0,63;p0,0;", 2);
            weighs(x, 0, 0, 0, 1, 1 + much);
            PushSaidDoor y = Due.house("r2;d0,1,0,1;w0," + much + ",0,0,0,0;s0,0,63;p0,0;", 2);
            weighs(y, 0, 0, 0, 1 + much, 1);
            PushSaidDoor z = Due.house("r2;d0,1,0,1;w0,0," + much + ",0,0,0;s0,0,63;p0,0;", 2);
            weighs(z, 0, 0, 0, 1 + much, 1 + much);
            z.put(0, 0, 4);
            weighs(z, 0, 0, 0, 1 + much, 1);
            z.put(0, 0, 8);
            weighs(z, 0, 0, 0, 1, 1 + much);
        }
    }

    private static void hingesByWhatIsWanted() {
        Due.sentence("HINGES H to what is WANTED");
        for (int much = 0; much <= 20; much += 5) {
            PushSaidDoor x = Due.house("r2;d0,1,0,1;d0,1,2,1;w0,0,0," + much
                    + ",0,0;s0,0,16;s0,1,16;s1,0,16;p0,0;", 2);
            weighs(x, 0, 0, 0, 1 + much, 1);
            weighs(x, 0, 0, 1, 1, 1 + much);
            weighs(x, 0, 1, 0, 1, 1);
            x.hang(0);
            weighs(x, 0, 0, 0, 1, 1 + much);
            weighs(x, 0, 0, 1, 1 + much, 1);
        }
    }

    private static void glassByTwoCut() {
        Due.sentence("GLASS to what each word on the other SIDE says W by 2, cut");
        int[] half = {0, 0, 1, 1, 2, 2, 3, 3, 4, 4, 5, 5, 6, 6, 7, 7, 8, 8, 9, 9, 10};
        for (int much = 0; much <= 20; much++) {
            PushSaidDoor x = Due.house("r2;d0,1,0,1;w20,20," + much + ",20,0,0;s0,0,32;s0,1,4;p0,0;", 2);
            weighs(x, 0, 0, 0, 1 + half[much], 1);
            x.put(0, 1, 8);
            weighs(x, 0, 0, 0, 1, 1 + half[much]);
            x.put(0, 1, 12);
            weighs(x, 0, 0, 0, 1 + half[much], 1 + half[much]);
        }
    }

    private static void glassShowsWordsAlone() {
        Due.sentence("GLASS to what each word on the other SIDE says");
        PushSaidDoor x = Due.house("r2;d0,1,0,1;w20,20,20,20,0,0;s0,0,32;s0,1,51;p0,0;", 2);
        weighs(x, 0, 0, 0, 1, 1);
        x.put(0, 1, 0);
        weighs(x, 0, 0, 0, 1, 1);
        // without GLASS on this SIDE, with GLASS on the other one
        x.put(0, 0, 0);
        x.put(0, 1, 44);
        weighs(x, 0, 0, 0, 1, 1);
        // its own words are not seen through it
        x.put(0, 0, 36);
        x.put(0, 1, 32);
        weighs(x, 0, 0, 0, 21, 1);
        weighs(x, 0, 0, 1, 11, 1);
    }

    private static void noLastDoorAtFirst() {
        Due.sentence("the last DOOR by which the PERSON went C to what that WANTED of him (none yet)");
        PushSaidDoor x = Due.house("r2;d0,1,0,1;w0,0,0,0,20,0;p0,0;p0,0;", 2);
        weighs(x, 0, 0, 0, 1, 1);
        x.go(0, 0);
        weighs(x, 0, 0, 0, 21, 1);
        weighs(x, 1, 0, 0, 1, 1);
        x.undo();
        weighs(x, 0, 0, 0, 1, 1);
    }

    private static void theLastDoorAsItWanted() {
        Due.sentence("to what that WANTED of him");
        PushSaidDoor x = Due.house("r2;d0,1,0,1;d0,1,2,1;w0,0,0,0,20,0;p0,0;", 2);
        x.go(0, 0);
        weighs(x, 0, 1, 1, 21, 1);
        x.hang(0);
        weighs(x, 0, 1, 1, 21, 1);
        Due.is("it WANTED a push", x.person(0, 2), 0);
        Due.is("back by a push", x.go(0, 0), 0);
        weighs(x, 0, 0, 0, 21, 1);
        Due.is("by a pull", x.go(0, 0), 1);
        weighs(x, 0, 0, 0, 1, 21);
        x.go(0, 1);
        weighs(x, 0, 0, 0, 1, 1);
    }

    private static void timesFromNoneToNinetyNine() {
        Due.sentence("each time that he went by this DOOR from this SIDE L to what is WANTED");
        PushSaidDoor x = Due.house("r2;d0,1,0,1;w0,0,0,0,0,20;p0,0;p0,0;", 2);
        int[] times = {0, 1, 2, 98, 99, 99};
        int gone = 0;
        for (int k = 0; k < times.length; k++) {
            while (gone < times[k] || k == 5 && gone < 101) {
                x.go(0, 0);
                x.go(0, 0);
                gone++;
            }
            weighs(x, 0, 0, 0, 1 + 20 * times[k], 1);
            weighs(x, 0, 0, 1, 1, 1 + 20 * times[k]);
            weighs(x, 1, 0, 0, 1, 1);
        }
    }

    private static void timesFromThisSideAlone() {
        Due.sentence("from this SIDE");
        PushSaidDoor x = Due.house("r2;d0,1,0,1;s0,0,1;w0,0,0,0,0,9;p0,0;", 2);
        x.go(0, 0);
        weighs(x, 0, 0, 0, 10, 1);
        weighs(x, 0, 0, 1, 1, 1);
        x.go(0, 0);
        weighs(x, 0, 0, 0, 10, 1);
        weighs(x, 0, 0, 1, 1, 10);
    }

    private static void anotherDoorOfJustTheSameSigns() {
        Due.sentence("another DOOR from a SIDE of just the same SIGNS L to what that one WANTS there");
        for (int signs = 0; signs <= 63; signs++) {
            PushSaidDoor x = Due.house("r2;d0,1,0,1;d0,1,1,1;w0,0,0,0,0,7;p0,0;", 2);
            x.put(0, 1, 63 - signs);
            x.put(0, 0, signs);
            x.put(1, 1, 63 - signs);
            x.put(1, 0, signs);
            x.go(0, 1);
            weighs(x, 0, 0, 0, 1, 8);
            weighs(x, 0, 0, 1, 1, 1);
            for (int bit = 1; bit < 64; bit *= 2) {
                x.put(1, 0, signs ^ bit);
                weighs(x, 0, 0, 0, 1, 1);
            }
            x.put(1, 0, signs);
            x.hang(1);
            weighs(x, 0, 0, 0, 8, 1);
        }
    }

    private static void anotherDoorWithoutSigns() {
        Due.sentence("just the same SIGNS (none on both)");
        PushSaidDoor x = Due.house("r2;d0,1,0,1;d0,1,0,1;w0,0,0,0,0,7;p0,0;", 2);
        x.go(0, 1);
        weighs(x, 0, 0, 0, 8, 1);
        weighs(x, 0, 0, 1, 8, 1);
        weighs(x, 0, 1, 1, 1, 1);
    }

    private static void bothSidesOfAnotherDoor() {
        Due.sentence("each time that he went by another DOOR from a SIDE (both of them)");
        PushSaidDoor x = Due.house("r2;d0,1,0,1;d0,1,0,1;d0,1,1,1;w0,0,0,0,0,7;p0,0;", 2);
        x.go(0, 1);
        x.go(0, 1);
        weighs(x, 0, 0, 0, 8, 8);
        x.go(0, 2);
        x.go(0, 1);
        weighs(x, 0, 0, 0, 8, 22);
        weighs(x, 0, 1, 0, 8, 8);
        weighs(x, 0, 1, 1, 1, 22);
    }

    private static void theOtherSideIsNoOtherDoor() {
        Due.sentence("another DOOR (the other SIDE of this one is none)");
        PushSaidDoor x = Due.house("r2;d0,1,0,1;s0,0,5;s0,1,5;w0,0,0,0,0,7;p0,0;", 2);
        x.go(0, 0);
        weighs(x, 0, 0, 1, 1, 1);
        x.go(0, 0);
        weighs(x, 0, 0, 0, 8, 1);
        weighs(x, 0, 0, 1, 1, 8);
    }

    private static void toEitherNothingIsDone() {
        Due.sentence("(To either nothing is done.)");
        PushSaidDoor x = Due.house("r2;d0,1,2,1;d0,1,0,1;s0,0,16;s0,1,16;s1,0,16;w0,0,0,20,20,20;p0,0;", 2);
        weighs(x, 0, 0, 0, 1, 1);
        x.go(0, 0);
        weighs(x, 0, 0, 0, 1, 1);
        weighs(x, 0, 0, 1, 1, 1);
        weighs(x, 0, 1, 0, 21, 1);
        weighs(x, 0, 1, 1, 1, 1);
        // what another DOOR WANTS is done at one of either way too
        x.go(0, 0);
        x.go(0, 1);
        x.go(0, 0);
        weighs(x, 0, 0, 0, 21, 1);
    }

    private static void withATrayNoChanceOfAPull() {
        Due.sentence("is the chance that he tries a pull first, with a TRAY 0");
        PushSaidDoor x = Due.house("r2;d0,1,0,1;d0,1,0,2;d0,1,2,1;s0,0,1;s1,0,1;s2,0,1;w20,0,0,0,0,0;p0,1;p0,0;", 2);
        wrongIs(x, 0, 0, 0, 0, 1);
        wrongIs(x, 1, 0, 0, 21, 22);
        wrongIs(x, 0, 1, 0, 1, 2);
        wrongIs(x, 1, 1, 0, 16, 11);
        wrongIs(x, 0, 2, 0, 0, 1);
        wrongIs(x, 1, 2, 0, 0, 1);
    }

    private static void weighsAsIfWithoutTray() {
        Due.sentence("What push, pull WEIGH (wherever he is, as if without TRAY)");
        PushSaidDoor x = Due.house("r4;d0,1,0,1;d2,3,1,1;s0,0,9;s0,1,2;s1,0,1;w5,6,7,0,0,0;p3,1;p0,0;", 4);
        for (int i = 0; i < 2; i++) {
            weighs(x, i, 0, 0, 1, 13);
            weighs(x, i, 0, 1, 7, 1);
            weighs(x, i, 1, 0, 1, 6);
            weighs(x, i, 1, 1, 1, 1);
        }
    }

    private static void wrongOfEitherIsNothing() {
        Due.sentence("WRONG: the chance that he tries first what is not WANTED (either: nothing is)");
        PushSaidDoor x = Due.house("r2;d0,1,2,1;d0,1,2,2;s0,0,63;s0,1,1;s1,0,1;s1,1,2;p0,0;", 2);
        wrongIs(x, 0, 0, 0, 0, 1);
        wrongIs(x, 0, 0, 1, 0, 1);
        wrongIs(x, 0, 1, 0, 1, 2);
        wrongIs(x, 0, 1, 1, 1, 2);
    }

    private static void twoLeavesByTimesOfBothSides() {
        Due.sentence("of a DOOR of two LEAVES, 1 by 2 and the times that he went by it (from both SIDES) besides");
        PushSaidDoor x = Due.house("r2;d0,1,2,2;d0,1,2,2;p0,0;p0,0;", 2);
        for (int k = 0; k <= 12; k++) {
            wrongIs(x, 0, 0, 0, 1, 2 + k);
            wrongIs(x, 0, 0, 1, 1, 2 + k);
            wrongIs(x, 0, 1, 0, 1, 2);
            wrongIs(x, 1, 0, 0, 1, 2);
            x.go(0, 0);
        }
    }

    private static void twoLeavesAtTheMost() {
        Due.sentence("1 by 2 and the times (99 at most from each SIDE)");
        PushSaidDoor x = Due.house("r2;d0,1,2,2;p0,0;", 2);
        for (int k = 0; k < 196; k++) {
            x.go(0, 0);
        }
        wrongIs(x, 0, 0, 0, 1, 198);
        x.go(0, 0);
        wrongIs(x, 0, 0, 0, 1, 199);
        x.go(0, 0);
        wrongIs(x, 0, 0, 0, 1, 200);
        x.go(0, 0);
        wrongIs(x, 0, 0, 0, 1, 200);
        x.go(0, 0);
        wrongIs(x, 0, 0, 1, 1, 200);
        Due.is("at the other one", x.times(0, 0, 1), 99);
    }

    private static void oneLeafHasNoBolt() {
        Due.sentence("of a DOOR of two LEAVES");
        PushSaidDoor x = Due.house("r2;d0,1,0,1;d0,1,0,2;s0,0,2;s1,0,2;w0,9,0,0,0,0;p0,0;", 2);
        wrongIs(x, 0, 0, 0, 1, 11);
        wrongIs(x, 0, 1, 0, 13, 22);
        x.go(0, 0);
        wrongIs(x, 0, 0, 0, 1, 11);
        wrongIs(x, 0, 1, 0, 13, 22);
    }

    private static void wrongInLowestTerms() {
        Due.sentence("WRONG .., in lowest terms: above (part = 0), below (1)");
        PushSaidDoor x = Due.house("r2;d0,1,0,2;d0,1,0,1;w20,20,20,20,20,20;p0,0;p0,1;", 2);
        // 1 by 2 and 1 by 2: one whole
        wrongIs(x, 0, 0, 0, 1, 1);
        wrongIs(x, 0, 1, 0, 1, 2);
        wrongIs(x, 1, 1, 0, 0, 1);
        // more than one whole: 21 by 22 and 1 by 2
        x.put(0, 0, 1);
        wrongIs(x, 0, 0, 0, 16, 11);
        x.put(0, 0, 9);
        wrongIs(x, 0, 0, 0, 31, 21);
        // 198 times by each: 21 by 42 goes into 1 by 2
        x.put(0, 0, 3);
        x.put(1, 0, 1);
        wrongIs(x, 0, 1, 0, 21, 22);
        for (int k = 0; k < 198; k++) {
            x.go(0, 0);
        }
        // push 1 + 20 + 20 * 99, pull 1 + 20 + 20 by the last one: 41 by 2042, and 1 by 200
        wrongIs(x, 0, 0, 0, 5121, 204200);
    }

    private static void wrongIsNoneForATray() {
        Due.sentence("NONE: it WANTS what he can not do (wrong)");
        PushSaidDoor x = Due.house("r2;d0,1,0,1;d0,1,1,2;p0,1;p0,0;", 2);
        for (int part = 0; part < 2; part++) {
            Due.is("a pull", x.wrong(0, 0, 1, part), NONE);
            Due.is("a pull", x.wrong(0, 1, 0, part), NONE);
            Due.is("without TRAY", x.wrong(1, 0, 1, part), 1 + part);
            Due.is("without TRAY", x.wrong(1, 1, 0, part), 1);
            Due.is("a push", x.wrong(0, 0, 0, part), part);
            Due.is("a push", x.wrong(0, 1, 1, part), 1 + part);
        }
    }

    private static void weighsInBounds() {
        Due.sentence("What push (what = 0), pull (1) WEIGH .. BAD.");
        PushSaidDoor x = Due.house("r2;d0,1,0,1;d0,1,0,1;p0,0;p0,1;p0,0;", 2);
        Due.is("the highest numbers", x.weighs(2, 1, 1, 1), 1);
        int[][] bad = {{3, 0, 0, 0}, {-1, 0, 0, 0}, {0, 2, 0, 0}, {0, -1, 0, 0}, {0, 0, 2, 0}, {0, 0, -1, 0},
            {0, 0, 0, 2}, {0, 0, 0, -1}};
        for (int[] b : bad) {
            Due.is("weighs", x.weighs(b[0], b[1], b[2], b[3]), BAD);
        }
    }

    private static void wrongInBounds() {
        Due.sentence("WRONG of a PERSON at a DOOR on a SIDE .. BAD.");
        PushSaidDoor x = Due.house("r2;d0,1,0,1;d0,1,0,1;p0,0;p0,1;p0,0;", 2);
        Due.is("the highest numbers", x.wrong(2, 1, 1, 1), 2);
        int[][] bad = {{3, 0, 0, 0}, {-1, 0, 0, 0}, {0, 2, 0, 0}, {0, -1, 0, 0}, {0, 0, 2, 0}, {0, 0, -1, 0},
            {0, 0, 0, 2}, {0, 0, 0, -1}, {1, 0, 1, 2}, {1, 0, 1, -1}};
        for (int[] b : bad) {
            Due.is("wrong", x.wrong(b[0], b[1], b[2], b[3]), BAD);
        }
    }

    private static void goesToTheOtherRoom() {
        Due.sentence("Who GOES by a DOOR is in the other ROOM then; he went by it once more from this SIDE");
        PushSaidDoor x = Due.house("r8;d7,0,0,1;d0,7,0,1;p7,0;p0,0;", 8);
        Due.is("from A", x.go(0, 0), 0);
        Due.is("ROOM", x.person(0, 0), 0);
        Due.is("times from A", x.times(0, 0, 0), 1);
        Due.is("times from B", x.times(0, 0, 1), 0);
        Due.is("from B", x.go(1, 0), 7);
        Due.is("ROOM", x.person(1, 0), 7);
        Due.is("times from A", x.times(1, 0, 0), 0);
        Due.is("times from B", x.times(1, 0, 1), 1);
        Due.is("of the first one still", x.times(0, 0, 1), 0);
        Due.is("by no other DOOR", x.times(0, 1, 0) + x.times(1, 1, 1), 0);
    }

    private static void goOnlyBesideHim() {
        Due.sentence("NO: it is not beside his, or WANTS what he can not do (go)");
        PushSaidDoor x = Due.house("r4;d0,1,2,1;d1,2,0,1;d3,2,0,1;p0,1;p2,1;p0,0;", 4);
        Due.is("not beside", x.go(0, 1), NO);
        Due.is("not beside", x.go(0, 2), NO);
        Due.is("not beside", x.go(2, 2), NO);
        Due.is("a pull by a TRAY", x.go(1, 1), NO);
        Due.is("a pull by a TRAY", x.go(1, 2), NO);
        Due.is("either by a TRAY", x.go(0, 0), 1);
        Due.is("beside now", x.go(0, 1), 2);
        Due.is("not beside any more", x.go(0, 0), NO);
        Due.is("ROOMS", x.person(0, 0) * 100 + x.person(1, 0) * 10 + x.person(2, 0), 220);
    }

    private static void goInBounds() {
        Due.sentence("A PERSON GOES by a DOOR: the ROOM. BAD");
        PushSaidDoor x = Due.house("r2;d0,1,0,1;d0,1,0,1;p0,0;p0,0;", 2);
        int[] none = {-1, 2, Integer.MIN_VALUE, Integer.MAX_VALUE};
        for (int far : none) {
            Due.is("go(" + far + ", 0)", x.go(far, 0), BAD);
            Due.is("go(0, " + far + ")", x.go(0, far), BAD);
        }
        Due.is("the highest numbers", x.go(1, 1), 1);
    }

    private static void ninetyNineTimesAtMost() {
        Due.sentence("once more from this SIDE (99 at most)");
        PushSaidDoor x = Due.house("r2;d0,1,0,1;p0,0;", 2);
        for (int k = 1; k <= 105; k++) {
            Due.is("there", x.go(0, 0), 1);
            Due.is("times", x.times(0, 0, 0), k < 99 ? k : 99);
            Due.is("back", x.go(0, 0), 0);
        }
        Due.is("times back", x.times(0, 0, 1), 99);
    }

    private static void theLatestIsHisLastOne() {
        Due.sentence("it is his last one");
        PushSaidDoor x = Due.house("r2;d0,1,0,1;d0,1,2,1;p0,0;p0,0;", 2);
        Due.is("none yet", x.person(0, 2), NONE);
        x.go(0, 0);
        Due.is("a push", x.person(0, 2), 0);
        x.go(0, 0);
        Due.is("a pull", x.person(0, 2), 1);
        x.go(0, 1);
        Due.is("either", x.person(0, 2), 2);
        Due.is("none of the other one yet", x.person(1, 2), NONE);
    }

    private static void putAnswersWhatTheyWere() {
        Due.sentence("SIGNS of a SIDE are others: what they were.");
        PushSaidDoor x = Due.house("r2;d0,1,0,1;d0,1,0,1;s0,0,63;s1,1,5;p0,0;", 2);
        Due.is("all, then none", x.put(0, 0, 0), 63);
        Due.is("none, then all", x.put(0, 0, 63), 0);
        Due.is("all, then all", x.put(0, 0, 63), 63);
        Due.is("the other SIDE", x.put(0, 1, 1), 0);
        Due.is("the other DOOR", x.put(1, 1, 2), 5);
        int[] due = {63, 1, 0, 2};
        for (int k = 0; k < 4; k++) {
            Due.is("SIDE " + k % 2 + " of " + k / 2, x.door(k / 2, 4 + k % 2), due[k]);
        }
    }

    private static void putInBounds() {
        Due.sentence("SIGNS of a SIDE are others .. BAD.");
        PushSaidDoor x = Due.house("r2;d0,1,0,1;s0,0,9;p0,0;", 2);
        int[][] bad = {{1, 0, 0}, {-1, 0, 0}, {0, 2, 0}, {0, -1, 0}, {0, 0, 64}, {0, 0, -1}, {0, 0, 127},
            {0, 0, Integer.MIN_VALUE}, {0, 0, Integer.MAX_VALUE}};
        for (int[] b : bad) {
            Due.is("put", x.put(b[0], b[1], b[2]), BAD);
            Due.is("SIGNS stay", x.door(0, 4), 9);
        }
        Due.is("the most", x.put(0, 1, 63), 0);
        Due.is("the least", x.put(0, 1, 0), 63);
    }

    private static void hangTurnsThereAndBack() {
        Due.sentence("A DOOR is HUNG the other way: W then.");
        PushSaidDoor x = Due.house("r2;d0,1,0,1;d0,1,1,2;s0,0,9;p0,0;", 2);
        Due.is("from 0", x.hang(0), 1);
        Due.is("from 1", x.hang(0), 0);
        Due.is("from 1", x.hang(1), 0);
        Due.is("from 0", x.hang(1), 1);
        Due.is("from 0 again", x.hang(0), 1);
        int[] due = {0, 1, 1, 1, 9, 0, 1, 0};
        for (int k = 0; k < 8; k++) {
            Due.is("door(0, " + k + ")", x.door(0, k), due[k]);
        }
        Due.is("W of the other one", x.door(1, 2), 1);
    }

    private static void hangOfEitherIsNo() {
        Due.sentence("a DOOR of W 0 or 1 be HUNG; NO: it opens either way.");
        PushSaidDoor x = Due.house("r2;d0,1,2,1;d0,1,0,1;p0,0;", 2);
        Due.is("either way", x.hang(0), NO);
        Due.is("W stays", x.door(0, 2), 2);
        Due.is("nothing to undo", x.count(5), 0);
        Due.is("the other one", x.hang(1), 1);
    }

    private static void hangInBounds() {
        Due.sentence("A DOOR is HUNG the other way .. BAD");
        PushSaidDoor x = Due.house("r2;d0,1,0,1;d0,1,1,1;p0,0;", 2);
        int[] none = {-1, 2, Integer.MIN_VALUE, Integer.MAX_VALUE};
        for (int far : none) {
            Due.is("hang(" + far + ")", x.hang(far), BAD);
        }
        Due.is("the highest one", x.hang(1), 0);
    }

    private static void undoOfNothingIsNo() {
        Due.sentence("UNDONE: how many more can be. NO.");
        PushSaidDoor x = Due.house("r2;d0,1,0,1;p0,0;", 2);
        Due.is("nothing yet", x.undo(), NO);
        x.hang(0);
        Due.is("one", x.undo(), 0);
        Due.is("nothing more", x.undo(), NO);
        Due.is("W as at first", x.door(0, 2), 0);
        Due.is("count(5)", x.count(5), 0);
    }

    private static void undoIsTheLatest() {
        Due.sentence("UNDONE is the latest go(), put(), hang()");
        PushSaidDoor x = Due.house("r2;d0,1,0,1;s0,0,1;p0,0;p0,0;", 2);
        x.go(0, 0);
        x.put(0, 0, 2);
        x.hang(0);
        x.go(1, 0);
        Due.is("the go of 1", x.undo(), 3);
        Due.is("ROOM of 1", x.person(1, 0), 0);
        Due.is("times of 1", x.times(1, 0, 0), 0);
        Due.is("last of 1", x.person(1, 2), NONE);
        Due.is("W still", x.door(0, 2), 1);
        Due.is("the hang", x.undo(), 2);
        Due.is("W", x.door(0, 2), 0);
        Due.is("SIGNS still", x.door(0, 4), 2);
        Due.is("the put", x.undo(), 1);
        Due.is("SIGNS", x.door(0, 4), 1);
        Due.is("ROOM of 0 still", x.person(0, 0), 1);
        Due.is("the go of 0", x.undo(), 0);
        Due.is("ROOM of 0", x.person(0, 0), 0);
        Due.is("times of 0", x.times(0, 0, 0), 0);
        Due.is("last of 0", x.person(0, 2), NONE);
    }

    private static void theLastEightCanBeUndone() {
        Due.sentence("(the last 8 can be)");
        for (int many = 1; many <= 20; many++) {
            PushSaidDoor x = Due.house("r2;d0,1,0,1;p0,0;", 2);
            for (int k = 1; k <= many; k++) {
                x.put(0, 0, k);
                Due.is("can be UNDONE", x.count(5), k < 8 ? k : 8);
            }
            int left = many < 8 ? many : 8;
            while (left > 0) {
                left--;
                Due.is("undo", x.undo(), left);
            }
            Due.is("one more of " + many, x.undo(), NO);
            Due.is("SIGNS", x.door(0, 4), many < 8 ? 0 : many - 8);
        }
    }

    private static void undoneAgainAndAgain() {
        Due.sentence("the last 8 (round and round)");
        PushSaidDoor x = Due.house("r2;d0,1,0,1;p0,0;", 2);
        for (int round = 0; round < 12; round++) {
            for (int k = 0; k < 5; k++) {
                x.put(0, 0, 5 * round % 50 + k + 1);
            }
            for (int k = 0; k < 3; k++) {
                x.undo();
            }
            Due.is("SIGNS of round " + round, x.door(0, 4), 5 * round % 50 + 2);
            int due = 2 * (round + 1);
            Due.is("can be UNDONE", x.count(5), due < 5 ? due : 5);
        }
        for (int k = 4; k >= 0; k--) {
            Due.is("undo", x.undo(), k);
        }
        // left were 7 and 6 of the last round, 2 and 1 of the one before, and 47, put on a SIDE of 46
        Due.is("SIGNS", x.door(0, 4), 46);
        Due.is("no more", x.undo(), NO);
    }

    private static void whatChangedNothingIsUndoneToo() {
        Due.sentence("the latest put() (that of the same SIGNS, too)");
        PushSaidDoor x = Due.house("r2;d0,1,0,1;s0,0,9;p0,0;", 2);
        x.hang(0);
        x.put(0, 0, 9);
        Due.is("both can be", x.count(5), 2);
        Due.is("the put", x.undo(), 1);
        Due.is("W still", x.door(0, 2), 1);
        Due.is("SIGNS", x.door(0, 4), 9);
        Due.is("the hang", x.undo(), 0);
        Due.is("W", x.door(0, 2), 0);
    }

    private static void undoneAtNinetyNine() {
        Due.sentence("(99 at most), UNDONE");
        PushSaidDoor x = Due.house("r2;d0,1,0,1;p0,0;", 2);
        for (int k = 0; k < 201; k++) {
            x.go(0, 0);
        }
        // 101 from SIDE 0, 100 from SIDE 1
        Due.is("times", x.times(0, 0, 0), 99);
        Due.is("times back", x.times(0, 0, 1), 99);
        int[] from0 = {99, 99, 99, 99, 98, 98, 97, 97};
        int[] from1 = {99, 99, 99, 98, 98, 97, 97, 96};
        for (int k = 0; k < 8; k++) {
            Due.is("undo", x.undo(), 7 - k);
            Due.is("times behind undo " + k, x.times(0, 0, 0), from0[k]);
            Due.is("times back behind undo " + k, x.times(0, 0, 1), from1[k]);
            Due.is("ROOM", x.person(0, 0), k % 2);
            Due.is("last", x.person(0, 2), 1 - k % 2);
        }
        Due.is("no more", x.undo(), NO);
    }

    private static void whatWasRefusedIsNotUndone() {
        Due.sentence("UNDONE is the latest go(), put(), hang() (not one that was refused)");
        PushSaidDoor x = Due.house("r3;d0,1,0,1;d1,2,2,1;s0,0,9;p0,0;", 3);
        x.put(0, 0, 5);
        Due.is("not beside", x.go(0, 1), NO);
        Due.is("no DOOR", x.go(0, 2), BAD);
        Due.is("no SIGNS", x.put(0, 0, 64), BAD);
        Due.is("either way", x.hang(1), NO);
        Due.is("no DOOR", x.hang(2), BAD);
        Due.is("only the put", x.count(5), 1);
        Due.is("UNDONE", x.undo(), 0);
        Due.is("SIGNS", x.door(0, 4), 9);
    }

    private static PushSaidDoor eightDoorsFivePersons() {
        return Due.house("r8;d0,7,0,2;d0,7,0,2;d0,7,0,2;d0,7,0,2;d0,7,0,2;d0,7,0,2;d0,7,0,2;d0,7,0,2;"
                + "w0,0,0,0,0,1;p0,0;p0,0;p0,0;p0,0;p0,0;", 8);
    }

    private static void ofTheHighestDoorAndPerson() {
        Due.sentence("DOORS: 8 at most, PERSONS: 5 at most (each one's times and WRONG are his own)");
        for (int i = 0; i < 5; i++) {
            for (int d = 0; d < 8; d++) {
                PushSaidDoor x = eightDoorsFivePersons();
                x.put(d, 0, 1);
                x.put(d, 1, 2);
                x.go(i, d);
                x.go(i, d);
                x.go(i, d);
                int other = d < 7 ? 7 : 0;
                for (int j = 0; j < 5; j++) {
                    Due.is("times of " + j + " from SIDE 0", x.times(j, d, 0), i == j ? 2 : 0);
                    Due.is("times of " + j + " from SIDE 1", x.times(j, d, 1), i == j ? 1 : 0);
                    Due.is("times of " + j + " by another one", x.times(j, other, 0), 0);
                    weighs(x, j, d, 0, i == j ? 3 : 1, 1);
                    weighs(x, j, d, 1, 1, i == j ? 2 : 1);
                    weighs(x, j, other, 0, 1, 1);
                    // 1 by 4 and 1 by 5; 1 by 2 and 1 by 2
                    wrongIs(x, j, d, 0, i == j ? 9 : 1, i == j ? 20 : 1);
                    wrongIs(x, j, other, 0, 1, 1);
                }
                x.put(other, 0, 1);
                weighs(x, i, other, 0, 3, 1);
                x.put(other, 0, 2);
                weighs(x, i, other, 0, 1, 2);
            }
        }
    }

    private static void undoneOfTheHighestDoorAndPerson() {
        Due.sentence("UNDONE is the latest (of whichever DOOR, SIDE, PERSON)");
        for (int d = 0; d < 8; d++) {
            PushSaidDoor x = eightDoorsFivePersons();
            int i = d % 5;
            // eight of another kind ahead, whose places are used again
            for (int k = 0; k < 8; k++) {
                if (k < 4) {
                    x.hang(k);
                } else {
                    x.go(k - 4, k);
                }
            }
            for (int k = 0; k < 4; k++) {
                x.go(i, d);
            }
            x.put(d, 0, 5);
            x.put(d, 1, 6);
            x.hang(d);
            x.go((i + 1) % 5, d);
            int[] before = allOf(x);
            Due.is("SIDE 1", x.put(d, 1, 9), 6);
            Due.is("undo", x.undo(), 7);
            same("as before", allOf(x), before);
            Due.is("the other go", x.undo(), 6);
            Due.is("W", x.door(d, 2), d < 4 ? 0 : 1);
            Due.is("the hang", x.undo(), 5);
            Due.is("W", x.door(d, 2), d < 4 ? 1 : 0);
            Due.is("SIGNS of SIDE 1", x.door(d, 5), 6);
            Due.is("the put", x.undo(), 4);
            Due.is("SIGNS of SIDE 1", x.door(d, 5), 0);
            Due.is("SIGNS of SIDE 0", x.door(d, 4), 5);
            Due.is("the put", x.undo(), 3);
            Due.is("SIGNS of SIDE 0", x.door(d, 4), 0);
            int all = x.times(i, d, 0) + x.times(i, d, 1);
            for (int k = 1; k <= 3; k++) {
                Due.is("a go", x.undo(), 3 - k);
                Due.is("times", x.times(i, d, 0) + x.times(i, d, 1), all - k);
            }
            Due.is("no more", x.undo(), NO);
        }
    }

    private static int[] allOf(PushSaidDoor x) {
        int[] all = new int[24 + 10 + 16];
        for (int k = 0; k < 24; k++) {
            all[k] = x.door(k / 3, k % 3 < 1 ? 2 : 3 + k % 3);
        }
        for (int k = 0; k < 10; k++) {
            all[24 + k] = x.person(k / 2, k % 2 * 2);
        }
        for (int k = 0; k < 16; k++) {
            all[34 + k] = x.times(k % 5, k / 2, k % 2);
        }
        return all;
    }

    private static void same(String call, int[] got, int[] due) {
        for (int k = 0; k < due.length; k++) {
            Due.is(call + ", " + k, got[k], due[k]);
        }
    }
}
