/** Section 3 and promises 16 to 22: each sentence that names a bound has a test of its own. */
public final class BoundsOfRowsTest {
    private static final int BAD = Due.BAD, FULL = Due.FULL, NONE = Due.NONE;

    public static void main(String[] args) {
        partsAreCutEachForItself();
        partsOfOneDoorAreCutOnce();
        twelveDoorsInTheRow();
        noRowAnswersHowManyItHad();
        tellInBounds();
        alongFromWhereHeIsNow();
        alongNoRow();
        alongAsHeIsByThen();
        alongNotBeside();
        alongWhatHeCanNotDo();
        alongNinetyNineTimesAtMost();
        alongInBounds();
        wayByEightDoorsAtMost();
        wayNotByNine();
        wayIsFewestParts();
        wayByTheLastDoorOnTheWay();
        wayByTimesAsNow();
        wayWhereHeIs();
        wayNone();
        wayWithATray();
        wayTheLowestDoorFirst();
        wayInBounds();
        learntAtOnce();
        learntAtNinetyNine();
        learntNone();
        learntByNoMoreThan();
        learntInPlaceOfThoseSoFar();
        learntWithoutLastOne();
        learntWithTheOtherSideAsItIs();
        learntAtEachDoor();
        learntTrayIsNoMatter();
        learntInBounds();
        spoiltByTenTimesMore();
        spoiltNinetyNineAtMost();
        spoiltNoughtAtLeast();
        spoiltTrayIsNoMatter();
        spoiltByEachDoor();
        spoiltByAnotherDoor();
        spoiltInBounds();
        trayToTheSame();
        trayByFewDoors();
        trayByManyWays();
        trayNone();
        trayInBounds();
        Due.end();
    }

    private static void partsAreCutEachForItself() {
        Due.sentence("PARTS are of a thousand, each cut for itself");
        // 1 by 3 at each from SIDE 0: 333 and not 1000 by 3 DOORS
        PushSaidDoor x = Due.house("r4;d0,1,0,1;d1,2,0,1;d2,3,0,1;s0,0,2;s1,0,2;s2,0,2;w0,1,0,0,0,0;p0,0;", 4);
        for (int d = 0; d < 3; d++) {
            x.tell(d);
        }
        Due.is("along", x.along(0), 999);
        Due.is("way", x.way(0, 3, 0), 999);
        Due.is("hung(1)", x.hung(1), 999 + 1500);
        // without PLATES 1 by 2 each: 501 PARTS more
        Due.is("worth(1)", x.worth(1), 20501);
    }

    private static void partsOfOneDoorAreCutOnce() {
        Due.sentence("PARTS, each cut (what is WRONG at a DOOR by the hand and by the bolt is one)");
        // a pull is WANTED, push 2, pull 1: 2 by 3; gone by once: 1 by 3 besides: 1000, not 666 and 333
        PushSaidDoor x = Due.house("r2;d0,1,1,2;s0,0,2;w0,1,0,0,0,0;p0,0;p1,0;", 2);
        x.go(1, 0);
        x.tell(0);
        Due.is("along", x.along(1), 1000);
        Due.is("way", x.way(1, 1, 0), 1000);
        Due.is("along of one who did not", x.along(0), 1166);
    }

    private static void twelveDoorsInTheRow() {
        Due.sentence("A told row of DOORS (12 at most); FULL");
        PushSaidDoor x = Due.house("r2;d0,1,2,2;w0,0,0,0,0,0;p0,0;", 2);
        int due = 0;
        for (int k = 1; k <= 12; k++) {
            Due.is("tell", x.tell(0), k);
            due += 1000 / (k + 1);
            Due.is("along " + k, x.along(0), due);
        }
        Due.is("the 13th", x.tell(0), FULL);
        Due.is("the 13th again", x.tell(0), FULL);
        Due.is("count(3)", x.count(3), 12);
        Due.is("along 12 still", x.along(0), due);
    }

    private static void noRowAnswersHowManyItHad() {
        Due.sentence("No told row: how many it had.");
        PushSaidDoor x = new PushSaidDoor();
        Due.is("none", x.noRow(), 0);
        x.tell(1);
        Due.is("one", x.noRow(), 1);
        Due.is("none again", x.noRow(), 0);
        for (int k = 0; k < 13; k++) {
            x.tell(0);
        }
        Due.is("twelve", x.noRow(), 12);
        Due.is("count(3)", x.count(3), 0);
        Due.is("along none", x.along(0), 0);
        Due.is("told anew", x.tell(0), 1);
        Due.is("along the new one", x.along(0), 916);
    }

    private static void tellInBounds() {
        Due.sentence("A DOOR more in the told row: how many. BAD");
        PushSaidDoor x = new PushSaidDoor();
        int[] none = {-1, 2, 8, Integer.MIN_VALUE, Integer.MAX_VALUE};
        for (int far : none) {
            Due.is("tell(" + far + ")", x.tell(far), BAD);
            Due.is("count(3)", x.count(3), 0);
        }
        Due.is("the highest DOOR", x.tell(1), 1);
        Due.is("the lowest DOOR", x.tell(0), 2);
    }

    private static void alongFromWhereHeIsNow() {
        Due.sentence("is gone by a PERSON from where he is now");
        PushSaidDoor x = Due.house("r3;d0,1,0,1;d1,2,0,1;s0,0,2;s0,1,1;w9,4,0,0,0,0;p0,0;", 3);
        x.tell(0);
        Due.is("from 0", x.along(0), 166);
        x.go(0, 0);
        Due.is("from 1", x.along(0), 90);
        x.go(0, 1);
        Due.is("from 2", x.along(0), NONE);
        Due.is("he is where he was", x.person(0, 0), 2);
    }

    private static void alongNoRow() {
        Due.sentence("ALONG it, he is WRONG in so many PARTS, all put together (of none 0)");
        PushSaidDoor x = new PushSaidDoor();
        Due.is("of none", x.along(0), 0);
        Due.is("of none with a TRAY", x.along(1), 0);
        Due.is("of no one", x.along(2), BAD);
    }

    private static void alongAsHeIsByThen() {
        Due.sentence("each DOOR as he is by then");
        // a time does 1, the last one 3: to and fro by the same DOOR
        PushSaidDoor x = Due.house("r2;d0,1,0,2;w0,0,0,0,3,1;p0,0;", 2);
        // there: 1 by 2 and 1 by 2; back: push 4 of 5, and 1 by 3; there: push 2, pull 4: 4 by 6, and 1 by 4;
        // back: push 4, pull 2: 4 by 6, and 1 by 5
        int[] due = {1000, 1133, 916, 866};
        int sum = 0;
        for (int k = 0; k < 4; k++) {
            x.tell(0);
            sum += due[k];
            Due.is("along " + (k + 1), x.along(0), sum);
        }
        Due.is("times stay", x.times(0, 0, 0) + x.times(0, 0, 1), 0);
        Due.is("his last stays", x.person(0, 2), NONE);
    }

    private static void alongNotBeside() {
        Due.sentence("none (one is not beside where he would be)");
        PushSaidDoor x = Due.house("r4;d0,1,2,1;d1,2,2,1;d2,3,2,1;p0,0;", 4);
        int[][] rows = {{1}, {0, 2}, {0, 0, 1}, {0, 1, 2, 1}, {0, 1, 2, 2, 0}};
        int[][] fine = {{0}, {0, 1}, {0, 0, 0}, {0, 1, 2, 2}, {0, 1, 2, 2, 1}};
        for (int k = 0; k < rows.length; k++) {
            Due.is("a row with one not beside", alongRow(x, rows[k]), NONE);
            Due.is("a row with all beside", alongRow(x, fine[k]), 0);
        }
    }

    private static int alongRow(PushSaidDoor x, int[] row) {
        x.noRow();
        for (int d : row) {
            x.tell(d);
        }
        return x.along(0);
    }

    private static void alongWhatHeCanNotDo() {
        Due.sentence("none (.. or it WANTS what he can not do)");
        PushSaidDoor x = Due.house("r3;d0,1,0,1;d1,2,1,1;p0,1;p0,0;", 3);
        Due.is("a push", alongRow(x, new int[] {0}), 0);
        Due.is("back by a pull", alongRow(x, new int[] {0, 0}), NONE);
        Due.is("on by a pull", alongRow(x, new int[] {0, 1}), NONE);
        Due.is("without TRAY", x.along(1) > 0 ? 1 : 0, 1);
        x.hang(1);
        Due.is("hung the other way", alongRow(x, new int[] {0, 1}), 0);
    }

    private static void alongNinetyNineTimesAtMost() {
        Due.sentence("once more (99 at most), along a row too");
        PushSaidDoor x = Due.house("r2;d0,1,2,2;p0,0;", 2);
        for (int k = 0; k < 194; k++) {
            x.go(0, 0);
        }
        int[] below = {196, 197, 198, 199, 200, 200, 200};
        int sum = 0;
        for (int k = 0; k < below.length; k++) {
            x.tell(0);
            sum += 1000 / below[k];
            Due.is("along " + (k + 1), x.along(0), sum);
        }
        PushSaidDoor y = Due.house("r2;d0,1,0,1;s0,0,9;w20,0,20,0,0,1;p0,0;", 2);
        for (int k = 0; k < 198; k++) {
            y.go(0, 0);
        }
        y.tell(0);
        y.tell(0);
        y.tell(0);
        // pull 41, push 100: 290; back 1 by 101: 9; there again 290, not 41 by 142: 288
        Due.is("99 times", y.along(0), 290 + 9 + 290);
    }

    private static void alongInBounds() {
        Due.sentence("ALONG. NONE; BAD.");
        PushSaidDoor x = new PushSaidDoor();
        x.tell(0);
        int[] none = {-1, 2, 5, Integer.MIN_VALUE, Integer.MAX_VALUE};
        for (int far : none) {
            Due.is("along(" + far + ")", x.along(far), BAD);
        }
        Due.is("along(0)", x.along(0), 916);
        Due.is("along(1)", x.along(1), NONE);
    }

    private static void wayByEightDoorsAtMost() {
        Due.sentence("by 8 DOORS at most");
        // to 7 and back it is 45 and 222, and the pull behind it is 142, not 500; then five either way
        PushSaidDoor x = Due.house("r8;d0,1,1,1;d1,2,2,1;d2,3,2,1;d3,4,2,1;d4,5,2,1;d5,6,2,1;d0,7,0,1;"
                + "s6,0,2;s6,1,1;w20,20,0,0,5,0;p0,0;", 8);
        Due.is("eight DOORS", x.way(0, 6, 0), 45 + 222 + 142);
        Due.is("the first one", x.way(0, 6, 1), 6);
        for (int goal = 1; goal <= 6; goal++) {
            Due.is("way to " + goal, x.way(0, goal, 0), 409);
        }
    }

    private static void wayNotByNine() {
        Due.sentence("by 8 DOORS at most (nine would be less WRONG)");
        // two such pulls, the second one in ROOM 4: both detours would be nine DOORS, 818
        PushSaidDoor x = Due.house("r8;d0,1,1,1;d1,2,2,1;d2,3,2,1;d3,4,2,1;d0,5,0,1;d4,6,0,1;d4,7,1,1;"
                + "s4,0,2;s4,1,1;s5,0,2;s5,1,1;w20,20,0,0,5,0;p0,0;p1,0;", 8);
        Due.is("one detour alone", x.way(0, 7, 0), 409 + 500);
        Due.is("the lowest first DOOR", x.way(0, 7, 1), 0);
        // from ROOM 1 the first pull is not on the way
        Due.is("from one on", x.way(1, 7, 0), 409);
    }

    private static void wayIsFewestParts() {
        Due.sentence("that on which he is WRONG in fewest PARTS in all");
        // straight on by one DOOR 500, round by three 1 by 22 each
        PushSaidDoor x = Due.house("r4;d0,3,0,1;d0,1,0,1;d1,2,0,1;d2,3,0,1;s1,0,2;s2,0,2;s3,0,2;"
                + "w0,20,0,0,0,0;p0,0;", 4);
        Due.is("round", x.way(0, 3, 0), 135);
        Due.is("round by 1", x.way(0, 3, 1), 1);
        x.put(1, 0, 1);
        x.put(2, 0, 0);
        Due.is("straight on", x.way(0, 3, 0), 500);
        Due.is("straight on by 0", x.way(0, 3, 1), 0);
    }

    private static void wayByTheLastDoorOnTheWay() {
        Due.sentence("the last DOOR being as on the way");
        PushSaidDoor x = Due.house("r3;d0,1,0,1;d1,2,0,1;w0,0,0,0,20,0;p0,0;p1,0;", 3);
        // 1 by 2, then 1 by 22
        Due.is("none ahead of the first", x.way(0, 2, 0), 500 + 45);
        Due.is("from 1", x.way(1, 2, 0), 500);
        x.go(0, 0);
        Due.is("his last one ahead of the first", x.way(0, 2, 0), 45);
        // back by a pull: 21 by 22
        Due.is("his last one ahead of the first", x.way(0, 0, 0), 954);
    }

    private static void wayByTimesAsNow() {
        Due.sentence("all times as now");
        // both DOORS without SIGNS: gone by the first one the second one would be less WRONG
        PushSaidDoor x = Due.house("r3;d0,1,0,2;d1,2,0,1;w0,0,0,0,0,20;p0,0;", 3);
        Due.is("as now", x.way(0, 2, 0), 1000 + 500);
        x.tell(0);
        x.tell(1);
        Due.is("along it is as by then", x.along(0), 1000 + 45);
        x.go(0, 0);
        x.go(0, 0);
        // push 21, pull 21 (back by a pull), and 1 by 4: 500 and 250; then push 21, pull 21
        Due.is("as now again", x.way(0, 2, 0), 45 + 250 + 500);
    }

    private static void wayWhereHeIs() {
        Due.sentence("(he is there: 0 PARTS, no DOOR)");
        PushSaidDoor x = Due.house("r2;d0,1,2,1;p0,0;p1,1;", 2);
        Due.is("PARTS", x.way(0, 0, 0), 0);
        Due.is("no DOOR", x.way(0, 0, 1), NONE);
        Due.is("PARTS with a TRAY", x.way(1, 1, 0), 0);
        Due.is("no DOOR with a TRAY", x.way(1, 1, 1), NONE);
        Due.is("0 PARTS, but a DOOR", x.way(0, 1, 0) * 10 + x.way(0, 1, 1), 0);
        x.go(0, 0);
        Due.is("there now", x.way(0, 1, 1), NONE);
    }

    private static void wayNone() {
        Due.sentence("WAY .. none");
        PushSaidDoor x = Due.house("r5;d0,1,0,1;d1,2,1,1;d3,4,2,1;p0,0;p0,1;p2,1;", 5);
        for (int what = 0; what < 2; what++) {
            Due.is("no DOORS between", x.way(0, 3, what), NONE);
            Due.is("no DOORS between", x.way(0, 4, what), NONE);
            Due.is("a TRAY and a pull", x.way(1, 2, what), NONE);
            Due.is("a TRAY and a pull", x.way(2, 0, what), NONE);
            Due.is("a TRAY and a push", x.way(1, 1, what), 0);
            Due.is("a TRAY and a push", x.way(2, 1, what), what);
        }
        Due.is("without TRAY", x.way(0, 2, 1), 0);
        // whichever ROOM he can come to by a push, and whichever was asked for ahead
        for (int to = 0; to < 5; to++) {
            for (int from = 0; from < 5; from++) {
                if (from != to) {
                    PushSaidDoor y = Due.house("r6;d" + from + "," + to + ",0,1;p" + from + ",0;", 6);
                    Due.is("no DOOR to 5", y.way(0, 5, 0), NONE);
                    Due.is("way to " + to, y.way(0, to, 0), 500);
                    Due.is("no DOOR to 5 behind that", y.way(0, 5, 0), NONE);
                    Due.is("no DOOR to 5 behind that", y.way(0, 5, 1), NONE);
                }
            }
        }
    }

    private static void wayWithATray() {
        Due.sentence("WAY of a PERSON (With a TRAY one can not pull)");
        // 0, 1, 2, 3 by three pushes (the last one of two LEAVES), from 3 to 1 by a push; back each is a pull
        PushSaidDoor x = Due.house("r4;d0,1,0,1;d2,1,1,1;d2,3,0,2;d3,1,0,1;p0,1;p0,0;p3,1;", 4);
        Due.is("by pushes", x.way(0, 3, 0), 500);
        Due.is("by pushes first", x.way(0, 3, 1), 0);
        Due.is("back to 1 by a push", x.way(2, 1, 0), 0);
        Due.is("back to 1 by a push first", x.way(2, 1, 1), 3);
        Due.is("on to 2", x.way(2, 2, 0), 0);
        Due.is("not on to 0", x.way(2, 0, 0), NONE);
        x.hang(0);
        Due.is("on to 0", x.way(2, 0, 0), 0);
        Due.is("but not from there", x.way(0, 3, 0), NONE);
        Due.is("without TRAY", x.way(1, 3, 1), 0);
    }

    private static void wayTheLowestDoorFirst() {
        Due.sentence("the lowest DOOR that is first on such a way");
        PushSaidDoor x = Due.house("r4;d2,3,2,1;d1,3,2,1;d3,0,2,1;d0,2,2,1;d0,1,2,1;d0,3,2,1;p0,0;", 4);
        Due.is("by 2, 3, 4, 5", x.way(0, 3, 1), 2);
        Due.is("to 1 by 2 too", x.way(0, 1, 1), 2);
        PushSaidDoor y = Due.house("r3;d1,2,2,1;d0,2,0,1;d0,1,0,1;d0,1,0,1;p0,0;", 3);
        Due.is("alike by 1, 2, 3", y.way(0, 2, 1), 1);
        y.put(1, 0, 1);
        Due.is("alike by 2, 3", y.way(0, 2, 1), 2);
        y.put(3, 0, 2);
        Due.is("by 3 alone", y.way(0, 2, 1), 3);
    }

    private static void wayInBounds() {
        Due.sentence("WAY: PARTS (what = 0), the first DOOR (1; NONE). NONE; BAD.");
        PushSaidDoor x = Due.house("r3;d0,1,0,1;p0,0;p0,1;", 3);
        int[][] bad = {{2, 0, 0}, {-1, 0, 0}, {0, 3, 0}, {0, -1, 0}, {0, 1, 2}, {0, 1, -1}, {0, 0, 2}, {0, 2, 2},
            {0, 8, 0}, {Integer.MAX_VALUE, 0, 0}, {0, Integer.MIN_VALUE, 0}};
        for (int[] b : bad) {
            Due.is("way", x.way(b[0], b[1], b[2]), BAD);
        }
        Due.is("the highest PERSON and ROOM", x.way(1, 2, 0), NONE);
    }

    private static void learntAtOnce() {
        Due.sentence("LEARNT: how many times (0 ..)");
        PushSaidDoor x = Due.house("r2;d0,1,0,1;d0,1,2,1;s0,0,2;w0,9,0,0,0,1;p0,0;", 2);
        // 1 by 11: 9 of a hundred
        Due.is("0 times", x.learnt(0, 0, 0, 9), 0);
        Due.is("once", x.learnt(0, 0, 0, 8), 1);
        Due.is("99 of a hundred", x.learnt(0, 0, 0, 99), 0);
        Due.is("either way", x.learnt(0, 1, 0, 0), 0);
    }

    private static void learntAtNinetyNine() {
        Due.sentence("LEARNT: how many times (.. to 99)");
        // pull 11, push 1 and t: 11 by 110 is 10 of a hundred, 11 by 111 is 9
        PushSaidDoor x = Due.house("r2;d0,1,0,1;s0,0,1;w10,0,0,0,0,1;p0,0;", 2);
        Due.is("98 times", x.learnt(0, 0, 0, 10), 89);
        Due.is("99 times", x.learnt(0, 0, 0, 9), 99);
        // two LEAVES either way: 1 by 101
        PushSaidDoor y = Due.house("r2;d0,1,2,2;p0,0;", 2);
        Due.is("99 times", y.learnt(0, 0, 0, 0), 99);
    }

    private static void learntNone() {
        Due.sentence("LEARNT .. none");
        // pull 25, push 1 and t: 25 by 125 is 20 of a hundred, 25 by 126 would be 19
        PushSaidDoor x = Due.house("r2;d0,1,0,1;s0,0,9;w20,0,4,0,0,1;p0,0;", 2);
        Due.is("94 times", x.learnt(0, 0, 0, 20), 94);
        Due.is("100 times are none", x.learnt(0, 0, 0, 19), NONE);
        Due.is("never", x.learnt(0, 0, 0, 0), NONE);
        PushSaidDoor y = Due.house("r2;d0,1,0,1;w0,0,0,0,0,0;p0,0;", 2);
        Due.is("nothing is learnt", y.learnt(0, 0, 0, 49), NONE);
        Due.is("nothing is to learn", y.learnt(0, 0, 0, 50), 0);
    }

    private static void learntByNoMoreThan() {
        Due.sentence("WRONG by no more than x (0 to 99) of a hundred (cut) there");
        // 2 by 3 is 66 of a hundred, cut, 2 by 4 just 50, 2 by 5 just 40, 2 by 6 is 33
        PushSaidDoor x = Due.house("r2;d0,1,0,1;s0,0,1;w1,0,0,0,0,1;p0,0;", 2);
        int[] most = {99, 67, 66, 65, 50, 49, 40, 39, 33, 32};
        int[] times = {0, 0, 0, 1, 1, 2, 2, 3, 3, 4};
        for (int k = 0; k < most.length; k++) {
            Due.is("learnt by " + most[k], x.learnt(0, 0, 0, most[k]), times[k]);
        }
        // 99 of a hundred of one who is WRONG by one whole
        PushSaidDoor y = Due.house("r2;d0,1,0,2;w0,0,0,0,0,0;p0,0;", 2);
        Due.is("100 are more than 99", y.learnt(0, 0, 0, 99), 1);
    }

    private static void learntInPlaceOfThoseSoFar() {
        Due.sentence("in place of those by this SIDE so far");
        PushSaidDoor x = Due.house("r2;d0,1,0,1;s0,0,1;w10,0,0,0,0,1;p0,0;", 2);
        for (int k = 0; k < 40; k++) {
            x.go(0, 0);
        }
        Due.is("20 times so far", x.times(0, 0, 0), 20);
        Due.is("none is enough", x.learnt(0, 0, 0, 91), 0);
        Due.is("89 in all", x.learnt(0, 0, 0, 10), 89);
        Due.is("99 in all", x.learnt(0, 0, 0, 9), 99);
        Due.is("20 times still", x.times(0, 0, 0), 20);
    }

    private static void learntWithoutLastOne() {
        Due.sentence("there being no last one");
        PushSaidDoor x = Due.house("r2;d0,1,0,1;d0,1,0,1;s0,0,1;s1,0,2;w10,0,0,0,20,1;p0,0;", 2);
        Due.is("none yet", x.learnt(0, 0, 0, 10), 89);
        x.go(0, 1);
        Due.is("a push was WANTED", x.learnt(0, 0, 0, 10), 89);
        x.go(0, 1);
        Due.is("a pull was WANTED", x.learnt(0, 0, 0, 10), 89);
        Due.is("his last one stays", x.person(0, 2), 1);
    }

    private static void learntWithTheOtherSideAsItIs() {
        Due.sentence("those by this SIDE (the other one's stay)");
        PushSaidDoor x = Due.house("r2;d0,1,2,2;p0,0;", 2);
        x.go(0, 0);
        x.go(0, 0);
        x.go(0, 0);
        // 1 by 2 and t and those of the other SIDE
        Due.is("of SIDE 0", x.learnt(0, 0, 0, 0), 98);
        Due.is("of SIDE 1", x.learnt(0, 0, 1, 0), 97);
    }

    private static void learntAtEachDoor() {
        Due.sentence("a PERSON would have to have gone by a DOOR from a SIDE (each of them)");
        PushSaidDoor x = Due.house("r2;d0,1,0,1;d0,1,0,1;d0,1,0,1;d0,1,0,1;d0,1,0,1;d0,1,0,1;d0,1,0,1;d0,1,0,1;"
                + "w10,0,0,0,0,1;p0,0;p0,0;p0,0;p0,0;p0,0;", 2);
        for (int d = 0; d < 8; d++) {
            x.put(d, 0, 1 + 4 * d);
            x.put(d, 1, 2 + 4 * d);
        }
        for (int d = 0; d < 8; d++) {
            Due.is("89 by SIDE 0 of " + d, x.learnt(d % 5, d, 0, 10), 89);
            Due.is("1 by SIDE 1 of " + d, x.learnt(d % 5, d, 1, 40), 1);
        }
    }

    private static void learntTrayIsNoMatter() {
        Due.sentence("(Of WRONG a TRAY is no matter in both: as if he had none.) LEARNT");
        PushSaidDoor x = Due.house("r2;d0,1,0,1;s0,0,1;s0,1,2;w10,10,0,0,0,1;p0,0;p0,1;p1,1;", 2);
        for (int i = 0; i < 3; i++) {
            Due.is("a push is WANTED", x.learnt(i, 0, 0, 10), 89);
            Due.is("a pull is WANTED", x.learnt(i, 0, 1, 10), 89);
            Due.is("a pull is WANTED", x.learnt(i, 0, 1, 0), NONE);
        }
    }

    private static void learntInBounds() {
        Due.sentence("LEARNT. NONE; BAD.");
        PushSaidDoor x = Due.house("r2;d0,1,0,1;d0,1,0,1;p0,0;p0,1;", 2);
        int[][] bad = {{2, 0, 0, 0}, {-1, 0, 0, 0}, {0, 2, 0, 0}, {0, -1, 0, 0}, {0, 0, 2, 0}, {0, 0, -1, 0},
            {0, 0, 0, 100}, {0, 0, 0, -1}, {0, 0, 0, Integer.MAX_VALUE}, {0, 0, 0, Integer.MIN_VALUE}};
        for (int[] b : bad) {
            Due.is("learnt", x.learnt(b[0], b[1], b[2], b[3]), BAD);
        }
        Due.is("the highest numbers", x.learnt(1, 1, 1, 99), 0);
        Due.is("the least x", x.learnt(1, 1, 1, 0), 50);
    }

    private static void spoiltByTenTimesMore() {
        Due.sentence("had he gone by another DOOR from a SIDE 10 times more");
        // push 1, pull 1: 500; push 1, pull 11: 916; of 10 more 21 by 22: 954
        PushSaidDoor x = Due.house("r2;d0,1,0,1;d0,1,1,1;w0,0,0,0,0,1;p0,0;", 2);
        x.put(0, 1, 1);
        x.put(1, 1, 2);
        Due.is("none yet", x.spoilt(0, 0, 0, 1, 0), 416);
        for (int k = 0; k < 20; k++) {
            x.go(0, 1);
        }
        Due.is("ten already", x.spoilt(0, 0, 0, 1, 0), 954 - 916);
        Due.is("ten still", x.times(0, 1, 0), 10);
    }

    private static void spoiltNinetyNineAtMost() {
        Due.sentence("10 times more (99 at most)");
        // SIGNS PUSH and PLATE: push 41; pull 1 and t: 89 by it is 687, 99 is 709, 90 is 689, 98 is 707
        PushSaidDoor x = Due.house("r2;d0,1,0,1;d0,1,1,1;s0,0,6;s1,0,6;s0,1,1;s1,1,2;w0,20,20,0,0,1;p0,0;", 2);
        for (int k = 0; k < 89; k++) {
            x.go(0, 1);
            x.go(0, 0);
        }
        Due.is("89 and 10", x.spoilt(0, 0, 0, 1, 0), 709 - 687);
        x.go(0, 1);
        x.go(0, 0);
        Due.is("90 and 9", x.spoilt(0, 0, 0, 1, 0), 709 - 689);
        for (int k = 0; k < 8; k++) {
            x.go(0, 1);
            x.go(0, 0);
        }
        Due.is("98 and 1", x.spoilt(0, 0, 0, 1, 0), 709 - 707);
        x.go(0, 1);
        x.go(0, 0);
        Due.is("99 and none", x.spoilt(0, 0, 0, 1, 0), 0);
    }

    private static void spoiltNoughtAtLeast() {
        Due.sentence("SPOILT .. 0 at least");
        PushSaidDoor x = Due.house("r2;d0,1,0,1;d0,1,0,1;d0,1,2,1;d0,1,1,1;s3,0,1;w0,0,0,0,0,1;p0,0;", 2);
        Due.is("less WRONG by it", x.spoilt(0, 0, 0, 1, 0), 0);
        Due.is("nothing by either", x.spoilt(0, 0, 0, 2, 0), 0);
        Due.is("nothing by other SIGNS", x.spoilt(0, 0, 0, 3, 0), 0);
        Due.is("nothing at either", x.spoilt(0, 2, 0, 0, 0), 0);
        Due.is("something by a pull", x.spoilt(0, 0, 0, 1, 1), 416);
    }

    private static void spoiltTrayIsNoMatter() {
        Due.sentence("(Of WRONG a TRAY is no matter in both: as if he had none.) SPOILT");
        PushSaidDoor x = Due.house("r2;d0,1,0,1;d0,1,1,1;s0,1,1;s1,1,1;w0,0,0,0,0,1;p0,0;p0,1;", 2);
        for (int i = 0; i < 2; i++) {
            Due.is("a push is WANTED", x.spoilt(i, 0, 0, 1, 0), 416);
            Due.is("a pull is WANTED", x.spoilt(i, 0, 1, 1, 1), 416);
        }
    }

    private static void spoiltByEachDoor() {
        Due.sentence("SPOILT .. by another DOOR from a SIDE (each of them, 99 at most)");
        for (int g = 1; g < 8; g++) {
            PushSaidDoor x = Due.house("r2;d0,1,0,1;d0,1,0,1;d0,1,0,1;d0,1,0,1;d0,1,0,1;d0,1,0,1;d0,1,0,1;d0,1,0,1;"
                    + "w0,0,0,0,0,1;p0,0;", 2);
            x.put(0, 1, 1);
            x.put(g, 0, 2);
            for (int k = 0; k < 190; k++) {
                x.go(0, g);
            }
            // on SIDE 0 of DOOR 0 push 1, pull 1 and 95; 99 at most: 96 by 97 is 989, 100 by 101 is 990
            Due.is("95 and 4 by SIDE 1 of " + g, x.spoilt(0, 0, 0, g, 1), 1);
            Due.is("other SIGNS", x.spoilt(0, 0, 0, g, 0), 0);
            int other = g < 7 ? 7 : 6;
            // push 1, pull 106 by another one: 106 by 107
            Due.is("10 by SIDE 1 of " + other, x.spoilt(0, 0, 0, other, 1), 1);
            Due.is("at SIDE 1 of " + other + " by " + g, x.spoilt(0, other, 1, g, 1), 0);
        }
    }

    private static void spoiltByAnotherDoor() {
        Due.sentence("BAD (d and g alike, too)");
        PushSaidDoor x = Due.house("r2;d0,1,0,1;d0,1,1,1;p0,0;", 2);
        for (int k = 0; k < 8; k++) {
            Due.is("alike", x.spoilt(0, k % 2, k / 2 % 2, k % 2, k / 4), BAD);
        }
        Due.is("another one", x.spoilt(0, 0, 0, 1, 0) > 0 ? 1 : 0, 1);
        Due.is("another one", x.spoilt(0, 1, 0, 0, 0) > 0 ? 1 : 0, 1);
    }

    private static void spoiltInBounds() {
        Due.sentence("SPOILT at DOOR d on SIDE e by DOOR g on SIDE f. BAD");
        PushSaidDoor x = Due.house("r2;d0,1,0,1;d0,1,1,1;p0,0;p1,1;", 2);
        int[][] bad = {{2, 0, 0, 1, 0}, {-1, 0, 0, 1, 0}, {0, 2, 0, 1, 0}, {0, -1, 0, 1, 0}, {0, 0, 2, 1, 0},
            {0, 0, -1, 1, 0}, {0, 0, 0, 2, 0}, {0, 0, 0, -1, 0}, {0, 0, 0, 1, 2}, {0, 0, 0, 1, -1},
            {0, 2, 0, 2, 0}, {0, Integer.MAX_VALUE, 0, Integer.MIN_VALUE, 0}};
        for (int[] b : bad) {
            Due.is("spoilt", x.spoilt(b[0], b[1], b[2], b[3], b[4]), BAD);
        }
        Due.is("the highest numbers", x.spoilt(1, 1, 1, 0, 1), 454);
    }

    private static void trayToTheSame() {
        Due.sentence("TRAY .. (0: the same)");
        PushSaidDoor x = Due.house("r8;d0,1,0,1;p0,0;", 8);
        for (int room = 0; room < 8; room++) {
            Due.is("to the same " + room, x.tray(room, room), 0);
        }
    }

    private static void trayByFewDoors() {
        Due.sentence("TRAY: by how few DOORS one can come with a TRAY from a ROOM to another one");
        PushSaidDoor x = Due.house("r8;d0,1,0,1;d1,2,2,1;d3,2,1,1;d3,4,0,1;d4,5,2,2;d6,5,1,1;d6,7,0,1;d0,7,1,1;p0,0;", 8);
        for (int room = 1; room <= 7; room++) {
            Due.is("to " + room, x.tray(0, room), room);
        }
        Due.is("to 0 at once", x.tray(7, 0), 1);
        Due.is("to 6 round", x.tray(7, 6), 7);
        x.hang(7);
        Due.is("to 7 at once", x.tray(0, 7), 1);
        Due.is("to 0 no more", x.tray(7, 0), NONE);
    }

    private static void trayByManyWays() {
        Due.sentence("by how few DOORS (of several ways)");
        PushSaidDoor x = Due.house("r8;d0,1,0,1;d0,2,0,1;d0,3,0,1;d1,4,0,1;d2,5,0,1;d3,6,0,1;d6,7,0,1;d2,7,1,1;p0,0;", 8);
        int[] few = {0, 1, 1, 1, 2, 2, 2, 3};
        for (int room = 0; room < 8; room++) {
            Due.is("to " + room, x.tray(0, room), few[room]);
        }
        x.hang(7);
        Due.is("to 7 by 2", x.tray(0, 7), 2);
        Due.is("not back", x.tray(7, 0), NONE);
    }

    private static void trayNone() {
        Due.sentence("TRAY .. none");
        PushSaidDoor x = Due.house("r4;d0,1,0,1;d2,1,0,1;p0,0;", 4);
        Due.is("a pull", x.tray(1, 0), NONE);
        Due.is("a push, then a pull", x.tray(0, 2), NONE);
        Due.is("no DOOR", x.tray(0, 3), NONE);
        Due.is("no DOOR", x.tray(3, 0), NONE);
        Due.is("a push", x.tray(0, 1), 1);
    }

    private static void trayInBounds() {
        Due.sentence("TRAY. NONE; BAD.");
        PushSaidDoor x = Due.house("r4;d0,1,0,1;p0,0;", 4);
        int[] none = {-1, 4, 8, 31, 32, Integer.MIN_VALUE, Integer.MAX_VALUE};
        for (int far : none) {
            Due.is("from " + far, x.tray(far, 0), BAD);
            Due.is("to " + far, x.tray(0, far), BAD);
            Due.is("both " + far, x.tray(far, far), BAD);
        }
        Due.is("the highest ROOM", x.tray(3, 3), 0);
    }
}
