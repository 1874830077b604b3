/** Promises 10 to 15: weighs, wrong, go, put, hang, undo. */
public final class HandsTest {
    private static final int BAD = Due.BAD, NO = Due.NO, NONE = Due.NONE;

    public static void main(String[] args) {
        eachSignWeighs();
        lastDoorWeighs();
        timesWeigh();
        wrong();
        wrongOfTwoLeaves();
        wrongWithTray();
        badNumbers();
        go();
        goIsOfOnePerson();
        goNinetyNineTimes();
        putAndHang();
        undo();
        undoEightAtMost();
        Due.end();
    }

    private static void weighs(PushSaidDoor x, int i, int d, int e, int push, int pull) {
        Due.is("push of " + i + " at " + d + "," + e, x.weighs(i, d, e, 0), push);
        Due.is("pull of " + i + " at " + d + "," + e, x.weighs(i, d, e, 1), pull);
    }

    private static void wrongIs(PushSaidDoor x, int i, int d, int e, int above, int below) {
        Due.is("above of " + i + " at " + d + "," + e, x.wrong(i, d, e, 0), above);
        Due.is("below of " + i + " at " + d + "," + e, x.wrong(i, d, e, 1), below);
    }

    private static void eachSignWeighs() {
        PushSaidDoor x = Due.house("r2;d0,1,0,1;d0,1,2,1;w3,5,7,11,13,17;p0,0;p1,1;", 2);
        weighs(x, 0, 0, 0, 1, 1);
        int[] push = {1, 6, 8, 1, 12, 1};
        int[] pull = {4, 1, 1, 8, 1, 1};
        for (int k = 0; k < 6; k++) {
            x.put(0, 0, 1 << k);
            weighs(x, 0, 0, 0, push[k], pull[k]);
            weighs(x, 1, 0, 0, push[k], pull[k]);
        }
        x.put(0, 1, 16);
        weighs(x, 0, 0, 1, 1, 12);
        x.put(1, 0, 16);
        weighs(x, 0, 1, 0, 1, 1);
        // through GLASS the words of the other SIDE say 7 by 2, cut, and nothing else shines through
        x.put(0, 0, 32);
        x.put(0, 1, 63 - 4);
        weighs(x, 0, 0, 0, 1, 4);
        x.put(0, 1, 63 - 8);
        weighs(x, 0, 0, 0, 4, 1);
        x.put(0, 1, 12);
        weighs(x, 0, 0, 0, 4, 4);
        x.put(0, 0, 63);
        weighs(x, 0, 0, 0, 1 + 5 + 7 + 11 + 3, 1 + 3 + 7 + 3);
        x.put(0, 0, 31);
        weighs(x, 0, 0, 0, 1 + 5 + 7 + 11, 1 + 3 + 7);
    }

    private static void lastDoorWeighs() {
        PushSaidDoor x = Due.house("r2;d0,1,0,1;d1,0,1,1;d0,1,2,1;s0,0,1;s1,0,2;s2,0,3;s0,1,4;s1,1,8;s2,1,12;w0,0,0,0,13,0;p0,0;", 2);
        x.go(0, 0);
        weighs(x, 0, 0, 0, 14, 1);
        weighs(x, 0, 1, 1, 14, 1);
        Due.is("go by a DOOR to be pulled", x.go(0, 1), 0);
        weighs(x, 0, 0, 0, 1, 14);
        x.hang(1);
        weighs(x, 0, 0, 0, 1, 14);
        x.go(0, 2);
        weighs(x, 0, 0, 0, 1, 1);
    }

    private static void timesWeigh() {
        PushSaidDoor x = Due.house("r2;d0,1,0,1;d1,0,0,1;d0,1,1,1;d0,1,2,1;s0,0,1;s0,1,1;s1,1,1;s2,0,3;s3,0,1;w0,0,0,0,0,7;p0,0;", 2);
        x.go(0, 0);
        x.go(0, 1);
        x.go(0, 0);
        // twice by 0 from SIDE 0 (a push; SIGNS 1), once by 1 from SIDE 0 (a push; none)
        weighs(x, 0, 0, 0, 15, 1);
        // the other SIDE of the same DOOR has the same SIGNS, but it is no other DOOR
        weighs(x, 0, 0, 1, 1, 1);
        weighs(x, 0, 1, 0, 8, 1);
        weighs(x, 0, 1, 1, 15, 1);
        weighs(x, 0, 2, 0, 1, 1);
        weighs(x, 0, 2, 1, 8, 1);
        weighs(x, 0, 3, 0, 15, 1);
        weighs(x, 0, 3, 1, 8, 1);
        // by what it WANTS there now, and by the SIGNS of now
        x.hang(0);
        weighs(x, 0, 0, 0, 1, 15);
        weighs(x, 0, 3, 0, 1, 15);
        x.put(2, 0, 1);
        weighs(x, 0, 2, 0, 1, 15);
        x.put(0, 0, 5);
        weighs(x, 0, 2, 0, 1, 1);
        weighs(x, 0, 0, 0, 1, 15);
        // went by one of either way: nothing is done
        x.go(0, 3);
        weighs(x, 0, 3, 1, 8, 1);
        weighs(x, 0, 3, 0, 1, 1);
    }

    private static void wrong() {
        PushSaidDoor x = Due.house("r2;d0,1,0,1;d0,1,2,1;s0,0,3;s0,1,2;s1,0,63;w3,8,0,0,0,0;p0,0;p1,0;", 2);
        wrongIs(x, 0, 0, 0, 4, 13);
        wrongIs(x, 1, 0, 0, 4, 13);
        wrongIs(x, 0, 0, 1, 9, 10);
        wrongIs(x, 0, 1, 0, 0, 1);
        x.put(0, 0, 1);
        wrongIs(x, 0, 0, 0, 4, 5);
        x.put(0, 0, 0);
        wrongIs(x, 0, 0, 0, 1, 2);
    }

    private static void wrongOfTwoLeaves() {
        PushSaidDoor x = Due.house("r2;d0,1,2,2;d0,1,0,2;s1,0,2;s1,1,4;w3,8,0,0,0,0;p0,0;p0,1;", 2);
        wrongIs(x, 0, 0, 0, 1, 2);
        wrongIs(x, 0, 1, 0, 3, 5);
        wrongIs(x, 1, 1, 0, 1, 2);
        wrongIs(x, 0, 1, 1, 1, 1);
        x.go(0, 1);
        wrongIs(x, 0, 1, 0, 13, 30);
        x.go(0, 1);
        // from both SIDES: 1 by 4
        wrongIs(x, 0, 1, 0, 7, 20);
        wrongIs(x, 0, 0, 0, 1, 2);
        x.go(0, 0);
        wrongIs(x, 0, 0, 1, 1, 3);
        wrongIs(x, 1, 1, 0, 1, 2);
    }

    private static void wrongWithTray() {
        PushSaidDoor x = Due.house("r2;d0,1,0,1;d0,1,2,1;d1,0,0,2;s0,0,1;p1,1;", 2);
        wrongIs(x, 0, 0, 0, 0, 1);
        wrongIs(x, 0, 0, 1, NONE, NONE);
        wrongIs(x, 0, 1, 1, 0, 1);
        wrongIs(x, 0, 2, 0, 1, 2);
        wrongIs(x, 0, 2, 1, NONE, NONE);
        Due.is("BAD is ahead of NONE", x.wrong(0, 0, 1, 2), BAD);
    }

    private static void badNumbers() {
        PushSaidDoor x = new PushSaidDoor();
        int[][] bad = {{2, 0, 0, 0}, {-1, 0, 0, 0}, {0, 2, 0, 0}, {0, -1, 0, 0}, {0, 0, 2, 0},
            {0, 0, -1, 0}, {0, 0, 0, 2}, {0, 0, 0, -1}, {0, Integer.MAX_VALUE, 0, 0}};
        for (int[] b : bad) {
            Due.is("bad weighs", x.weighs(b[0], b[1], b[2], b[3]), BAD);
            Due.is("bad wrong", x.wrong(b[0], b[1], b[2], b[3]), BAD);
        }
        Due.is("go(2, 0)", x.go(2, 0), BAD);
        Due.is("go(-1, 0)", x.go(-1, 0), BAD);
        Due.is("go(0, 2)", x.go(0, 2), BAD);
        Due.is("go(0, -1)", x.go(0, -1), BAD);
        Due.is("put(2, 0, 0)", x.put(2, 0, 0), BAD);
        Due.is("put(-1, 0, 0)", x.put(-1, 0, 0), BAD);
        Due.is("put(0, 2, 0)", x.put(0, 2, 0), BAD);
        Due.is("put(0, -1, 0)", x.put(0, -1, 0), BAD);
        Due.is("put(0, 0, 64)", x.put(0, 0, 64), BAD);
        Due.is("put(0, 0, -1)", x.put(0, 0, -1), BAD);
        Due.is("hang(2)", x.hang(2), BAD);
        Due.is("hang(-1)", x.hang(-1), BAD);
        Due.is("nothing changed", x.count(5), 0);
    }

    private static void go() {
        PushSaidDoor x = Due.house("r4;d0,1,0,1;d2,1,0,1;d3,2,2,2;p0,0;p1,1;p3,1;", 4);
        Due.is("not beside", x.go(0, 1), NO);
        Due.is("not beside", x.go(0, 2), NO);
        Due.is("go(0, 0)", x.go(0, 0), 1);
        Due.is("a pull without a TRAY", x.go(0, 1), 2);
        Due.is("a pull with a TRAY", x.go(1, 0), NO);
        Due.is("a pull with a TRAY", x.go(1, 1), NO);
        x.hang(1);
        Due.is("a push with a TRAY", x.go(1, 1), 2);
        Due.is("either with a TRAY", x.go(2, 2), 2);
        Due.is("either back with a TRAY", x.go(2, 2), 3);
        Due.is("times of the other", x.times(1, 2, 0), 0);
        Due.is("times(2, 2, 0)", x.times(2, 2, 0), 1);
        Due.is("times(2, 2, 1)", x.times(2, 2, 1), 1);
        Due.is("only what was gone can be undone", x.count(5), 6);
    }

    /** Five persons go by turns: each go is one time more of him who goes, and nothing of the others. */
    private static void goIsOfOnePerson() {
        PushSaidDoor x = Due.house("r2;d0,1,2,1;p0,0;p0,0;p0,0;p0,1;p0,0;", 2);
        int[] went = new int[5];
        // 36 letters, fault, wipe and lay, and 21 calls a turn: within the 512 of an object
        for (int turn = 0; turn < 20; turn++) {
            int i = turn * 7 % 5;
            Due.is("go of " + i, x.go(i, 0), 1 - went[i] % 2);
            went[i]++;
            for (int k = 0; k < 5; k++) {
                Due.is("times of " + k + " from A", x.times(k, 0, 0), (went[k] + 1) / 2);
                Due.is("times of " + k + " from B", x.times(k, 0, 1), went[k] / 2);
                Due.is("room of " + k, x.person(k, 0), went[k] % 2);
                Due.is("last of " + k, x.person(k, 2), went[k] == 0 ? NONE : 2);
            }
        }
    }

    private static void goNinetyNineTimes() {
        PushSaidDoor x = Due.house("r2;d0,1,0,2;w0,0,0,0,0,1;p0,0;", 2);
        for (int k = 1; k <= 101; k++) {
            Due.is("there", x.go(0, 0), 1);
            Due.is("times there", x.times(0, 0, 0), Math.min(k, 99));
            Due.is("back", x.go(0, 0), 0);
        }
        Due.is("times back", x.times(0, 0, 1), 99);
        Due.is("push", x.weighs(0, 0, 0, 0), 100);
        // 1/101 + 1/200
        wrongIs(x, 0, 0, 0, 301, 20200);
        x.undo();
        Due.is("undone at the most", x.times(0, 0, 1), 99);
        Due.is("in the room of then", x.person(0, 0), 1);
    }

    private static void putAndHang() {
        PushSaidDoor x = Due.house("r2;d0,1,0,1;d0,1,2,1;d0,1,1,1;s0,1,5;p0,0;", 2);
        Due.is("put", x.put(0, 1, 63), 5);
        Due.is("put again", x.put(0, 1, 0), 63);
        Due.is("the other SIDE", x.put(0, 0, 7), 0);
        Due.is("the first SIDE", x.door(0, 5), 0);
        Due.is("the other SIDE now", x.door(0, 4), 7);
        Due.is("hang(0)", x.hang(0), 1);
        Due.is("WANTS on SIDE 0", x.door(0, 6), 1);
        Due.is("WANTS on SIDE 1", x.door(0, 7), 0);
        Due.is("hang(0) again", x.hang(0), 0);
        Due.is("hang(2)", x.hang(2), 0);
        Due.is("hang of either way", x.hang(1), NO);
        Due.is("so many can be undone", x.count(5), 6);
    }

    private static void undo() {
        PushSaidDoor x = Due.house("r2;d0,1,0,1;d0,1,2,1;s0,1,5;p0,0;p1,0;", 2);
        Due.is("nothing to undo", x.undo(), NO);
        x.go(1, 0);
        x.go(1, 1);
        x.put(0, 1, 8);
        x.put(0, 1, 8);
        x.hang(0);
        x.go(0, 0);
        Due.is("of the go", x.undo(), 5);
        Due.is("his room", x.person(0, 0), 0);
        Due.is("his last", x.person(0, 2), NONE);
        Due.is("his times", x.times(0, 0, 0), 0);
        Due.is("of the hang", x.undo(), 4);
        Due.is("hung as before", x.door(0, 2), 0);
        Due.is("of the put that changed nothing", x.undo(), 3);
        Due.is("SIGNS", x.door(0, 5), 8);
        Due.is("of the put", x.undo(), 2);
        Due.is("SIGNS", x.door(0, 5), 5);
        Due.is("of the second go", x.undo(), 1);
        Due.is("his room", x.person(1, 0), 0);
        Due.is("his last", x.person(1, 2), 1);
        Due.is("his times", x.times(1, 1, 0), 0);
        Due.is("his times before", x.times(1, 0, 1), 1);
        Due.is("of the first go", x.undo(), 0);
        Due.is("his last", x.person(1, 2), NONE);
        Due.is("no more", x.undo(), NO);
    }

    private static void undoEightAtMost() {
        PushSaidDoor x = Due.house("r2;d0,1,0,1;p0,0;", 2);
        for (int k = 1; k <= 11; k++) {
            x.put(0, 0, k);
            Due.is("can be undone", x.count(5), Math.min(k, 8));
        }
        for (int k = 7; k >= 0; k--) {
            Due.is("undo", x.undo(), k);
            Due.is("SIGNS", x.door(0, 4), k + 3);
        }
        Due.is("the ninth", x.undo(), NO);
        Due.is("SIGNS stay", x.door(0, 4), 3);
        x.hang(0);
        Due.is("one more", x.count(5), 1);
        Due.is("and undone", x.undo(), 0);
        Due.is("hung as told", x.door(0, 2), 0);
    }
}
