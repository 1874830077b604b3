/** Promises 16 to 22: tell, noRow, along, way, learnt, spoilt, tray. */
public final class RowsTest {
    private static final int BAD = Due.BAD, FULL = Due.FULL, NONE = Due.NONE;

    public static void main(String[] args) {
        tellAndNoRow();
        along();
        alongChangesNothing();
        wayByTheLastDoor();
        wayByEightDoors();
        wayFirstDoors();
        wayByNoDoorButThese();
        wayBadAndNone();
        learnt();
        learntOfTwoLeaves();
        spoilt();
        tray();
        Due.end();
    }

    private static void tellAndNoRow() {
        PushSaidDoor x = new PushSaidDoor();
        Due.is("noRow of none", x.noRow(), 0);
        Due.is("tell(2)", x.tell(2), BAD);
        Due.is("tell(-1)", x.tell(-1), BAD);
        for (int k = 1; k <= 12; k++) {
            Due.is("tell", x.tell(k % 2), k);
        }
        Due.is("the 13th", x.tell(0), FULL);
        Due.is("a bad 13th", x.tell(2), BAD);
        Due.is("count(3)", x.count(3), 12);
        Due.is("noRow", x.noRow(), 12);
        Due.is("count(3)", x.count(3), 0);
        Due.is("tell again", x.tell(1), 1);
    }

    private static void along() {
        PushSaidDoor x = Due.house("r3;d0,1,0,1;d2,1,0,2;s0,0,1;w6,0,0,0,3,5;p0,0;p2,1;p1,1;", 3);
        Due.is("along none", x.along(0), 0);
        x.tell(0);
        // pull 7, push 1: 7 by 8
        Due.is("along one", x.along(0), 875);
        Due.is("not beside", x.along(1), NONE);
        Due.is("a pull with a TRAY", x.along(2), NONE);
        x.tell(1);
        // the last WANTED a push: push 4, pull 1; a pull is WANTED: 4 by 5, and 1 by 2
        Due.is("along two", x.along(0), 875 + 1300);
        x.tell(1);
        // gone once from the SIDE in 1 (SIGNS 0, a pull), the last one too: a push is WANTED: 4 by 5, and 1 by 3
        Due.is("along three", x.along(0), 875 + 1300 + 1133);
        x.tell(0);
        // SIDE 1 of 0 has SIGNS 0: 5 to pull by SIDE 1 of 1, 5 to push by its SIDE 0, 3 to push: push 9, pull 6
        Due.is("along four", x.along(0), 875 + 1300 + 1133 + 600);
        x.noRow();
        x.tell(1);
        // with a TRAY a push is WANTED: only the bolt
        Due.is("along with a TRAY", x.along(1), 500);
        Due.is("along(3)", x.along(3), BAD);
        Due.is("along(-1)", x.along(-1), BAD);
    }

    private static void alongChangesNothing() {
        PushSaidDoor x = Due.house("r2;d0,1,0,1;w0,0,0,0,5,5;p0,0;", 2);
        for (int k = 0; k < 12; k++) {
            x.tell(0);
        }
        int first = x.along(0);
        Due.is("along again", x.along(0), first);
        Due.is("his room", x.person(0, 0), 0);
        Due.is("his last", x.person(0, 2), NONE);
        Due.is("his times", x.times(0, 0, 0), 0);
        Due.is("nothing to undo", x.count(5), 0);
        x.go(0, 0);
        // from the other SIDE: push 6 by the last one, a pull is WANTED: 6 by 7
        x.noRow();
        x.tell(0);
        Due.is("from where he is now", x.along(0), 857);
    }

    private static void wayByTheLastDoor() {
        // by 0 (a push first) the DOOR behind it, which WANTS a push, is 1 by 22, else 1 by 2
        PushSaidDoor x = Due.house("r4;d0,1,0,1;d0,1,1,1;d1,2,0,1;d0,2,1,1;s0,0,2;s1,0,1;w19,19,0,0,20,0;p0,0;p2,0;p3,0;", 4);
        Due.is("way(0, 2, 0)", x.way(0, 2, 0), 47 + 45);
        Due.is("way(0, 2, 1)", x.way(0, 2, 1), 0);
        Due.is("way(0, 1, 1)", x.way(0, 1, 1), 0);
        Due.is("nobody went", x.times(0, 0, 0), 0);
        x.put(0, 0, 0);
        // 47 by 1, a pull, then back by 0, a pull: 45, then by 3, a pull: 45; at once by 3 it is 500
        Due.is("way(0, 2, 0)", x.way(0, 2, 0), 47 + 45 + 45);
        Due.is("way(0, 2, 1)", x.way(0, 2, 1), 1);
        Due.is("way(0, 1, 0)", x.way(0, 1, 0), 47);
        Due.is("way(0, 1, 1)", x.way(0, 1, 1), 1);
        // his own last one counts for the first DOOR: by 3 back to 0, a push WANTED, nothing behind
        x.go(1, 3);
        Due.is("of another PERSON", x.way(1, 1, 0), 45);
        Due.is("of another PERSON", x.way(1, 1, 1), 0);
    }

    private static void wayByEightDoors() {
        // a row of ROOMS; the way round is 7 DOORS of nothing, the short one a DOOR of 500
        PushSaidDoor x = Due.house("r8;d0,1,2,1;d1,2,2,1;d2,3,2,1;d3,4,2,1;d4,5,2,1;d5,6,2,1;d6,7,2,1;d0,7,0,1;p0,0;p7,1;", 8);
        Due.is("seven DOORS", x.way(0, 7, 0), 0);
        Due.is("the first of them", x.way(0, 7, 1), 0);
        Due.is("with a TRAY not by a pull", x.way(1, 0, 1), 6);
        // there and back by a DOOR with PLATE and GRIP is 45 and 222, and makes the pull behind it 142, not 500;
        // that pays at the start (DOOR 3 ahead of 0) and at the end (4 ahead of 5): eight DOORS in all
        PushSaidDoor y = Due.house("r7;d0,1,1,1;d1,2,2,1;d2,3,2,1;d0,4,0,1;d3,5,0,1;d3,6,1,1;"
                + "s3,0,2;s3,1,1;s4,0,2;s4,1,1;w20,20,0,0,5,0;p0,0;", 7);
        Due.is("eight DOORS", y.way(0, 6, 0), 409 + 409);
        Due.is("the first of eight", y.way(0, 6, 1), 3);
        // with one ROOM more between it would be nine, so only one of the two detours is made
        PushSaidDoor z = Due.house("r8;d0,1,1,1;d1,2,2,1;d2,3,2,1;d3,4,2,1;d0,5,0,1;d4,6,0,1;d4,7,1,1;"
                + "s4,0,2;s4,1,1;s5,0,2;s5,1,1;w20,20,0,0,5,0;p0,0;", 8);
        Due.is("not nine DOORS", z.way(0, 7, 0), 409 + 500);
        Due.is("the lowest first of both", z.way(0, 7, 1), 0);
    }

    private static void wayFirstDoors() {
        PushSaidDoor x = Due.house("r3;d1,2,2,1;d0,2,2,1;d0,1,2,1;d0,2,2,1;p0,0;", 3);
        Due.is("nothing on both", x.way(0, 2, 0), 0);
        Due.is("the lowest first", x.way(0, 2, 1), 1);
        Due.is("the lowest first to 1", x.way(0, 1, 1), 1);
    }

    /** A smaller house behind a larger one: what the larger one's DOORS were does not lead on. */
    private static void wayByNoDoorButThese() {
        PushSaidDoor x = Due.house("d0,1,2,1;d0,1,2,1;d0,1,2,1;d0,1,2,1;d0,1,2,1;d0,1,2,1;d0,1,2,1;d0,1,2,1;p1,0;", 3);
        Due.is("either way, one is never WRONG", x.way(0, 0, 0), 0);
        Due.tell(x, "r3;d1,0,1,1;d0,2,0,1;w0,0,0,0,20,0;p1,0;");
        Due.is("lay", x.lay(), 3);
        // a pull by 1 of 2; it was the last, so that push 1, pull 21: a push is WANTED, 21 of 22
        Due.is("by both DOORS", x.way(0, 2, 0), 500 + 954);
        Due.is("by DOOR 0 first", x.way(0, 2, 1), 0);
        x.go(0, 0);
        Due.is("by DOOR 1 alone", x.way(0, 2, 0), 954);
        Due.is("by DOOR 1 first", x.way(0, 2, 1), 1);
    }

    private static void wayBadAndNone() {
        PushSaidDoor x = new PushSaidDoor();
        Due.is("there", x.way(0, 0, 0), 0);
        Due.is("there, no DOOR", x.way(0, 0, 1), NONE);
        Due.is("with a TRAY", x.way(1, 0, 0), NONE);
        Due.is("with a TRAY", x.way(1, 0, 1), NONE);
        Due.is("way(2, 0, 0)", x.way(2, 0, 0), BAD);
        Due.is("way(-1, 0, 0)", x.way(-1, 0, 0), BAD);
        Due.is("way(0, 3, 0)", x.way(0, 3, 0), BAD);
        Due.is("way(0, -1, 0)", x.way(0, -1, 0), BAD);
        Due.is("way(0, 1, 2)", x.way(0, 1, 2), BAD);
        Due.is("way(0, 0, -1)", x.way(0, 0, -1), BAD);
        Due.is("BAD is ahead of NONE", x.way(1, 0, 2), BAD);
    }

    private static void learnt() {
        PushSaidDoor x = Due.house("r2;d0,1,0,1;d1,0,0,1;d0,1,2,1;s0,0,1;s0,1,3;s1,1,2;w9,0,0,0,20,1;p0,0;p0,1;", 2);
        // pull 10, push 1 and t: 10 by 11 and t
        Due.is("of 90", x.learnt(0, 0, 0, 90), 0);
        Due.is("of 89", x.learnt(0, 0, 0, 89), 1);
        Due.is("of 10", x.learnt(0, 0, 0, 10), 80);
        Due.is("of 9", x.learnt(0, 0, 0, 9), 90);
        Due.is("of 8", x.learnt(0, 0, 0, 8), NONE);
        Due.is("with a TRAY alike", x.learnt(1, 0, 0, 10), 80);
        Due.is("a pull with a TRAY", x.learnt(1, 0, 1, 9), 0);
        Due.is("a pull with a TRAY", x.learnt(1, 0, 1, 8), 1);
        Due.is("either way", x.learnt(0, 2, 1, 0), 0);
        x.go(0, 0);
        x.go(0, 1);
        // in place of those so far, and no last one
        Due.is("of 10 still", x.learnt(0, 0, 0, 10), 80);
        Due.is("of 90 still", x.learnt(0, 0, 0, 90), 0);
        // one time from another SIDE of the same SIGNS stays: a push by DOOR 1 from SIDE 0
        x.put(1, 0, 1);
        Due.is("by another DOOR too", x.learnt(0, 0, 0, 10), 79);
        Due.is("his times stay", x.times(0, 0, 0), 1);
        Due.is("his last stays", x.person(0, 2), 0);
        Due.is("learnt(2, ..)", x.learnt(2, 0, 0, 0), BAD);
        Due.is("learnt(-1, ..)", x.learnt(-1, 0, 0, 0), BAD);
        Due.is("learnt(0, 3, ..)", x.learnt(0, 3, 0, 0), BAD);
        Due.is("learnt(0, -1, ..)", x.learnt(0, -1, 0, 0), BAD);
        Due.is("learnt(0, 0, 2, ..)", x.learnt(0, 0, 2, 0), BAD);
        Due.is("learnt(0, 0, -1, ..)", x.learnt(0, 0, -1, 0), BAD);
        Due.is("learnt(.., 100)", x.learnt(0, 0, 0, 100), BAD);
        Due.is("learnt(.., -1)", x.learnt(0, 0, 0, -1), BAD);
    }

    private static void learntOfTwoLeaves() {
        PushSaidDoor x = Due.house("r2;d0,1,2,2;w0,0,0,0,0,0;p0,0;p0,0;", 2);
        // 1 by 2 and t: of a hundred, cut
        Due.is("of 99", x.learnt(0, 0, 0, 99), 0);
        Due.is("of 50", x.learnt(0, 0, 0, 50), 0);
        Due.is("of 49", x.learnt(0, 0, 0, 49), 1);
        Due.is("of 1", x.learnt(0, 0, 0, 1), 49);
        Due.is("of 0", x.learnt(0, 0, 0, 0), 99);
        x.go(0, 0);
        x.go(0, 0);
        // the time from the other SIDE counts besides
        Due.is("of 0 by one back", x.learnt(0, 0, 0, 0), 98);
        Due.is("of 0 of the other PERSON", x.learnt(1, 0, 0, 0), 99);
    }

    private static void spoilt() {
        PushSaidDoor x = Due.house("r2;d0,1,0,1;d0,1,1,1;d0,1,0,2;s0,0,2;s1,0,2;s2,0,2;s1,1,4;w0,3,0,0,4,1;p0,0;p1,1;", 2);
        // push 4, pull 1: 200; 10 to pull more: 11 by 15
        Due.is("by a pull", x.spoilt(0, 0, 0, 1, 0), 733 - 200);
        Due.is("with a TRAY alike", x.spoilt(1, 0, 0, 1, 0), 533);
        Due.is("by a push: less", x.spoilt(0, 0, 0, 2, 0), 0);
        Due.is("other SIGNS", x.spoilt(0, 0, 0, 1, 1), 0);
        Due.is("a pull by a push", x.spoilt(0, 1, 0, 0, 0), 933 - 800);
        Due.is("two LEAVES", x.spoilt(0, 2, 0, 1, 0), 1233 - 700);
        x.go(0, 0);
        // the last one WANTED a push and stays it: push 9, pull 1: 100; push 9, pull 11: 550
        Due.is("by his last one", x.spoilt(0, 0, 0, 1, 0), 450);
        Due.is("his times stay", x.times(0, 1, 0), 0);
        int[][] bad = {{2, 0, 0, 1, 0}, {-1, 0, 0, 1, 0}, {0, 3, 0, 1, 0}, {0, -1, 0, 1, 0}, {0, 0, 2, 1, 0},
            {0, 0, -1, 1, 0}, {0, 0, 0, 3, 0}, {0, 0, 0, -1, 0}, {0, 0, 0, 1, 2}, {0, 0, 0, 1, -1},
            {0, 0, 0, 0, 0}, {0, 0, 0, 0, 1}};
        for (int[] b : bad) {
            Due.is("bad spoilt", x.spoilt(b[0], b[1], b[2], b[3], b[4]), BAD);
        }
        spoiltAtMost();
    }

    private static void spoiltAtMost() {
        PushSaidDoor x = Due.house("r2;d0,1,0,1;d0,1,1,1;s0,0,6;s1,0,6;s0,1,1;s1,1,2;w0,20,20,0,0,1;p0,0;", 2);
        for (int k = 0; k < 95; k++) {
            x.go(0, 1);
            x.go(0, 0);
        }
        // push 41; pull 96: 700; pull 100 by 99 times: 709 (106 by 105 times would be 721)
        Due.is("times", x.times(0, 1, 0), 95);
        Due.is("99 at most", x.spoilt(0, 0, 0, 1, 0), 9);
    }

    private static void tray() {
        PushSaidDoor x = Due.house("r6;d0,1,0,1;d2,1,1,1;d2,3,2,2;d0,3,1,1;d3,4,0,1;p0,0;", 6);
        Due.is("the same", x.tray(5, 5), 0);
        Due.is("by a push", x.tray(0, 1), 1);
        Due.is("by a pull", x.tray(1, 0), 3);
        Due.is("two pushes", x.tray(0, 2), 2);
        Due.is("either way", x.tray(2, 3), 1);
        Due.is("either way back", x.tray(3, 2), 1);
        Due.is("three", x.tray(0, 3), 3);
        Due.is("four", x.tray(0, 4), 4);
        Due.is("not back", x.tray(4, 3), NONE);
        Due.is("no DOOR", x.tray(0, 5), NONE);
        x.hang(3);
        Due.is("hung the other way", x.tray(0, 3), 1);
        Due.is("hung the other way", x.tray(3, 0), NONE);
        Due.is("tray(6, 0)", x.tray(6, 0), BAD);
        Due.is("tray(-1, 0)", x.tray(-1, 0), BAD);
        Due.is("tray(0, 6)", x.tray(0, 6), BAD);
        Due.is("tray(0, -1)", x.tray(0, -1), BAD);
        PushSaidDoor y = Due.house("r8;d0,1,0,1;d1,2,0,1;d2,3,0,1;d3,4,0,1;d4,5,0,1;d5,6,0,1;d6,7,0,1;p0,0;", 8);
        Due.is("seven", y.tray(0, 7), 7);
        Due.is("none back", y.tray(7, 0), NONE);
    }
}
