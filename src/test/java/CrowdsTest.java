/** Promises 27 to 34: crowd, film, forget, fits, day, keep, back, count. */
public final class CrowdsTest {
    private static final int BAD = Due.BAD, NO = Due.NO, FULL = Due.FULL, NONE = Due.NONE;

    public static void main(String[] args) {
        crowdByOne();
        crowdByAll();
        crowdBad();
        films();
        fits();
        fitsByGripAlone();
        day();
        dayBad();
        keepAndBack();
        keptButRowAndFilms();
        count();
        Due.end();
    }

    private static void crowdByOne() {
        PushSaidDoor x = Due.house("r2;d0,1,0,1;d0,1,0,2;d0,1,2,2;d0,1,0,2;s3,0,1;s3,1,2;s2,0,63;w1,1,0,0,0,0;p0,0;", 2);
        int[] n = {1, 5, 6, 10, 11, 12, 13, 99};
        int[] oneLeaf = {1, 5, 6, 10, 11, 12, 13, 99};
        int[] twoLeaves = {1, 5, 6, 10, 11, 11, 12, 55};
        int[] twoLate = {4, 8, 9, 13, 14, 14, 15, 58};
        for (int k = 0; k < n.length; k++) {
            Due.is("one leaf " + n[k], x.crowd(n[k], 0, 0), oneLeaf[k]);
            Due.is("two LEAVES " + n[k], x.crowd(n[k], 0, 1), twoLeaves[k]);
            Due.is("either way " + n[k], x.crowd(n[k], 0, 2), twoLeaves[k]);
            Due.is("either way " + n[k], x.crowd(n[k], 1, 2), twoLeaves[k]);
            Due.is("by less than 1 of 2 " + n[k], x.crowd(n[k], 0, 3), twoLate[k]);
            Due.is("a pull " + n[k], x.crowd(n[k], 1, 1), n[k] > 5 ? NONE : n[k]);
            Due.is("a pull, late " + n[k], x.crowd(n[k], 1, 3), n[k] > 5 ? NONE : n[k] + 3);
        }
        x.put(0, 0, 1);
        Due.is("one leaf, late", x.crowd(99, 0, 0), 102);
        x.put(0, 0, 3);
        Due.is("just 1 of 2", x.crowd(99, 0, 0), 99);
    }

    private static void crowdByAll() {
        PushSaidDoor x = Due.house("r5;d0,1,0,1;d0,1,0,2;d0,2,1,1;d3,0,0,1;s0,0,1;p0,0;", 5);
        // late by 0, by 1 two from the eleventh one on, 5 at most by 2 and by 3 each
        int[] n = {1, 3, 4, 9, 10, 13, 14, 16, 22, 28, 31, 99};
        int[] seconds = {1, 1, 2, 3, 4, 4, 5, 5, 8, 11, 12, 34};
        for (int k = 0; k < n.length; k++) {
            Due.is("all, " + n[k], x.crowd(n[k], 0, -1), seconds[k]);
        }
        Due.is("by two that WANT a pull", x.crowd(10, 1, -1), 5);
        Due.is("no more", x.crowd(11, 1, -1), NONE);
        Due.is("a ROOM without DOORS", x.crowd(1, 4, -1), NONE);
    }

    private static void crowdBad() {
        PushSaidDoor x = new PushSaidDoor();
        Due.is("not beside", x.crowd(1, 2, 0), NO);
        Due.is("NO is ahead of NONE", x.crowd(99, 0, 1), NO);
        Due.is("crowd(0, ..)", x.crowd(0, 0, 0), BAD);
        Due.is("crowd(100, ..)", x.crowd(100, 0, 0), BAD);
        Due.is("crowd(-1, ..)", x.crowd(-1, 0, -1), BAD);
        Due.is("crowd(1, 3, 0)", x.crowd(1, 3, 0), BAD);
        Due.is("crowd(1, -1, -1)", x.crowd(1, -1, -1), BAD);
        Due.is("crowd(1, 0, 2)", x.crowd(1, 0, 2), BAD);
        Due.is("crowd(1, 0, -2)", x.crowd(1, 0, -2), BAD);
        Due.is("BAD is ahead of NO", x.crowd(0, 0, 1), BAD);
    }

    private static void films() {
        PushSaidDoor x = new PushSaidDoor();
        Due.is("forget none", x.forget(), 0);
        int[][] bad = {{2, 0, 1, 2}, {-1, 0, 1, 2}, {0, 2, 1, 2}, {0, -1, 1, 2}, {0, 0, -1, 2}, {0, 0, 3, 2},
            {0, 0, 0, 0}, {0, 0, 51, 51}, {0, 0, 50, 51}, {0, 0, 0, -1}};
        for (int[] b : bad) {
            Due.is("bad film", x.film(b[0], b[1], b[2], b[3]), BAD);
        }
        Due.is("film", x.film(0, 0, 50, 50), 1);
        Due.is("film", x.film(1, 1, 0, 1), 2);
        Due.is("film", x.film(1, 0, 1, 1), 3);
        for (int k = 4; k <= 8; k++) {
            Due.is("film", x.film(0, 1, 0, 50), k);
        }
        Due.is("the ninth", x.film(0, 1, 0, 50), FULL);
        Due.is("a bad ninth", x.film(0, 1, 2, 1), BAD);
        Due.is("count(4)", x.count(4), 8);
        Due.is("forget", x.forget(), 8);
        Due.is("count(4)", x.count(4), 0);
        Due.is("fits any", x.fits(0, 0), 21);
        Due.is("film again", x.film(0, 0, 1, 50), 1);
    }

    private static void fits() {
        PushSaidDoor x = Due.house("r2;d0,1,0,1;s0,0,3;w6,9,0,0,0,0;p0,0;", 2);
        Due.is("no FILM", x.fits(0, 0), 21);
        Due.is("no FILM", x.fits(0, 1), 0);
        x.film(0, 0, 1, 3);
        // pull 1 + G, push 10: 33 by G 4 (5 by 15)
        Due.is("fits(0, 0)", x.fits(0, 0), 1);
        Due.is("fits(0, 1)", x.fits(0, 1), 4);
        // 28 by 3, 37 by 5, 23 by 2, 41 by 6
        Due.is("fits(3, 0)", x.fits(3, 0), 1);
        Due.is("fits(4, 0)", x.fits(4, 0), 2);
        Due.is("fits(4, 1)", x.fits(4, 1), 4);
        Due.is("fits(5, 0)", x.fits(5, 0), 3);
        Due.is("fits(5, 1)", x.fits(5, 1), 3);
        Due.is("fits(99, 0)", x.fits(99, 0), 21);
        Due.is("GRIP does as before", x.does(0), 6);
        x.film(0, 0, 1, 2);
        // 50 by 9; all of both within 8: 41 by 6 is 8 and 9 away, 44 by 7 is 11 and 6
        Due.is("both", x.fits(8, 0), 0);
        Due.is("both", x.fits(8, 1), NONE);
        Due.is("both", x.fits(9, 0), 1);
        Due.is("both", x.fits(9, 1), 6);
        Due.is("fits(-1, 0)", x.fits(-1, 0), BAD);
        Due.is("fits(100, 0)", x.fits(100, 0), BAD);
        Due.is("fits(0, 2)", x.fits(0, 2), BAD);
        Due.is("fits(0, -1)", x.fits(0, -1), BAD);
    }

    private static void fitsByGripAlone() {
        PushSaidDoor x = Due.house("r2;d0,1,0,1;s0,0,36;s0,1,9;w20,0,7,0,0,0;p0,0;", 2);
        // no GRIP on SIDE 0: push 8, pull 1 + 3: 33 by any G; of a hundred 2 of 6 are 33, 3 of 8 are 37
        x.film(0, 0, 2, 6);
        Due.is("without GRIP", x.fits(0, 0), 21);
        x.film(0, 0, 3, 8);
        Due.is("37 and 33", x.fits(3, 0), 0);
        Due.is("37 and 33", x.fits(4, 0), 21);
        Due.is("the lowest", x.fits(4, 1), 0);
        x.forget();
        // SIGNS of now: pull 1 + G of 9 + G
        x.put(0, 0, 1 + 4);
        x.film(0, 0, 20, 50);
        Due.is("SIGNS of now", x.fits(2, 1), 4);
    }

    private static void day() {
        PushSaidDoor x = Due.house("r2;d0,1,0,1;d0,1,2,2;s0,0,1;s0,1,3;s1,0,63;p0,0;", 2);
        int[] zs = {0, 1, 77, 5000, 9999};
        for (int z : zs) {
            for (int d = 0; d < 2; d++) {
                for (int e = 0; e < 2; e++) {
                    dayIs(x, z, 1, d, e);
                    dayIs(x, z, 2, d, e);
                    dayIs(x, z, 99, d, e);
                }
            }
        }
        // q is 1, so DRAW 0: a pull is tried first
        Due.is("z 0, one STRANGER", x.day(0, 1, 0, 0, 0), 1);
        Due.is("z 0, one STRANGER", x.day(0, 1, 0, 1, 0), 0);
        Due.is("z 0, one STRANGER", x.day(0, 1, 0, 1, 1), 1);
    }

    private static void dayIs(PushSaidDoor x, int z, int n, int d, int e) {
        int push = x.weighs(0, d, e, 0);
        int pull = x.weighs(0, d, e, 1);
        int want = x.door(d, 6 + e);
        int wrong = 0;
        int pulls = 0;
        for (int k = 0; k < n; k++) {
            java.math.BigInteger q = java.math.BigInteger.valueOf(7919L * z + 6151L * k + 1);
            int draw = q.multiply(q).mod(java.math.BigInteger.valueOf(65521)).intValue() / 16;
            boolean pullFirst = draw % (push + pull) < pull;
            boolean isWrong = want == 0 && pullFirst || want == 1 && !pullFirst;
            wrong += isWrong ? 1 : 0;
            pulls += pullFirst || isWrong && want == 1 ? 1 : 0;
        }
        Due.is("day " + z + " of " + n, x.day(z, n, d, e, 0), wrong);
        Due.is("pulls of day " + z + " of " + n, x.day(z, n, d, e, 1), pulls);
    }

    private static void dayBad() {
        PushSaidDoor x = new PushSaidDoor();
        int[][] bad = {{-1, 1, 0, 0, 0}, {10000, 1, 0, 0, 0}, {0, 0, 0, 0, 0}, {0, 100, 0, 0, 0}, {0, 1, 2, 0, 0},
            {0, 1, -1, 0, 0}, {0, 1, 0, 2, 0}, {0, 1, 0, -1, 0}, {0, 1, 0, 0, 2}, {0, 1, 0, 0, -1}};
        for (int[] b : bad) {
            Due.is("bad day", x.day(b[0], b[1], b[2], b[3], b[4]), BAD);
        }
    }

    private static void keepAndBack() {
        PushSaidDoor x = Due.house("r2;d0,1,0,1;d0,1,1,2;p0,0;p0,0;", 2);
        Due.is("nothing kept", x.back(), NO);
        Due.is("keep", x.keep(), 1);
        x.go(0, 0);
        x.put(0, 1, 7);
        Due.is("keep the second", x.keep(), 2);
        Due.is("what can be undone stays", x.count(5), 2);
        Due.is("keep the third", x.keep(), FULL);
        Due.is("count(6)", x.count(6), 2);
        x.hang(0);
        x.go(1, 1);
        x.put(0, 1, 9);
        Due.is("back", x.back(), 1);
        Due.is("hung as kept", x.door(0, 2), 0);
        Due.is("SIGNS as kept", x.door(0, 5), 7);
        Due.is("he is where he was", x.person(1, 0), 0);
        Due.is("the other one too", x.person(0, 0), 1);
        Due.is("his times", x.times(0, 0, 0), 1);
        Due.is("nobody's times", x.times(1, 1, 0), 0);
        Due.is("his last", x.person(0, 2), 0);
        Due.is("nothing is UNDONE", x.undo(), NO);
        x.hang(1);
        Due.is("keep again", x.keep(), 2);
        Due.is("back to it", x.back(), 1);
        Due.is("hung as kept", x.door(1, 2), 0);
        Due.is("back to the first", x.back(), 0);
        Due.is("hung as first", x.door(1, 2), 1);
        Due.is("SIGNS as first", x.door(0, 5), 0);
        Due.is("his room", x.person(0, 0), 0);
        Due.is("his last", x.person(0, 2), NONE);
        Due.is("his times", x.times(0, 0, 0), 0);
        Due.is("no more", x.back(), NO);
    }

    private static void keptButRowAndFilms() {
        PushSaidDoor x = Due.house("r2;d0,1,0,1;p0,0;", 2);
        x.tell(0);
        x.film(0, 0, 1, 2);
        x.keep();
        x.tell(0);
        x.tell(0);
        x.film(0, 0, 1, 3);
        x.write('z');
        x.hang(0);
        Due.is("back", x.back(), 0);
        Due.is("the row is as it is", x.count(3), 3);
        Due.is("the FILMS are as they are", x.count(4), 2);
        Due.is("THE TEXT is as it is", x.count(7), 18);
    }

    private static void count() {
        PushSaidDoor x = Due.house("r7;d0,1,0,1;d2,6,2,2;d3,4,1,1;p0,0;p1,0;p2,0;p3,1;", 7);
        x.tell(0);
        x.tell(1);
        x.film(0, 0, 1, 2);
        x.film(0, 0, 1, 2);
        x.film(0, 0, 1, 2);
        x.hang(0);
        x.keep();
        int[] due = {7, 3, 4, 2, 3, 1, 1, 50};
        for (int k = 0; k < due.length; k++) {
            Due.is("count(" + k + ")", x.count(k), due[k]);
        }
        Due.is("count(-1)", x.count(-1), BAD);
        Due.is("count(8)", x.count(8), BAD);
        Due.is("count(most)", x.count(Integer.MAX_VALUE), BAD);
    }
}
