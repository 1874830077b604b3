/** Promises 23 to 26: signs, hung, clash, worth. */
public final class SignsTest {
    private static final int BAD = Due.BAD, NONE = Due.NONE;

    public static void main(String[] args) {
        bestSigns();
        bestSignsByCost();
        bestSignsOfSeveral();
        hung();
        hungByHinges();
        clash();
        clashOfGlassAndHinges();
        worth();
        strangersAlone();
        Due.end();
    }

    private static void best(PushSaidDoor x, int d, int e, int c, int all, int cost) {
        Due.is("signs(" + d + ", " + e + ", " + c + ", 0)", x.signs(d, e, c, 0), all);
        Due.is("signs(" + d + ", " + e + ", " + c + ", 1)", x.signs(d, e, c, 1), cost);
    }

    private static void bestSigns() {
        PushSaidDoor x = Due.house("r2;d0,1,0,1;d0,1,0,2;s0,0,57;s0,1,63;c0,5;c1,4;c2,2;c3,1;p0,0;", 2);
        // a push: PLATE and PUSH stay, HINGES and GLASS as they are
        best(x, 0, 0, 99, 16 + 32 + 2 + 4, 6);
        best(x, 0, 0, 6, 54, 6);
        best(x, 0, 0, 5, 50, 4);
        best(x, 0, 0, 4, 50, 4);
        best(x, 0, 0, 3, 52, 2);
        best(x, 0, 0, 2, 52, 2);
        best(x, 0, 0, 1, 48, 0);
        best(x, 0, 0, 0, 48, 0);
        // a pull: GRIP and PULL
        best(x, 0, 1, 99, 48 + 1 + 8, 6);
        best(x, 0, 1, 5, 49, 5);
        best(x, 0, 1, 4, 56, 1);
        best(x, 1, 0, 99, 6, 6);
        best(x, 1, 1, 1, 8, 1);
        Due.is("the SIGNS stay", x.door(0, 4), 57);
        Due.is("nothing to undo", x.count(5), 0);
        int[][] bad = {{2, 0, 0, 0}, {-1, 0, 0, 0}, {0, 2, 0, 0}, {0, -1, 0, 0}, {0, 0, 100, 0},
            {0, 0, -1, 0}, {0, 0, 0, 2}, {0, 0, 0, -1}};
        for (int[] b : bad) {
            Due.is("bad signs", x.signs(b[0], b[1], b[2], b[3]), BAD);
        }
    }

    private static void bestSignsByCost() {
        // PLATE and PUSH do alike: the cheaper one
        PushSaidDoor x = Due.house("r2;d0,1,0,1;w4,4,4,0,0,0;c0,3;c1,3;c2,2;c3,2;p0,0;", 2);
        best(x, 0, 0, 4, 4, 2);
        best(x, 0, 0, 5, 6, 5);
        best(x, 0, 1, 4, 8, 2);
        // what nothing does is not put on, even for nothing
        PushSaidDoor y = Due.house("r2;d0,1,0,1;d0,1,2,2;w0,0,0,0,0,0;c0,0;c1,0;c2,0;c3,0;p0,0;", 2);
        best(y, 0, 0, 99, 0, 0);
        best(y, 1, 0, 99, 0, 0);
    }

    private static void bestSignsOfSeveral() {
        // alike and of one cost: the lowest
        PushSaidDoor x = Due.house("r2;d0,1,0,1;w4,4,4,0,0,0;p0,0;", 2);
        best(x, 0, 0, 3, 2, 3);
        best(x, 0, 1, 3, 1, 3);
        // all four stand against one another: 12 by 24 is just 1 by 2, so nothing is as good
        PushSaidDoor y = Due.house("r2;d0,1,0,1;w20,20,20,20,0,0;c0,20;c1,20;c2,20;c3,20;s0,0,16;p0,0;", 2);
        best(y, 0, 0, 99, 16 + 2 + 4, 40);
        // by less than a part of a thousand: 1 by 41 and 1 by 42, still less WRONG
        PushSaidDoor z = Due.house("r2;d0,1,0,1;w0,20,1,20,0,0;s0,0,16;c2,20;p0,0;", 2);
        best(z, 0, 0, 99, 22, 23);
        best(z, 0, 0, 22, 18, 3);
        // GLASS shows the word of the other SIDE, which stays
        PushSaidDoor g = Due.house("r2;d0,1,0,1;w0,0,9,0,0,0;s0,0,32;s0,1,8;p0,0;", 2);
        best(g, 0, 0, 99, 36, 3);
        Due.is("of the other SIDE", g.signs(0, 1, 99, 0), 8);
    }

    private static void hung() {
        PushSaidDoor x = Due.house("r2;d0,1,0,1;d0,1,1,1;d0,1,2,1;d0,1,0,2;d0,1,1,1;s0,0,1;s1,0,1;s2,0,1;s3,1,2;s3,0,8;w8,8,8,0,0,0;p0,0;", 2);
        // 0: 900 and 500, hung 100 and 500; 1: as it is; 3: 900 + 900 and 1000, hung 100 + 100 and 1000; 4: alike
        Due.is("hung(0)", x.hung(0), 1 + 8);
        Due.is("hung(1)", x.hung(1), 600 + 600 + 0 + 1200 + 1000);
        x.hang(0);
        Due.is("hung(0) then", x.hung(0), 8);
        Due.is("hung(1) then", x.hung(1), 3400);
        x.hang(1);
        Due.is("hung(0) then", x.hung(0), 2 + 8);
        Due.is("nothing is hung", x.door(1, 2) + x.door(3, 2), 0);
        Due.is("hung(2)", x.hung(2), BAD);
        Due.is("hung(-1)", x.hung(-1), BAD);
    }

    private static void hungByHinges() {
        // HINGES say what is WANTED, so they turn with the DOOR: 3 by 10, hung 6 by 10
        PushSaidDoor x = Due.house("r2;d0,1,0,1;s0,0,18;w0,3,0,3,0,0;p0,0;", 2);
        Due.is("hung(0)", x.hung(0), 0);
        Due.is("hung(1)", x.hung(1), 125 + 500);
        x.hang(0);
        Due.is("hung(0) then", x.hung(0), 1);
        Due.is("hung(1) then", x.hung(1), 625);
    }

    private static void clash() {
        PushSaidDoor x = Due.house("r2;d0,1,0,1;d0,1,1,1;d0,1,2,2;w5,7,3,2,1,1;p0,0;", 2);
        Due.is("none", x.clash(0), 0);
        Due.is("none", x.clash(1), NONE);
        x.put(0, 0, 9);
        Due.is("both to pull", x.clash(0), 0);
        x.put(0, 1, 5);
        Due.is("GRIP and PUSH", x.clash(0), 1);
        Due.is("GRIP and PUSH", x.clash(1), 1);
        x.put(1, 1, 12);
        Due.is("both words", x.clash(0), 2);
        Due.is("the lowest of 3 and 3", x.clash(1), 1);
        x.put(2, 1, 3);
        Due.is("GRIP and PLATE", x.clash(0), 3);
        Due.is("5 of 5 and 7", x.clash(1), 5);
        x.put(2, 0, 15);
        Due.is("all", x.clash(0), 4);
        Due.is("8 of 8 and 10", x.clash(1), 4);
        Due.is("clash(2)", x.clash(2), BAD);
        Due.is("clash(-1)", x.clash(-1), BAD);
        PushSaidDoor y = Due.house("r2;d0,1,0,1;s0,0,7;w0,7,0,0,0,0;p0,0;", 2);
        Due.is("a GRIP that does nothing", y.clash(0), 0);
    }

    private static void clashOfGlassAndHinges() {
        PushSaidDoor x = Due.house("r2;d0,1,0,1;d0,1,2,1;w5,7,3,2,1,1;s0,0,17;s0,1,4;p0,0;", 2);
        Due.is("HINGES to a push", x.clash(0), 1);
        Due.is("HINGES to a push", x.clash(1), 0);
        x.put(0, 0, 33);
        Due.is("GLASS to a push", x.clash(0), 1);
        x.put(0, 1, 0);
        Due.is("GLASS to nothing", x.clash(0), 0);
        x.put(1, 0, 17);
        Due.is("HINGES of either way", x.clash(0), 0);
        PushSaidDoor y = Due.house("r2;d0,1,0,1;w5,7,1,2,1,1;s0,0,33;s0,1,4;p0,0;", 2);
        Due.is("1 by 2, cut", y.clash(0), 0);
    }

    private static void worth() {
        PushSaidDoor x = Due.house("r2;d0,1,0,1;d0,1,0,2;s0,0,2;s1,0,1;w9,9,0,0,0,0;p0,0;", 2);
        // 1 by 11, then 1 by 2
        Due.is("a PLATE", x.worth(1), 20000 + 500 - 90);
        // 10 by 11 and 1 by 2, then 1
        Due.is("a GRIP", x.worth(0), 20000 + 1000 - 1409);
        for (int k = 2; k < 6; k++) {
            Due.is("worth(" + k + ")", x.worth(k), 20000);
        }
        Due.is("worth(6)", x.worth(6), BAD);
        Due.is("worth(-1)", x.worth(-1), BAD);
        Due.is("the SIGNS stay", x.door(0, 4), 2);
        // HINGES of both, a word on its own SIDE and through GLASS on the other one
        PushSaidDoor y = Due.house("r2;d0,1,0,1;s0,0,20;s0,1,48;w0,0,6,4,0,0;p0,0;", 2);
        // as it is: 1 by 12: 83; push 4, pull 5: 444. Without PUSH: 1 by 6: 166; 1 by 6: 166
        Due.is("PUSH", y.worth(2), 20000 + 332 - 527);
        Due.is("PULL", y.worth(3), 20000);
        // without HINGES: 1 by 8: 125; push 4, pull 1: 800
        Due.is("HINGES", y.worth(4), 20000 + 925 - 527);
        // without GLASS: 83; 1 by 6
        Due.is("GLASS", y.worth(5), 20000 + 249 - 527);
    }

    /** Nothing that PERSONS did is of matter to a STRANGER. */
    private static void strangersAlone() {
        PushSaidDoor x = Due.house("r2;d0,1,0,2;d1,0,0,1;s0,0,1;s1,1,2;p0,0;", 2);
        int[] before = {x.signs(0, 0, 9, 0), x.hung(0), x.hung(1), x.clash(0), x.worth(0), x.worth(1),
            x.crowd(30, 0, -1), x.day(7, 50, 0, 0, 1)};
        for (int k = 0; k < 20; k++) {
            x.go(0, 0);
            x.go(0, 1);
        }
        int[] behind = {x.signs(0, 0, 9, 0), x.hung(0), x.hung(1), x.clash(0), x.worth(0), x.worth(1),
            x.crowd(30, 0, -1), x.day(7, 50, 0, 0, 1)};
        for (int k = 0; k < before.length; k++) {
            Due.is("of a STRANGER " + k, behind[k], before[k]);
        }
    }
}
