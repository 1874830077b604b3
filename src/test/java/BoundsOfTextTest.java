/** Section 1 and promises 1 to 9: each sentence that names a bound has a test of its own. */
public final class BoundsOfTextTest {
    private static final int BAD = Due.BAD, NO = Due.NO, FULL = Due.FULL, NONE = Due.NONE;
    private static final String DOOR = "d0,1,0,1;";
    private static final String PERSON = "p0,0;";
    private static final String EIGHT_DOORS = DOOR + DOOR + DOOR + DOOR + DOOR + DOOR + DOOR + DOOR;
    /** An ITEM of each kind that may stand behind r8;d0,1,0,1; but r, which is told ahead. */
    private static final String[] ITEMS = {"d2,3,1,2;", "s0,1,5;", "w1,2,3,4,5,6;", "c1,2;", "p7,1;"};

    public static void main(String[] args) {
        fourAnswersAreNumbers();
        usedForFiveHundredAndTwelveCalls();
        atFirstOneTextIsLaid();
        lettersAreThoseOfAscii();
        twoHundredLettersAtMost();
        aFullTextStays();
        wipeAnswersHowLongItWas();
        itemsStandOneBehindTheOther();
        eachItemStartsWithItsLetter();
        numbersHaveOneOrTwoFigures();
        numbersArePartedByCommas();
        eachItemHasJustItsNumbers();
        aSemicolonIsBehindTheLastNumber();
        roomsAreTwoToEight();
        roomsAreThreeWithout();
        noOtherItemIsAheadOfRooms();
        roomsGoUpToOneLess();
        theRoomsOfADoorAreUnlike();
        aDoorOpensInThreeWays();
        leavesAreOneOrTwo();
        eightDoorsAtMost();
        doorsAreNumberedFromNought();
        aDoorOfSignsIsToldAhead();
        sidesAreTwo();
        signsAreSixBits();
        noSignsWithout();
        theLastSignsOfEachSide();
        whatThingsDoIsUpToTwenty();
        whatThingsDoWithout();
        theLastDoingsHold();
        fourSignsHaveACost();
        costsAreUpToTwenty();
        costsAreThreeWithout();
        theLastCostOfEachSign();
        aPersonIsInARoom();
        aTrayOrNone();
        fivePersonsAtMost();
        personsAreNumberedFromNought();
        faultIsTheFirstLetterOfTheFirstItem();
        noFaultIsNone();
        aTextWithFaultIsNotLaid();
        aDoorAndAPersonAtLeast();
        layForgetsWhatWasGone();
        layForgetsRowFilmsUndoneKept();
        doorsAskedInBounds();
        personsAskedInBounds();
        timesAskedInBounds();
        doesAskedInBounds();
        suchAsThereAre();
        Due.end();
    }

    private static String zeros(int many) {
        StringBuilder text = new StringBuilder();
        for (int k = 0; k < many; k++) {
            text.append("c0,0;");
        }
        return text.toString();
    }

    private static void fourAnswersAreNumbers() {
        Due.sentence("BAD = -1, NO = -2, FULL = -3, NONE = -4");
        Due.is("BAD", PushSaidDoor.BAD, -1);
        Due.is("NO", PushSaidDoor.NO, -2);
        Due.is("FULL", PushSaidDoor.FULL, -3);
        Due.is("NONE", PushSaidDoor.NONE, -4);
    }

    private static void usedForFiveHundredAndTwelveCalls() {
        Due.sentence("An object is used for at most 512 calls after it has been made");
        PushSaidDoor x = new PushSaidDoor();
        Due.is("call 1", x.put(0, 0, 0), 9);
        for (int k = 2; k <= 511; k++) {
            Due.is("call " + k, x.put(0, 0, k % 64), (k - 1) % 64 - (k == 2 ? 1 : 0));
        }
        Due.is("call 512", x.undo(), 7);
        PushSaidDoor y = new PushSaidDoor();
        for (int k = 1; k <= 512; k++) {
            Due.is("way, call " + k, y.way(0, 2, 0), 2344);
        }
    }

    private static void atFirstOneTextIsLaid() {
        Due.sentence("at first r3;d0,1,0,1;d1,2,1,2;s0,0,9;s1,0,6;p0,0;p2,1;");
        PushSaidDoor x = new PushSaidDoor();
        PushSaidDoor y = Due.house("r3;d0,1,0,1;d1,2,1,2;s0,0,9;s1,0,6;p0,0;p2,1;", 3);
        Due.is("letters of THE TEXT", y.wipe(), 45);
        Due.is("letters of THE TEXT", x.wipe(), 0);
        for (int k = 0; k < 8; k++) {
            Due.is("count(" + k + ")", x.count(k), y.count(k));
            Due.is("door(0, " + k + ")", x.door(0, k), y.door(0, k));
            Due.is("door(1, " + k + ")", x.door(1, k), y.door(1, k));
            Due.is("person(0, ..)", x.person(0, k % 3), y.person(0, k % 3));
            Due.is("person(1, ..)", x.person(1, k % 3), y.person(1, k % 3));
        }
        for (int k = 0; k < 10; k++) {
            Due.is("does(" + k + ")", x.does(k), y.does(k));
        }
        Due.is("nothing to lay", x.lay(), NO);
        Due.is("nothing to undo", x.undo(), NO);
        Due.is("nothing kept", x.back(), NO);
    }

    private static void lettersAreThoseOfAscii() {
        Due.sentence("A letter (32 to 126, as in ASCII)");
        PushSaidDoor x = new PushSaidDoor();
        int[] none = {31, 127, 0, -1, 128, 255, 256, 256 + 32, 65536 + 'r', -65536 + 'r',
            Integer.MIN_VALUE, Integer.MIN_VALUE + 'r', Integer.MAX_VALUE};
        for (int letter : none) {
            Due.is("write(" + letter + ")", x.write(letter), BAD);
            Due.is("letters of THE TEXT", x.count(7), 0);
        }
        for (int letter = 32; letter <= 126; letter++) {
            Due.is("write(" + letter + ")", x.write(letter), letter - 31);
        }
    }

    private static void twoHundredLettersAtMost() {
        Due.sentence("A TEXT is letters (200 at most)");
        PushSaidDoor x = new PushSaidDoor();
        for (int k = 1; k <= 200; k++) {
            Due.is("letter " + k, x.write('r'), k);
        }
        Due.is("letter 201", x.write('r'), FULL);
        Due.is("letter 201 again", x.write(';'), FULL);
        // of 200 letters each one is read: without the last one, the ; of the PERSON, it could not be laid
        Due.tell(x, "r8;" + EIGHT_DOORS + zeros(24) + PERSON);
        Due.is("200 letters are told", x.count(7), 200);
        Due.is("without a FAULT", x.fault(), NONE);
        Due.is("and laid", x.lay(), 8);
        Due.is("the PERSON at their end", x.count(2), 1);
    }

    private static void aFullTextStays() {
        Due.sentence("FULL: nothing changes then (write)");
        PushSaidDoor x = new PushSaidDoor();
        Due.tell(x, "r8;" + EIGHT_DOORS + zeros(24) + PERSON);
        Due.is("letter 201", x.write('x'), FULL);
        Due.is("letters", x.count(7), 200);
        Due.is("FAULT", x.fault(), NONE);
        Due.is("lay", x.lay(), 8);
        Due.is("wipe", x.wipe(), 200);
        Due.is("a letter goes in again", x.write('x'), 1);
    }

    private static void wipeAnswersHowLongItWas() {
        Due.sentence("THE TEXT is empty: how long it was.");
        PushSaidDoor x = new PushSaidDoor();
        Due.is("of an empty one", x.wipe(), 0);
        x.write('x');
        Due.is("of one letter", x.wipe(), 1);
        Due.is("it is empty", x.count(7), 0);
        Due.is("without FAULT", x.fault(), NONE);
        Due.is("of an empty one again", x.wipe(), 0);
        for (int k = 0; k < 200; k++) {
            x.write('x');
        }
        Due.is("of 200", x.wipe(), 200);
        Due.is("it is empty", x.count(7), 0);
        Due.is("the house stays", x.count(1), 2);
    }

    private static void itemsStandOneBehindTheOther() {
        Due.sentence("ITEMS one behind the other");
        Due.faultOf("", NONE);
        String all = "r8;" + DOOR + "d2,3,1,2;s0,1,5;w1,2,3,4,5,6;c1,2;p7,1;";
        Due.faultOf(all, NONE);
        Due.faultOf(" " + all, 0);
        Due.faultOf(";" + all, 0);
        Due.faultOf(all + " ", all.length());
        Due.faultOf(all + ";", all.length());
        Due.faultOf("r8; " + DOOR, 3);
        Due.faultOf("r8;;" + DOOR, 3);
        Due.faultOf("r8;," + DOOR, 3);
        Due.faultOf("r8;0" + DOOR, 3);
    }

    private static void eachItemStartsWithItsLetter() {
        Due.sentence("each a letter");
        for (char letter = ' '; letter <= '~'; letter++) {
            if ("rdswcp".indexOf(letter) < 0) {
                Due.faultOf(DOOR + letter + "0,1,0,1;", 9);
                Due.faultOf(DOOR + letter + "0,0;", 9);
                Due.faultOf(letter + "3;", 0);
            }
        }
        Due.faultOf(DOOR + "0,0;", 9);
        Due.faultOf("3;", 0);
        Due.faultOf("rr3;", 0);
    }

    private static void numbersHaveOneOrTwoFigures() {
        Due.sentence("numbers (one or two figures)");
        Due.faultOf("r;", 0);
        Due.faultOf("r8;", NONE);
        Due.faultOf("r08;", NONE);
        Due.faultOf("r008;", 0);
        Due.faultOf("r 8;", 0);
        Due.faultOf("r8 ;", 0);
        Due.faultOf("r+8;", 0);
        Due.faultOf("r-8;", 0);
        Due.faultOf("r/;", 0);
        Due.faultOf("r:;", 0);
        Due.faultOf("w:,0,0,0,0,0;", 0);
        Due.faultOf("w0,0,0,0,0,1/;", 0);
        Due.faultOf("w0,0,0,0,0,1:;", 0);
        for (String item : ITEMS) {
            for (int k = 1; k < item.length(); k += 2) {
                String ahead = "r8;" + DOOR + item.substring(0, k);
                Due.faultOf(ahead + item.substring(k + 1), 12);
                Due.faultOf(ahead + item.substring(k), NONE);
                Due.faultOf(ahead + "0" + item.substring(k), NONE);
                Due.faultOf(ahead + "00" + item.substring(k), 12);
                Due.faultOf(ahead + "x" + item.substring(k + 1), 12);
            }
        }
        PushSaidDoor x = Due.house("r08;d06,07,00,01;s00,01,63;w20,10,09,00,01,12;c03,19;p07,01;", 8);
        Due.is("B of two figures", x.door(0, 1), 7);
        Due.is("S of two figures", x.door(0, 5), 63);
        Due.is("G of two figures", x.does(0), 20);
        Due.is("L of two figures", x.does(5), 12);
        Due.is("a cost of two figures", x.does(9), 19);
    }

    private static void numbersArePartedByCommas() {
        Due.sentence("numbers parted by ,");
        for (String item : ITEMS) {
            for (int k = 2; k + 1 < item.length(); k += 2) {
                String ahead = "r8;" + DOOR + item.substring(0, k);
                String behind = item.substring(k + 1);
                Due.faultOf(ahead + "," + behind, NONE);
                Due.faultOf(ahead + ";" + behind, 12);
                Due.faultOf(ahead + " " + behind, 12);
                Due.faultOf(ahead + "." + behind, 12);
                Due.faultOf(ahead + ",," + behind, 12);
                Due.faultOf(ahead + ", " + behind, 12);
            }
            Due.faultOf("r8;" + DOOR + item.charAt(0) + "," + item.substring(1), 12);
        }
        Due.faultOf("r,8;", 0);
        Due.faultOf("r8,;", 0);
    }

    private static void eachItemHasJustItsNumbers() {
        Due.sentence("rN, dA,B,W,L, sD,E,S, wG,P,W,H,C,L, cK,C, pR,T");
        for (String item : ITEMS) {
            String body = item.substring(0, item.length() - 1);
            Due.faultOf("r8;" + DOOR + body + ",0;", 12);
            Due.faultOf("r8;" + DOOR + body + ",;", 12);
            Due.faultOf("r8;" + DOOR + body.substring(0, body.length() - 2) + ";", 12);
            Due.faultOf("r8;" + DOOR + item.charAt(0) + ";", 12);
        }
        Due.faultOf("r8,8;", 0);
    }

    private static void aSemicolonIsBehindTheLastNumber() {
        Due.sentence("and a ; behind the last one");
        Due.faultOf("r8", 0);
        Due.faultOf("r", 0);
        for (String item : ITEMS) {
            for (int k = 1; k < item.length(); k++) {
                Due.faultOf("r8;" + DOOR + item.substring(0, k), 12);
            }
            Due.faultOf("r8;" + DOOR + item, NONE);
            Due.faultOf("r8;" + DOOR + item.substring(0, item.length() - 1) + PERSON, 12);
        }
    }

    private static void roomsAreTwoToEight() {
        Due.sentence("there are N ROOMS (2 to 8)");
        int[] none = {0, 1, 9, 10, 12, 99};
        for (int rooms : none) {
            Due.faultOf("r" + rooms + ";", 0);
            Due.faultOf("r3;r" + rooms + ";", 3);
        }
        for (int rooms = 2; rooms <= 8; rooms++) {
            PushSaidDoor x = Due.house("r" + rooms + ";" + DOOR + PERSON, rooms);
            Due.is("ROOMS", x.count(0), rooms);
        }
    }

    private static void roomsAreThreeWithout() {
        Due.sentence("3 without (rN)");
        PushSaidDoor x = Due.house(DOOR + "p2,0;", 3);
        Due.is("ROOMS", x.count(0), 3);
        Due.is("the highest one", x.tray(2, 2), 0);
        Due.is("none beyond", x.tray(3, 3), BAD);
        PushSaidDoor y = Due.house("r8;" + DOOR + "p7,0;", 8);
        Due.tell(y, "d0,3,0,1;");
        Due.is("FAULT behind a house of 8", y.fault(), 0);
        Due.tell(y, DOOR + "p2,0;");
        Due.is("lay behind a house of 8", y.lay(), 3);
        Due.faultOf("d2,0,0,1;", NONE);
        Due.faultOf("d3,0,0,1;", 0);
    }

    private static void noOtherItemIsAheadOfRooms() {
        Due.sentence("no other ITEM ahead of it but r");
        String[] others = {DOOR, DOOR + "s0,0,1;", "w1,2,3,4,5,6;", "c1,2;", PERSON};
        for (String other : others) {
            Due.faultOf("r3;" + other, NONE);
            Due.faultOf(other + "r3;", other.length());
            Due.faultOf("r3;" + other + "r3;", other.length() + 3);
        }
        Due.faultOf("r2;r8;", NONE);
        Due.faultOf("r2;r8;r5;" + DOOR, NONE);
        Due.faultOf("r2;r8;d6,7,0,1;", NONE);
        Due.faultOf("r8;r2;d6,7,0,1;", 6);
        Due.is("of several r the last one", Due.house("r2;r8;r5;" + DOOR + PERSON, 5).count(0), 5);
    }

    private static void roomsGoUpToOneLess() {
        Due.sentence("0 to N less 1");
        for (int rooms = 2; rooms <= 8; rooms++) {
            int highest = rooms - 1;
            Due.faultOf("r" + rooms + ";d" + highest + ",0,0,1;", NONE);
            Due.faultOf("r" + rooms + ";d0," + highest + ",0,1;", NONE);
            Due.faultOf("r" + rooms + ";d" + rooms + ",0,0,1;", 3);
            Due.faultOf("r" + rooms + ";d0," + rooms + ",0,1;", 3);
            PushSaidDoor x = Due.house("r" + rooms + ";d0," + highest + ",2,1;p" + highest + ",0;", rooms);
            Due.is("way to 0", x.way(0, 0, 1), 0);
            Due.is("way to the highest", x.way(0, highest, 0), 0);
            Due.is("way beyond", x.way(0, rooms, 0), BAD);
            Due.is("way ahead of 0", x.way(0, -1, 0), BAD);
        }
    }

    private static void theRoomsOfADoorAreUnlike() {
        Due.sentence("a DOOR between ROOMS A and B (unlike)");
        for (int a = 0; a < 8; a++) {
            for (int b = 0; b < 8; b++) {
                Due.faultOf("r8;d" + a + "," + b + ",0,1;", a == b ? 3 : NONE);
            }
        }
        PushSaidDoor x = Due.house("r8;d7,2,0,1;" + PERSON, 8);
        Due.is("A", x.door(0, 0), 7);
        Due.is("B", x.door(0, 1), 2);
    }

    private static void aDoorOpensInThreeWays() {
        Due.sentence("which opens away from A (W 0), toward A (1), or either way (2)");
        int[][] wants = {{0, 1}, {1, 0}, {2, 2}};
        for (int w = 0; w <= 2; w++) {
            PushSaidDoor x = Due.house("d0,1," + w + ",1;" + PERSON, 3);
            Due.is("W", x.door(0, 2), w);
            Due.is("it WANTS at A", x.door(0, 6), wants[w][0]);
            Due.is("it WANTS at B", x.door(0, 7), wants[w][1]);
        }
        Due.faultOf("d0,1,3,1;", 0);
        Due.faultOf("d0,1,10,1;", 0);
        Due.faultOf("d0,1,99,1;", 0);
    }

    private static void leavesAreOneOrTwo() {
        Due.sentence("of L (1, 2) LEAVES");
        Due.faultOf("d0,1,0,0;", 0);
        Due.is("one", Due.house("d0,1,0,1;" + PERSON, 3).door(0, 3), 1);
        Due.is("two", Due.house("d0,1,0,2;" + PERSON, 3).door(0, 3), 2);
        Due.faultOf("d0,1,0,3;", 0);
        Due.faultOf("d0,1,0,11;", 0);
        Due.faultOf("d0,1,0,99;", 0);
    }

    private static void eightDoorsAtMost() {
        Due.sentence("8 at most (DOORS)");
        Due.faultOf(EIGHT_DOORS, NONE);
        Due.faultOf(EIGHT_DOORS + DOOR, 72);
        Due.faultOf(EIGHT_DOORS + DOOR + DOOR, 72);
        Due.faultOf(EIGHT_DOORS + PERSON + DOOR, 77);
        Due.is("DOORS", Due.house(EIGHT_DOORS + PERSON, 3).count(1), 8);
    }

    private static void doorsAreNumberedFromNought() {
        Due.sentence("0, 1, .. (DOORS)");
        StringBuilder text = new StringBuilder("r8;");
        for (int d = 0; d < 8; d++) {
            text.append('d').append(d).append(',').append(7 - d).append(',').append(d % 3).append(",1;");
        }
        PushSaidDoor x = Due.house(text + PERSON, 8);
        for (int d = 0; d < 8; d++) {
            Due.is("A of " + d, x.door(d, 0), d);
            Due.is("B of " + d, x.door(d, 1), 7 - d);
            Due.is("W of " + d, x.door(d, 2), d % 3);
        }
        Due.is("no ninth", x.door(8, 0), BAD);
    }

    private static void aDoorOfSignsIsToldAhead() {
        Due.sentence("DOOR D (told ahead)");
        Due.faultOf("s0,0,0;" + DOOR, 0);
        Due.faultOf(DOOR + "s0,0,0;", NONE);
        Due.faultOf(DOOR + "s1,0,0;" + DOOR, 9);
        Due.faultOf(DOOR + DOOR + "s1,0,0;", NONE);
        Due.faultOf(DOOR + DOOR + "s2,0,0;", 18);
        Due.faultOf(EIGHT_DOORS + "s7,0,0;", NONE);
        Due.faultOf(EIGHT_DOORS + "s8,0,0;", 72);
        Due.faultOf(EIGHT_DOORS + "s99,0,0;", 72);
    }

    private static void sidesAreTwo() {
        Due.sentence("on SIDE E of DOOR D (E 0 that of A, 1 that of B)");
        Due.faultOf(DOOR + "s0,0,0;", NONE);
        Due.faultOf(DOOR + "s0,1,0;", NONE);
        Due.faultOf(DOOR + "s0,2,0;", 9);
        Due.faultOf(DOOR + "s0,99,0;", 9);
        PushSaidDoor x = Due.house("d2,1,0,1;s0,0,1;s0,1,2;w20,20,0,0,0,0;p2,0;p1,0;", 3);
        Due.is("at A the GRIP", x.weighs(0, 0, 0, 1), 21);
        Due.is("at B the PLATE", x.weighs(0, 0, 1, 0), 21);
        Due.is("gone from A", x.go(0, 0) * 10 + x.times(0, 0, 0), 11);
        Due.is("gone from B", x.go(1, 0) * 10 + x.times(1, 0, 1), 21);
    }

    private static void signsAreSixBits() {
        Due.sentence("there are SIGNS S (0 to 63, as bits)");
        for (int signs = 0; signs <= 63; signs++) {
            PushSaidDoor x = Due.house(DOOR + "s0,0," + signs + ";" + PERSON, 3);
            Due.is("SIGNS", x.door(0, 4), signs);
            Due.is("of the other SIDE", x.door(0, 5), 0);
        }
        Due.faultOf(DOOR + "s0,0,64;", 9);
        Due.faultOf(DOOR + "s0,1,65;", 9);
        Due.faultOf(DOOR + "s0,1,99;", 9);
    }

    private static void noSignsWithout() {
        Due.sentence("0 without (SIGNS)");
        PushSaidDoor x = Due.house(EIGHT_DOORS + "s3,1,63;" + PERSON, 3);
        for (int d = 0; d < 8; d++) {
            Due.is("SIDE 0 of " + d, x.door(d, 4), 0);
            Due.is("SIDE 1 of " + d, x.door(d, 5), d == 3 ? 63 : 0);
        }
        Due.tell(x, EIGHT_DOORS + PERSON);
        Due.is("lay", x.lay(), 3);
        Due.is("none of the former house", x.door(3, 5), 0);
    }

    private static void theLastSignsOfEachSide() {
        Due.sentence("the last one of each (SIGNS)");
        PushSaidDoor x = Due.house(DOOR + DOOR + "s0,0,1;s0,1,2;s1,0,3;s0,0,4;s1,0,0;" + PERSON, 3);
        Due.is("two times told", x.door(0, 4), 4);
        Due.is("once told", x.door(0, 5), 2);
        Due.is("told, then none", x.door(1, 4), 0);
        Due.is("never told", x.door(1, 5), 0);
    }

    private static void whatThingsDoIsUpToTwenty() {
        Due.sentence("what GRIP, PLATE, a word, HINGES, the last DOOR, a time do (0 to 20 each)");
        for (int k = 0; k < 6; k++) {
            int[] none = {21, 30, 99};
            for (int far : none) {
                Due.faultOf(doings(k, far, 20), 0);
                Due.faultOf(doings(k, far, 0), 0);
            }
            PushSaidDoor x = Due.house(doings(k, 20, 0) + DOOR + PERSON, 3);
            PushSaidDoor y = Due.house(doings(k, 0, 20) + DOOR + PERSON, 3);
            for (int j = 0; j < 6; j++) {
                Due.is("does(" + j + ")", x.does(j), j == k ? 20 : 0);
                Due.is("does(" + j + ")", y.does(j), j == k ? 0 : 20);
            }
        }
    }

    /** An ITEM w of one number at a place and another one at all others. */
    private static String doings(int place, int there, int others) {
        StringBuilder text = new StringBuilder("w");
        for (int k = 0; k < 6; k++) {
            text.append(k == place ? there : others).append(k < 5 ? ',' : ';');
        }
        return text.toString();
    }

    private static void whatThingsDoWithout() {
        Due.sentence("6, 6, 4, 3, 2, 2 without");
        PushSaidDoor x = Due.house(DOOR + PERSON + "w7,8,9,10,11,12;", 3);
        Due.tell(x, DOOR + PERSON);
        Due.is("lay", x.lay(), 3);
        int[] does = {6, 6, 4, 3, 2, 2};
        for (int k = 0; k < 6; k++) {
            Due.is("does(" + k + ")", x.does(k), does[k]);
        }
    }

    private static void theLastDoingsHold() {
        Due.sentence("the last one (w)");
        PushSaidDoor x = Due.house("w20,20,20,20,20,20;w7,8,9,10,11,12;" + DOOR + PERSON + "w1,2,3,4,5,0;", 3);
        int[] does = {1, 2, 3, 4, 5, 0};
        for (int k = 0; k < 6; k++) {
            Due.is("does(" + k + ")", x.does(k), does[k]);
        }
        Due.faultOf("w7,8,9,10,11,12;w1,2,3,4,5,21;", 16);
        Due.faultOf("w21,8,9,10,11,12;w1,2,3,4,5,6;", 0);
    }

    private static void fourSignsHaveACost() {
        Due.sentence("SIGN K (0 to 3) costs C");
        for (int k = 0; k <= 3; k++) {
            PushSaidDoor x = Due.house("c" + k + ",11;" + DOOR + PERSON, 3);
            for (int j = 0; j <= 3; j++) {
                Due.is("does(" + (6 + j) + ")", x.does(6 + j), j == k ? 11 : 3);
            }
            Due.is("what things do stays", x.does(5), 2);
        }
        Due.faultOf("c4,0;", 0);
        Due.faultOf("c5,0;", 0);
        Due.faultOf("c99,0;", 0);
    }

    private static void costsAreUpToTwenty() {
        Due.sentence("costs C (0 to 20)");
        for (int k = 0; k <= 3; k++) {
            Due.is("nothing", Due.house("c" + k + ",0;" + DOOR + PERSON, 3).does(6 + k), 0);
            Due.is("twenty", Due.house("c" + k + ",20;" + DOOR + PERSON, 3).does(6 + k), 20);
            Due.faultOf("c" + k + ",21;", 0);
            Due.faultOf("c" + k + ",99;", 0);
        }
    }

    private static void costsAreThreeWithout() {
        Due.sentence("3 without (costs)");
        PushSaidDoor x = Due.house("c0,1;c1,2;c2,4;c3,5;" + DOOR + PERSON, 3);
        Due.tell(x, DOOR + PERSON);
        Due.is("lay", x.lay(), 3);
        for (int k = 6; k <= 9; k++) {
            Due.is("does(" + k + ")", x.does(k), 3);
        }
    }

    private static void theLastCostOfEachSign() {
        Due.sentence("the last one of each (costs)");
        PushSaidDoor x = Due.house("c0,1;c1,2;c0,20;c3,5;c3,0;" + DOOR + PERSON, 3);
        int[] costs = {20, 2, 3, 0};
        for (int k = 0; k <= 3; k++) {
            Due.is("does(" + (6 + k) + ")", x.does(6 + k), costs[k]);
        }
    }

    private static void aPersonIsInARoom() {
        Due.sentence("a PERSON in ROOM R");
        for (int room = 0; room < 8; room++) {
            Due.is("ROOM", Due.house("r8;" + DOOR + "p" + room + ",0;", 8).person(0, 0), room);
        }
        Due.faultOf("r8;p8,0;", 3);
        Due.faultOf("r2;p2,0;", 3);
        Due.faultOf("p3,0;", 0);
        Due.faultOf("p99,0;", 0);
    }

    private static void aTrayOrNone() {
        Due.sentence("with a TRAY (T 1) or none (0)");
        Due.is("none", Due.house(DOOR + "p0,0;", 3).person(0, 1), 0);
        Due.is("a TRAY", Due.house(DOOR + "p0,1;", 3).person(0, 1), 1);
        Due.faultOf("p0,2;", 0);
        Due.faultOf("p0,11;", 0);
        Due.faultOf("p0,99;", 0);
    }

    private static void fivePersonsAtMost() {
        Due.sentence("5 at most (PERSONS)");
        String five = PERSON + PERSON + PERSON + PERSON + PERSON;
        Due.faultOf(five, NONE);
        Due.faultOf(five + PERSON, 25);
        Due.faultOf(five + DOOR + PERSON, 34);
        Due.is("PERSONS", Due.house(DOOR + five, 3).count(2), 5);
    }

    private static void personsAreNumberedFromNought() {
        Due.sentence("0, 1, .. (PERSONS)");
        PushSaidDoor x = Due.house("r5;" + DOOR + "p4,0;p3,1;p2,0;p1,1;p0,0;", 5);
        for (int i = 0; i < 5; i++) {
            Due.is("ROOM of " + i, x.person(i, 0), 4 - i);
            Due.is("TRAY of " + i, x.person(i, 1), i % 2);
        }
        Due.is("no sixth", x.person(5, 0), BAD);
    }

    private static void faultIsTheFirstLetterOfTheFirstItem() {
        Due.sentence("FAULT: the place of the first letter of the first ITEM that is not so");
        Due.faultOf("x", 0);
        Due.faultOf("r3;x;y;", 3);
        Due.faultOf("p9,0;p8,0;", 0);
        Due.faultOf("p0,0;p8,0;p9,0;", 5);
        Due.faultOf(DOOR + "s0,0,64;r3;", 9);
        Due.faultOf(DOOR + "p0,0;d1,1,0,1", 14);
        String long195 = "r8;" + EIGHT_DOORS + zeros(24);
        Due.faultOf(long195 + "p0,0x", 195);
        Due.faultOf(long195 + "p0,0", 195);
        Due.faultOf(long195.substring(3) + PERSON + "pp", 197);
        Due.faultOf(long195.substring(3) + PERSON + "c0", 197);
        Due.faultOf("r8;" + EIGHT_DOORS + "c00,0;" + zeros(23) + "w", 196);
        Due.faultOf("r8;" + EIGHT_DOORS + "c00,00;c00,00;" + zeros(22) + "x", 199);
    }

    private static void noFaultIsNone() {
        Due.sentence("FAULT. NONE.");
        PushSaidDoor x = new PushSaidDoor();
        Due.is("of an empty TEXT", x.fault(), NONE);
        x.write('r');
        Due.is("of r", x.fault(), 0);
        x.write('3');
        Due.is("of r3", x.fault(), 0);
        x.write(';');
        Due.is("of r3;", x.fault(), NONE);
        x.write('r');
        Due.is("of r3;r", x.fault(), 3);
        Due.is("asked again", x.fault(), 3);
        Due.is("the house stays", x.count(1), 2);
    }

    private static void aTextWithFaultIsNotLaid() {
        Due.sentence("LAID is a TEXT without FAULT (NO else)");
        String good = DOOR + PERSON;
        String[] none = {"x" + good, good + "x", good.substring(0, 13), good + "p0,0", "r9;" + good, good + "r3;"};
        for (String text : none) {
            PushSaidDoor x = new PushSaidDoor();
            Due.tell(x, text);
            Due.is("lay of " + text, x.lay(), NO);
            Due.is("DOORS as before", x.count(1), 2);
            Due.is("PERSONS as before", x.count(2), 2);
        }
        Due.house(good, 3);
    }

    private static void aDoorAndAPersonAtLeast() {
        Due.sentence("of a DOOR and a PERSON at least (NO else)");
        String[] none = {"", "r3;", DOOR, PERSON, "r8;" + EIGHT_DOORS, PERSON + PERSON, "w1,1,1,1,1,1;c0,0;"};
        for (String text : none) {
            PushSaidDoor x = new PushSaidDoor();
            Due.tell(x, text);
            Due.is("FAULT of " + text, x.fault(), NONE);
            Due.is("lay of " + text, x.lay(), NO);
            Due.is("ROOMS as before", x.count(0), 3);
            Due.is("DOORS as before", x.count(1), 2);
            Due.is("PERSONS as before", x.count(2), 2);
        }
        PushSaidDoor x = Due.house(PERSON + DOOR, 3);
        Due.is("one DOOR", x.count(1), 1);
        Due.is("one PERSON", x.count(2), 1);
    }

    private static void layForgetsWhatWasGone() {
        Due.sentence("LAID: how many ROOMS; nobody went by a DOOR");
        PushSaidDoor x = Due.house("d0,1,0,1;p0,0;p1,0;", 3);
        x.go(0, 0);
        x.go(0, 0);
        x.go(1, 0);
        Due.is("gone", x.times(0, 0, 0) + x.times(0, 0, 1) + x.times(1, 0, 1), 3);
        Due.is("lay", x.lay(), 3);
        for (int i = 0; i < 2; i++) {
            Due.is("times from 0", x.times(i, 0, 0), 0);
            Due.is("times from 1", x.times(i, 0, 1), 0);
            Due.is("no last one", x.person(i, 2), NONE);
            Due.is("ROOM", x.person(i, 0), i);
        }
    }

    private static void layForgetsRowFilmsUndoneKept() {
        Due.sentence("no told row, no FILM, nothing UNDONE, KEPT");
        PushSaidDoor x = Due.house(DOOR + PERSON, 3);
        for (int k = 0; k < 12; k++) {
            x.tell(0);
            x.put(0, 0, k);
        }
        for (int k = 0; k < 8; k++) {
            x.film(0, 0, 1, 1);
        }
        x.keep();
        x.keep();
        Due.is("lay", x.lay(), 3);
        Due.is("the row", x.count(3), 0);
        Due.is("FILMS", x.count(4), 0);
        Due.is("UNDONE", x.count(5), 0);
        Due.is("KEPT", x.count(6), 0);
        Due.is("noRow", x.noRow(), 0);
        Due.is("forget", x.forget(), 0);
        Due.is("undo", x.undo(), NO);
        Due.is("back", x.back(), NO);
        Due.is("fits any", x.fits(0, 0), 21);
        Due.is("along none", x.along(0), 0);
        Due.is("SIGNS as told", x.door(0, 4), 0);
    }

    private static void doorsAskedInBounds() {
        Due.sentence("Of a DOOR: A (what = 0) .. what it WANTS on SIDE 1 (7). BAD.");
        PushSaidDoor x = Due.house("d2,1,0,2;s0,0,9;s0,1,6;" + PERSON, 3);
        int[] due = {2, 1, 0, 2, 9, 6, 0, 1};
        for (int k = 0; k < 8; k++) {
            Due.is("door(0, " + k + ")", x.door(0, k), due[k]);
            Due.is("door(1, " + k + ")", x.door(1, k), BAD);
            Due.is("door(-1, " + k + ")", x.door(-1, k), BAD);
        }
        int[] none = {-1, 8, 9, Integer.MIN_VALUE, Integer.MAX_VALUE};
        for (int far : none) {
            Due.is("door(0, " + far + ")", x.door(0, far), BAD);
            Due.is("door(" + far + ", 0)", x.door(far, 0), BAD);
        }
    }

    private static void personsAskedInBounds() {
        Due.sentence("Of a PERSON: his ROOM (0), TRAY (1), what his last DOOR WANTED (2; NONE). BAD.");
        PushSaidDoor x = Due.house("d2,1,0,1;d2,1,2,1;p2,1;", 3);
        Due.is("ROOM", x.person(0, 0), 2);
        Due.is("TRAY", x.person(0, 1), 1);
        Due.is("no last one", x.person(0, 2), NONE);
        x.go(0, 0);
        Due.is("a push", x.person(0, 2), 0);
        x.go(0, 1);
        Due.is("either", x.person(0, 2), 2);
        int[] none = {-1, 3, 4, Integer.MIN_VALUE, Integer.MAX_VALUE};
        for (int far : none) {
            Due.is("person(0, " + far + ")", x.person(0, far), BAD);
            Due.is("person(" + far + ", 0)", x.person(far, 0), BAD);
        }
        Due.is("person(1, 0)", x.person(1, 0), BAD);
    }

    private static void timesAskedInBounds() {
        Due.sentence("How often a PERSON went by a DOOR from a SIDE. BAD.");
        PushSaidDoor x = Due.house("d2,1,0,1;p2,0;", 3);
        Due.is("not yet", x.times(0, 0, 0), 0);
        x.go(0, 0);
        Due.is("once", x.times(0, 0, 0), 1);
        Due.is("not from the other SIDE", x.times(0, 0, 1), 0);
        int[] none = {-1, 2, Integer.MIN_VALUE, Integer.MAX_VALUE};
        for (int far : none) {
            Due.is("times of PERSON " + far, x.times(far, 0, 0), BAD);
            Due.is("times by DOOR " + far, x.times(0, far, 0), BAD);
            Due.is("times from SIDE " + far, x.times(0, 0, far), BAD);
        }
        Due.is("times(1, 0, 0)", x.times(1, 0, 0), BAD);
        Due.is("times(0, 1, 0)", x.times(0, 1, 0), BAD);
    }

    private static void doesAskedInBounds() {
        Due.sentence("What something does: G (what = 0) .. L (5); what SIGNS 0 to 3 cost (6 to 9). BAD.");
        PushSaidDoor x = Due.house("w10,11,12,13,14,15;c0,16;c1,17;c2,18;c3,19;" + DOOR + PERSON, 3);
        for (int k = 0; k <= 9; k++) {
            Due.is("does(" + k + ")", x.does(k), 10 + k);
        }
        int[] none = {-1, 10, 11, Integer.MIN_VALUE, Integer.MAX_VALUE};
        for (int far : none) {
            Due.is("does(" + far + ")", x.does(far), BAD);
        }
    }

    private static void suchAsThereAre() {
        Due.sentence("BAD: a number is none that is told (ROOMS, DOORS, PERSONS, SIDES: such as there are)");
        PushSaidDoor x = Due.house("r8;" + EIGHT_DOORS + PERSON + PERSON + PERSON + PERSON + PERSON, 8);
        Due.is("DOOR 7", x.door(7, 0), 0);
        Due.is("DOOR 8", x.door(8, 0), BAD);
        Due.is("PERSON 4", x.person(4, 0), 0);
        Due.is("PERSON 5", x.person(5, 0), BAD);
        Due.is("ROOM 7", x.tray(7, 7), 0);
        Due.is("ROOM 8", x.tray(8, 8), BAD);
        Due.tell(x, "r2;" + DOOR + PERSON);
        Due.is("lay", x.lay(), 2);
        for (int k = 1; k <= 8; k++) {
            Due.is("no DOOR " + k, x.door(k, 0), BAD);
            Due.is("none to go by " + k, x.go(0, k), BAD);
            Due.is("none to tell " + k, x.tell(k), BAD);
            Due.is("no PERSON " + k, x.person(k, 0), BAD);
            Due.is("none to go " + k, x.go(k, 0), BAD);
            Due.is("no ROOM " + (k + 1), x.tray(0, k + 1), BAD);
            Due.is("no SIDE " + (k + 1), x.times(0, 0, k + 1), BAD);
        }
    }
}
