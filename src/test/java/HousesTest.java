/** Promises 1 to 9: a new object, write, wipe, fault, lay, door, person, times, does. */
public final class HousesTest {
    private static final int BAD = Due.BAD, NO = Due.NO, FULL = Due.FULL, NONE = Due.NONE;

    public static void main(String[] args) {
        newObject();
        write();
        wipe();
        faultsOfForm();
        faultsOfRoomsAndDoors();
        faultsOfTheRest();
        lay();
        layForgets();
        doors();
        personsAndTimes();
        does();
        Due.end();
    }

    private static void newObject() {
        PushSaidDoor x = new PushSaidDoor();
        int[] counts = {3, 2, 2, 0, 0, 0, 0, 0};
        for (int k = 0; k < counts.length; k++) {
            Due.is("new count(" + k + ")", x.count(k), counts[k]);
        }
        int[][] cells = {{0, 1, 0, 1, 9, 0, 0, 1}, {1, 2, 1, 2, 6, 0, 1, 0}};
        for (int d = 0; d < 2; d++) {
            for (int k = 0; k < 8; k++) {
                Due.is("new door(" + d + ", " + k + ")", x.door(d, k), cells[d][k]);
            }
        }
        Due.is("new person(0, 0)", x.person(0, 0), 0);
        Due.is("new person(0, 1)", x.person(0, 1), 0);
        Due.is("new person(1, 0)", x.person(1, 0), 2);
        Due.is("new person(1, 1)", x.person(1, 1), 1);
        int[] does = {6, 6, 4, 3, 2, 2, 3, 3, 3, 3};
        for (int k = 0; k < does.length; k++) {
            Due.is("new does(" + k + ")", x.does(k), does[k]);
        }
        PushSaidDoor other = new PushSaidDoor();
        other.hang(0);
        Due.is("another object's door", x.door(0, 2), 0);
        Due.is("constants", PushSaidDoor.BAD * 1000 + PushSaidDoor.NO * 100
                + PushSaidDoor.FULL * 10 + PushSaidDoor.NONE, -1234);
    }

    private static void write() {
        PushSaidDoor x = new PushSaidDoor();
        int[] bad = {31, 127, -1, 0, 10, 256 + 'r', Integer.MIN_VALUE, Integer.MAX_VALUE};
        for (int letter : bad) {
            Due.is("write(" + letter + ")", x.write(letter), BAD);
        }
        Due.is("write(32)", x.write(32), 1);
        Due.is("write(126)", x.write(126), 2);
        for (int k = 3; k <= 200; k++) {
            Due.is("letter " + k, x.write('x'), k);
        }
        Due.is("letter 201", x.write('x'), FULL);
        Due.is("a bad letter 201", x.write(31), BAD);
        Due.is("count(7)", x.count(7), 200);
    }

    private static void wipe() {
        PushSaidDoor x = new PushSaidDoor();
        Due.is("wipe of none", x.wipe(), 0);
        Due.tell(x, "r3");
        Due.is("wipe of two", x.wipe(), 2);
        Due.is("count(7) behind wipe", x.count(7), 0);
        Due.is("wipe again", x.wipe(), 0);
        Due.is("the first letter again", x.write('d'), 1);
        for (int k = 2; k <= 200; k++) {
            x.write('r');
        }
        Due.is("wipe of 200", x.wipe(), 200);
        Due.is("write behind that", x.write(';'), 1);
    }

    private static void faultsOfForm() {
        Due.faultOf("", NONE);
        Due.faultOf(" ", 0);
        Due.faultOf(";", 0);
        Due.faultOf("r", 0);
        Due.faultOf("r3", 0);
        Due.faultOf("r;", 0);
        Due.faultOf("r3,;", 0);
        Due.faultOf("r,3;", 0);
        Due.faultOf("r3;;", 3);
        Due.faultOf("r03;", NONE);
        Due.faultOf("r003;", 0);
        Due.faultOf("r 3;", 0);
        Due.faultOf("r3; d0,1,0,1;", 3);
        Due.faultOf("r3;d0,1,0,1", 3);
        Due.faultOf("r3;d0,1,0;", 3);
        Due.faultOf("r3;d0,1,0,1,1;", 3);
        Due.faultOf("r3;d0;1,0,1;", 3);
        Due.faultOf("r3;d00,01,00,01;", NONE);
        Due.faultOf("r3;d0,1,0,1;x", 12);
        Due.faultOf("r3;d0,1,0,1;r", 12);
        Due.faultOf("R3;", 0);
        Due.faultOf("r-2;", 0);
        Due.faultOf("r3;p0,0;p0,2;p9,9;", 8);
    }

    private static void faultsOfRoomsAndDoors() {
        Due.faultOf("r2;", NONE);
        Due.faultOf("r8;", NONE);
        Due.faultOf("r1;", 0);
        Due.faultOf("r9;", 0);
        Due.faultOf("r3;r4;", NONE);
        Due.faultOf("r3;r4;d3,0,0,1;", NONE);
        Due.faultOf("r4;r3;d3,0,0,1;", 6);
        Due.faultOf("p0,0;r3;", 5);
        Due.faultOf("w1,1,1,1,1,1;r3;", 13);
        Due.faultOf("c0,0;r3;", 5);
        Due.faultOf("d0,1,0,1;r3;", 9);
        Due.faultOf("d0,2,0,1;", NONE);
        Due.faultOf("d0,3,0,1;", 0);
        Due.faultOf("d3,0,0,1;", 0);
        Due.faultOf("r2;d0,2,0,1;", 3);
        Due.faultOf("d1,1,0,1;", 0);
        Due.faultOf("d0,1,2,2;", NONE);
        Due.faultOf("d0,1,3,1;", 0);
        Due.faultOf("d0,1,0,0;", 0);
        Due.faultOf("d0,1,0,3;", 0);
        String eight = "d0,1,0,1;d0,1,0,1;d0,1,0,1;d0,1,0,1;d0,1,0,1;d0,1,0,1;d0,1,0,1;d0,1,0,1;";
        Due.faultOf(eight, NONE);
        Due.faultOf(eight + "s7,1,63;", NONE);
        Due.faultOf(eight + "d0,1,0,1;", 72);
        Due.faultOf(eight + "s8,0,0;", 72);
    }

    private static void faultsOfTheRest() {
        String door = "d0,1,0,1;";
        Due.faultOf("s0,0,1;" + door, 0);
        Due.faultOf(door + "s0,0,63;", NONE);
        Due.faultOf(door + "s0,0,64;", 9);
        Due.faultOf(door + "s0,2,0;", 9);
        Due.faultOf(door + "s1,0,0;" + door, 9);
        Due.faultOf(door + "s0,0;", 9);
        Due.faultOf("w20,20,20,20,20,20;", NONE);
        Due.faultOf("w0,0,0,0,0,0;w1,1,1,1,1,1;", NONE);
        for (int k = 0; k < 6; k++) {
            StringBuilder text = new StringBuilder("w");
            for (int j = 0; j < 6; j++) {
                text.append(j == k ? "21" : "0").append(j < 5 ? ',' : ';');
            }
            Due.faultOf(text.toString(), 0);
        }
        Due.faultOf("w1,1,1,1,1;", 0);
        Due.faultOf("c0,20;c3,0;c3,1;", NONE);
        Due.faultOf("c4,0;", 0);
        Due.faultOf("c0,21;", 0);
        Due.faultOf("p2,1;p0,0;", NONE);
        Due.faultOf("p3,0;", 0);
        Due.faultOf("p0,2;", 0);
        Due.faultOf("p0,0;p0,0;p0,0;p0,0;p0,0;", NONE);
        Due.faultOf("p0,0;p0,0;p0,0;p0,0;p0,0;p0,0;", 25);
    }

    private static void lay() {
        String[] no = {"", "r3;", "d0,1,0,1;", "p0,0;", "d0,1,0,1;p0,0;x", "d0,1,0,1;p0,0;p0,0"};
        for (String text : no) {
            PushSaidDoor x = new PushSaidDoor();
            Due.tell(x, text);
            x.tell(1);
            x.hang(0);
            x.keep();
            x.film(0, 0, 1, 2);
            Due.is("lay of " + text, x.lay(), NO);
            Due.is("the row stays", x.count(3), 1);
            Due.is("the films stay", x.count(4), 1);
            Due.is("the change stays", x.count(5), 1);
            Due.is("the kept one stays", x.count(6), 1);
            Due.is("the doors stay", x.count(1), 2);
            Due.is("the door stays hung", x.door(0, 2), 1);
        }
        PushSaidDoor x = Due.house("d0,1,0,1;p0,0;", 3);
        Due.is("THE TEXT stays", x.count(7), 14);
        Due.is("lay again", x.lay(), 3);
        Due.house("r8;d7,6,2,2;p7,1;", 8);
        Due.house("r2;d1,0,2,2;p1,1;", 2);
        Due.house("r8;r5;d4,0,2,2;p1,1;", 5);
    }

    private static void layForgets() {
        PushSaidDoor x = Due.house("r4;d0,1,0,1;s0,0,63;s0,1,5;w1,2,3,4,5,6;c2,9;p0,0;p1,1;p3,0;", 4);
        x.go(0, 0);
        x.put(0, 0, 1);
        x.hang(0);
        x.tell(0);
        x.film(0, 0, 1, 2);
        x.keep();
        x.keep();
        Due.is("lay", x.lay(), 4);
        Due.is("nobody went", x.times(0, 0, 0), 0);
        Due.is("back in his room", x.person(0, 0), 0);
        Due.is("no last one", x.person(0, 2), NONE);
        Due.is("signs as told", x.door(0, 4), 63);
        Due.is("hung as told", x.door(0, 2), 0);
        for (int k = 3; k <= 6; k++) {
            Due.is("none of " + k, x.count(k), 0);
        }
        Due.is("nothing to undo", x.undo(), NO);
        Due.is("nothing kept", x.back(), NO);
        Due.tell(x, "d1,2,1,2;p2,0;");
        Due.is("another house", x.lay(), 3);
        Due.is("its doors", x.count(1), 1);
        Due.is("its persons", x.count(2), 1);
        Due.is("no signs of the former one", x.door(0, 4) + x.door(0, 5), 0);
        Due.is("what grip does without", x.does(0), 6);
        Due.is("what a sign costs without", x.does(8), 3);
    }

    private static void doors() {
        PushSaidDoor x = Due.house("r8;d7,6,2,2;d0,5,1,1;d5,4,0,1;s0,1,9;s1,0,33;s1,0,34;p0,0;", 8);
        int[][] cells = {{7, 6, 2, 2, 0, 9, 2, 2}, {0, 5, 1, 1, 34, 0, 1, 0}, {5, 4, 0, 1, 0, 0, 0, 1}};
        for (int d = 0; d < cells.length; d++) {
            for (int k = 0; k < 8; k++) {
                Due.is("door(" + d + ", " + k + ")", x.door(d, k), cells[d][k]);
            }
            Due.is("door(.., -1)", x.door(d, -1), BAD);
            Due.is("door(.., 8)", x.door(d, 8), BAD);
        }
        Due.is("door(3, 0)", x.door(3, 0), BAD);
        Due.is("door(-1, 0)", x.door(-1, 0), BAD);
        Due.is("door(least, most)", x.door(Integer.MIN_VALUE, Integer.MAX_VALUE), BAD);
    }

    private static void personsAndTimes() {
        PushSaidDoor x = Due.house("r2;d0,1,2,1;d0,1,0,1;d1,0,0,2;p1,1;p0,0;", 2);
        Due.is("person(0, 0)", x.person(0, 0), 1);
        Due.is("person(0, 1)", x.person(0, 1), 1);
        Due.is("person(0, 2)", x.person(0, 2), NONE);
        Due.is("person(1, 1)", x.person(1, 1), 0);
        Due.is("go by one of either way", x.go(0, 0), 0);
        Due.is("his room", x.person(0, 0), 0);
        Due.is("his last WANTED either", x.person(0, 2), 2);
        Due.is("go by one to be pushed", x.go(0, 1), 1);
        Due.is("his last WANTED a push", x.person(0, 2), 0);
        Due.is("another one to be pulled", x.go(1, 2), 1);
        Due.is("his last WANTED a pull", x.person(1, 2), 1);
        x.hang(2);
        Due.is("it WANTED a pull then", x.person(1, 2), 1);
        Due.is("times(0, 0, 1)", x.times(0, 0, 1), 1);
        Due.is("times(0, 0, 0)", x.times(0, 0, 0), 0);
        Due.is("times(0, 1, 0)", x.times(0, 1, 0), 1);
        Due.is("times(1, 2, 1)", x.times(1, 2, 1), 1);
        Due.is("times(1, 0, 1)", x.times(1, 0, 1), 0);
        Due.is("person(2, 0)", x.person(2, 0), BAD);
        Due.is("person(-1, 0)", x.person(-1, 0), BAD);
        Due.is("person(0, 3)", x.person(0, 3), BAD);
        Due.is("person(0, -1)", x.person(0, -1), BAD);
        Due.is("times(2, 0, 0)", x.times(2, 0, 0), BAD);
        Due.is("times(-1, 0, 0)", x.times(-1, 0, 0), BAD);
        Due.is("times(0, 3, 0)", x.times(0, 3, 0), BAD);
        Due.is("times(0, -1, 0)", x.times(0, -1, 0), BAD);
        Due.is("times(0, 0, 2)", x.times(0, 0, 2), BAD);
        Due.is("times(0, 0, -1)", x.times(0, 0, -1), BAD);
    }

    private static void does() {
        PushSaidDoor x = Due.house("w9,9,9,9,9,9;w1,2,3,4,5,20;c0,20;c3,8;c3,0;d0,1,0,1;p0,0;", 3);
        int[] does = {1, 2, 3, 4, 5, 20, 20, 3, 3, 0};
        for (int k = 0; k < does.length; k++) {
            Due.is("does(" + k + ")", x.does(k), does[k]);
        }
        Due.is("does(-1)", x.does(-1), BAD);
        Due.is("does(10)", x.does(10), BAD);
    }
}
