import java.util.ArrayList;
import java.util.List;

/** "BAD .. NO .. NONE .. FULL. Of several the first; nothing changes then." */
public final class RefusedTest {
    private static final int BAD = Due.BAD, NO = Due.NO, FULL = Due.FULL, NONE = Due.NONE;

    /** A call that is refused in the full house of {@link #full()}. */
    private interface Call {
        int on(PushSaidDoor x);
    }

    private static final List<String> NAMES = new ArrayList<>();
    private static final List<Call> CALLS = new ArrayList<>();
    private static final List<Integer> ANSWERS = new ArrayList<>();

    public static void main(String[] args) {
        badIsTheFirst();
        noIsAheadOfNone();
        tellRefusedCalls();
        nothingChangesThen();
        nothingChangesOfAnEmptyHouse();
        askingChangesNothing();
        Due.end();
    }

    /** Every store is full: 200 letters with a FAULT, 12 told, 8 FILMS, 8 that can be UNDONE, 2 KEPT. */
    private static PushSaidDoor full() {
        PushSaidDoor x = Due.house("r4;d0,1,0,1;d1,2,2,2;d2,3,0,1;s0,0,9;s2,0,32;s2,1,12;p0,0;p1,1;p3,1;", 4);
        x.put(0, 1, 3);
        x.go(0, 0);
        x.keep();
        x.hang(2);
        x.go(0, 1);
        x.keep();
        x.go(0, 1);
        x.put(2, 0, 40);
        x.go(0, 0);
        x.hang(0);
        x.hang(0);
        x.go(1, 1);
        for (int k = 0; k < 12; k++) {
            x.tell(k < 1 ? 0 : 1);
        }
        for (int k = 0; k < 8; k++) {
            x.film(k % 2, k / 2 % 2, k, 9);
        }
        for (int k = x.count(7); k < 200; k++) {
            x.write('d');
        }
        return x;
    }

    private static void badIsTheFirst() {
        Due.sentence("Of several the first (BAD ahead of NO, NONE, FULL)");
        PushSaidDoor x = full();
        Due.is("write into a full TEXT", x.write(127), BAD);
        Due.is("tell into a full row", x.tell(3), BAD);
        Due.is("film into eight", x.film(3, 0, 1, 2), BAD);
        Due.is("film into eight", x.film(0, 0, 3, 2), BAD);
        Due.is("wrong of a TRAY", x.wrong(2, 2, 1, 0), 0);
        Due.is("wrong of a TRAY", x.wrong(2, 2, 0, 0), NONE);
        Due.is("wrong of a TRAY, no part", x.wrong(2, 2, 0, 2), BAD);
        Due.is("wrong of a TRAY, no part", x.wrong(2, 2, 0, -1), BAD);
        Due.is("no way", x.way(2, 0, 0), NONE);
        Due.is("no way, nothing asked", x.way(2, 0, 2), BAD);
        Due.is("there, nothing asked", x.way(2, 3, 2), BAD);
        Due.is("along none", x.along(2), NONE);
        Due.is("along by no one", x.along(3), BAD);
        Due.is("not learnt", x.learnt(0, 0, 1, 0), NONE);
        Due.is("not learnt by 100", x.learnt(0, 0, 1, 100), BAD);
        Due.is("not learnt by -1", x.learnt(0, 0, 1, -1), BAD);
        Due.is("not beside", x.crowd(1, 3, 0), NO);
        Due.is("not beside, none out", x.crowd(0, 3, 0), BAD);
        Due.is("not beside, 100 out", x.crowd(100, 3, 0), BAD);
        Due.is("a pull, 6 out", x.crowd(6, 1, 0), NONE);
        Due.is("a pull, 100 out", x.crowd(100, 1, 0), BAD);
        Due.is("nobody goes", x.go(3, 2), BAD);
        Due.is("by no DOOR", x.go(0, 3), BAD);
        Due.is("spoilt by itself, on no SIDE", x.spoilt(0, 0, 0, 0, 2), BAD);
    }

    private static void noIsAheadOfNone() {
        Due.sentence("Of several the first (NO ahead of NONE)");
        PushSaidDoor x = Due.house("r4;d0,1,1,1;d2,3,1,1;p0,0;", 4);
        Due.is("a pull beside, 99 out", x.crowd(99, 0, 0), NONE);
        Due.is("a pull not beside, 99 out", x.crowd(99, 0, 1), NO);
        Due.is("a pull not beside, 99 out", x.crowd(99, 2, 0), NO);
    }

    private static void refused(String name, int answer, Call call) {
        NAMES.add(name);
        ANSWERS.add(answer);
        CALLS.add(call);
    }

    private static void tellRefusedCalls() {
        refused("write(31)", BAD, x -> x.write(31));
        refused("write(127)", BAD, x -> x.write(127));
        refused("write(32)", FULL, x -> x.write(32));
        refused("write(';')", FULL, x -> x.write(';'));
        refused("lay", NO, x -> x.lay());
        refused("go by no one", BAD, x -> x.go(3, 0));
        refused("go by no DOOR", BAD, x -> x.go(0, 3));
        refused("go not beside", NO, x -> x.go(0, 2));
        refused("go with a TRAY", NO, x -> x.go(1, 2));
        refused("put on no DOOR", BAD, x -> x.put(3, 0, 1));
        refused("put on no SIDE", BAD, x -> x.put(0, 2, 1));
        refused("put of no SIGNS", BAD, x -> x.put(0, 0, 64));
        refused("hang of none", BAD, x -> x.hang(3));
        refused("hang of either way", NO, x -> x.hang(1));
        refused("tell of none", BAD, x -> x.tell(3));
        refused("tell the 13th", FULL, x -> x.tell(0));
        refused("film of no DOOR", BAD, x -> x.film(3, 0, 1, 2));
        refused("film of too many", BAD, x -> x.film(0, 0, 3, 2));
        refused("film the ninth", FULL, x -> x.film(0, 0, 1, 2));
        refused("keep the third", FULL, x -> x.keep());
        refused("door", BAD, x -> x.door(3, 0));
        refused("person", BAD, x -> x.person(3, 0));
        refused("times", BAD, x -> x.times(0, 3, 0));
        refused("does", BAD, x -> x.does(10));
        refused("weighs", BAD, x -> x.weighs(0, 0, 0, 2));
        refused("wrong", BAD, x -> x.wrong(0, 0, 0, 2));
        refused("wrong with a TRAY", NONE, x -> x.wrong(2, 2, 0, 0));
        refused("along by no one", BAD, x -> x.along(3));
        refused("along with a TRAY", NONE, x -> x.along(2));
        refused("way to no ROOM", BAD, x -> x.way(0, 4, 0));
        refused("no way", NONE, x -> x.way(2, 0, 0));
        refused("no DOOR", NONE, x -> x.way(2, 3, 1));
        refused("learnt", BAD, x -> x.learnt(0, 0, 0, 100));
        refused("not learnt", NONE, x -> x.learnt(0, 0, 1, 0));
        refused("spoilt", BAD, x -> x.spoilt(0, 1, 0, 1, 1));
        refused("tray", BAD, x -> x.tray(0, 4));
        refused("no tray", NONE, x -> x.tray(2, 0));
        refused("signs", BAD, x -> x.signs(0, 0, 100, 0));
        refused("hung", BAD, x -> x.hung(2));
        refused("clash", BAD, x -> x.clash(2));
        refused("worth", BAD, x -> x.worth(6));
        refused("crowd", BAD, x -> x.crowd(0, 0, 0));
        refused("crowd not beside", NO, x -> x.crowd(1, 3, 0));
        refused("crowd by a pull", NONE, x -> x.crowd(6, 1, 0));
        refused("fits", BAD, x -> x.fits(100, 0));
        refused("fits by none", NONE, x -> x.fits(0, 1));
        refused("day", BAD, x -> x.day(10000, 1, 0, 0, 0));
        refused("count", BAD, x -> x.count(8));
    }

    private static void nothingChangesThen() {
        for (int k = 0; k < CALLS.size(); k++) {
            Due.sentence("nothing changes then: " + NAMES.get(k));
            PushSaidDoor x = full();
            Due.is(NAMES.get(k), CALLS.get(k).on(x), ANSWERS.get(k));
            same(x, full());
        }
    }

    private static void nothingChangesOfAnEmptyHouse() {
        Due.sentence("nothing changes then (undo, back, lay: NO)");
        PushSaidDoor x = new PushSaidDoor();
        Due.is("undo", x.undo(), NO);
        Due.is("back", x.back(), NO);
        Due.is("lay of an empty TEXT", x.lay(), NO);
        same(x, new PushSaidDoor());
        PushSaidDoor y = full();
        PushSaidDoor z = full();
        emptyOut(y);
        emptyOut(z);
        Due.is("undo", y.undo(), NO);
        Due.is("back", y.back(), NO);
        Due.is("lay", y.lay(), NO);
        compare("emptied", y, z);
    }

    private static void emptyOut(PushSaidDoor x) {
        for (int k = 0; k < 9; k++) {
            x.undo();
        }
        x.back();
        x.back();
        x.wipe();
        x.noRow();
        x.forget();
    }

    private static void askingChangesNothing() {
        Due.sentence("(nothing changes by asking)");
        PushSaidDoor x = full();
        List<Integer> first = answers(x);
        Due.is("asked again", answers(x).equals(first) ? 1 : 0, 1);
        PushSaidDoor y = full();
        for (int k = 7; k >= 0; k--) {
            Due.is("undo", x.undo(), k);
            Due.is("undo of one who was not asked", y.undo(), k);
        }
        compareHouse("behind all", x, y);
    }

    /** Both answer alike, as they are and all the way back. */
    private static void same(PushSaidDoor x, PushSaidDoor y) {
        compare("as it is", x, y);
        for (int k = 0; k < 9; k++) {
            Due.is("undo " + k, x.undo(), y.undo());
            compareHouse("behind undo " + k, x, y);
        }
        for (int k = 0; k < 3; k++) {
            Due.is("back " + k, x.back(), y.back());
            compareHouse("behind back " + k, x, y);
        }
        Due.is("noRow", x.noRow(), y.noRow());
        Due.is("forget", x.forget(), y.forget());
        Due.is("wipe", x.wipe(), y.wipe());
        Due.is("letters behind wipe", x.count(7), 0);
    }

    private static void compare(String when, PushSaidDoor x, PushSaidDoor y) {
        List<Integer> a = answers(x);
        List<Integer> b = answers(y);
        for (int k = 0; k < a.size(); k++) {
            Due.is("answer " + k + ", " + when, a.get(k), b.get(k));
        }
    }

    private static void compareHouse(String when, PushSaidDoor x, PushSaidDoor y) {
        int doors = x.count(1);
        for (int d = 0; d < doors; d++) {
            Due.is("W of " + d + ", " + when, x.door(d, 2), y.door(d, 2));
            Due.is("SIGNS of " + d + ", " + when, x.door(d, 4), y.door(d, 4));
            Due.is("SIGNS of " + d + ", " + when, x.door(d, 5), y.door(d, 5));
        }
        for (int i = 0; i < 2; i++) {
            Due.is("ROOM of " + i + ", " + when, x.person(i, 0), y.person(i, 0));
        }
        Due.is("times, " + when, x.times(0, 1, 0), y.times(0, 1, 0));
    }

    private static List<Integer> answers(PushSaidDoor x) {
        int doors = x.count(1);
        int persons = x.count(2);
        List<Integer> all = new ArrayList<>();
        for (int k = 0; k < 8; k++) {
            all.add(x.count(k));
        }
        for (int k = 0; k < 10; k++) {
            all.add(x.does(k));
        }
        for (int d = 0; d < doors; d++) {
            for (int k = 0; k < 8; k++) {
                all.add(x.door(d, k));
            }
        }
        for (int i = 0; i < persons; i++) {
            for (int k = 0; k < 3; k++) {
                all.add(x.person(i, k));
            }
            for (int side = 0; side < 2 * doors; side++) {
                all.add(x.times(i, side / 2, side % 2));
            }
            all.add(x.along(i));
        }
        for (int t = 0; t < 60; t += 10) {
            all.add(x.fits(t, 0));
        }
        all.add(x.fault());
        all.add(x.hung(1));
        all.add(x.clash(0));
        all.add(x.worth(0));
        return all;
    }
}
