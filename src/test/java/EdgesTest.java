/** Numbers far off, in any state: an answer comes, and a call that is BAD changes nothing. */
public final class EdgesTest {
    private static final int[] FAR = {Integer.MIN_VALUE, Integer.MIN_VALUE + 1, -65536, -100, -5, -2,
        8, 9, 16, 100, 10000, 1 << 20, 357913942, 715827883, Integer.MAX_VALUE / 2, Integer.MAX_VALUE - 1,
        Integer.MAX_VALUE};

    public static void main(String[] args) {
        for (int far : FAR) {
            PushSaidDoor x = Due.house("r8;d0,1,2,2;d1,0,0,1;s0,0,63;p0,0;p1,1;", 8);
            x.go(0, 0);
            x.tell(0);
            x.film(0, 0, 1, 2);
            x.keep();
            long before = state(x);
            badInEachPlace(x, far);
            Due.is("nothing changed", state(x), before);
        }
        emptyAndFullText();
        Due.end();
    }

    private static long state(PushSaidDoor x) {
        long sum = 0;
        for (int k = 0; k < 8; k++) {
            sum = sum * 31 + x.count(k);
        }
        for (int d = 0; d < 2; d++) {
            for (int k = 0; k < 8; k++) {
                sum = sum * 31 + x.door(d, k);
                sum = sum * 31 + x.person(d, k % 3);
                sum = sum * 31 + x.times(d, k % 2, k / 2 % 2);
            }
        }
        return sum * 31 + x.hung(1);
    }

    private static void bad(String call, int far, int got) {
        Due.is(call + " with " + far, got, Due.BAD);
    }

    private static void badInEachPlace(PushSaidDoor x, int f) {
        if (f < 32 || f > 126) {
            bad("write", f, x.write(f));
        }
        bad("door", f, x.door(f, 0));
        bad("door what", f, x.door(0, f));
        bad("person", f, x.person(f, 0));
        bad("person what", f, x.person(0, f));
        bad("times", f, x.times(f, 0, 0));
        bad("times", f, x.times(0, f, 0));
        bad("times", f, x.times(0, 0, f));
        if (f != 8 && f != 9) {
            bad("does", f, x.does(f));
        }
        bad("weighs", f, x.weighs(f, f, f, f));
        bad("wrong", f, x.wrong(0, 0, 0, f));
        bad("wrong", f, x.wrong(0, f, 0, 0));
        bad("go", f, x.go(f, 0));
        bad("go", f, x.go(0, f));
        bad("put", f, x.put(f, 0, 0));
        bad("put", f, x.put(0, f, 0));
        if (f < 0 || f > 63) {
            bad("put", f, x.put(0, 0, f));
        }
        bad("hang", f, x.hang(f));
        bad("tell", f, x.tell(f));
        bad("along", f, x.along(f));
        bad("way", f, x.way(0, f, 0));
        bad("way", f, x.way(f, 0, 0));
        bad("way", f, x.way(0, 0, f));
        bad("learnt", f, x.learnt(0, f, 0, 0));
        if (f < 0 || f > 99) {
            bad("learnt", f, x.learnt(0, 0, 0, f));
            bad("signs", f, x.signs(0, 0, f, 0));
            bad("crowd", f, x.crowd(f, 0, -1));
            bad("film", f, x.film(0, 0, f, f));
            bad("film", f, x.film(0, 0, 0, f));
            bad("fits", f, x.fits(f, 0));
            bad("day", f, x.day(0, f, 0, 0, 0));
        }
        bad("spoilt", f, x.spoilt(0, 0, 0, f, 0));
        bad("spoilt", f, x.spoilt(0, f, 0, f, 0));
        bad("tray", f, x.tray(f, f));
        bad("signs", f, x.signs(f, 0, 0, 0));
        bad("hung", f, x.hung(f));
        bad("clash", f, x.clash(f));
        bad("worth", f, x.worth(f));
        bad("crowd", f, x.crowd(1, f, -1));
        bad("crowd", f, x.crowd(1, 0, f));
        bad("film", f, x.film(f, 0, 0, 1));
        bad("fits", f, x.fits(0, f));
        bad("day", f, x.day(0, 1, f, 0, 0));
        if (f < 0 || f > 9999) {
            bad("day", f, x.day(f, 1, 0, 0, 0));
        }
        bad("count", f, x.count(f));
    }

    /** Every letter as the last of a TEXT, and TEXTS up to the last letter. */
    private static void emptyAndFullText() {
        String start = "d0,1,0,1;p0,0;";
        for (int letter = 32; letter <= 126; letter++) {
            PushSaidDoor x = new PushSaidDoor();
            Due.tell(x, start + (char) letter);
            Due.is("fault behind " + (char) letter, x.fault(), 14);
            Due.is("lay behind " + (char) letter, x.lay(), Due.NO);
        }
        StringBuilder full = new StringBuilder("d0,1,0,1;p0,0;p0,0;p0,0;");
        while (full.length() <= 195) {
            full.append("c0,0;");
        }
        while (full.length() < 200) {
            full.append('w');
        }
        PushSaidDoor x = new PushSaidDoor();
        Due.tell(x, full.toString());
        Due.is("the last ITEM is cut", x.fault(), 199);
        String whole = full.substring(0, 194) + "c00,0;";
        Due.tell(x, whole);
        Due.is("just 200 letters", x.fault(), Due.NONE);
        Due.is("lay of 200 letters", x.lay(), 3);
    }
}
