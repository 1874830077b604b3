import java.math.BigInteger;
import java.util.ArrayList;
import java.util.Arrays;
import java.util.List;

/** Long runs of calls on told houses, against a slow house that is written from the document anew. */
public final class ModelTest {
    private static final int BAD = Due.BAD, NO = Due.NO, FULL = Due.FULL, NONE = Due.NONE;
    private static long seed = 20261118L;

    public static void main(String[] args) {
        for (int run = 0; run < 1500; run++) {
            run(run);
        }
        Due.end();
    }

    private static int upTo(int most) {
        seed = seed * 6364136223846793005L + 1442695040888963407L;
        return (int) ((seed >>> 33) % (most + 1));
    }

    /** Mostly a number that is told, sometimes one beside. */
    private static int near(int most) {
        return upTo(24) == 0 ? upTo(1) == 0 ? -1 - upTo(1) : most + 1 + upTo(1) : upTo(Math.max(most, 0));
    }

    private static void run(int run) {
        PushSaidDoor x = new PushSaidDoor();
        Model m = new Model();
        for (int calls = 0; calls < 12; calls++) {
            callAny(run, x, m);
        }
        retell(run, x, m, text());
        Due.is(run + " lay", x.lay(), m.lay());
        boolean much = upTo(2) == 0;
        boolean others = !much && upTo(3) == 0;
        // no object is used for more than 512 calls, and a TEXT takes 200 of them
        int most = much ? 140 : others ? 90 : 280;
        for (int calls = 0; calls < most; calls++) {
            callAny(run, x, m);
            if (others && calls == 40) {
                retell(run, x, m, spoiltText());
                Due.is(run + " fault", x.fault(), m.fault());
                Due.is(run + " lay", x.lay(), m.lay());
            }
        }
        if (much) {
            walkMuch(run, x, m);
        }
    }

    private static void retell(int run, PushSaidDoor x, Model m, String text) {
        Due.is(run + " wipe", x.wipe(), m.text.length());
        m.text.setLength(0);
        for (int k = 0; k < text.length(); k++) {
            m.text.append(text.charAt(k));
            Due.is(run + " write", x.write(text.charAt(k)), m.text.length());
        }
    }

    /** One PERSON often to and fro, so that times become many. */
    private static void walkMuch(int run, PushSaidDoor x, Model m) {
        int i = upTo(m.people.size() - 1);
        int d = upTo(m.doors.size() - 1);
        for (int k = 0; k < 120; k++) {
            same(run, "go", x.go(i, d), m.go(i, d));
        }
        for (int k = 0; k < 30; k++) {
            callAny(run, x, m);
        }
    }

    private static String text() {
        StringBuilder s = new StringBuilder();
        int rooms = 3;
        if (upTo(5) > 0) {
            rooms = 2 + upTo(6);
            s.append('r').append(rooms).append(';');
        }
        int doors = 1 + upTo(upTo(3) == 0 ? 7 : 4);
        for (int d = 0; d < doors; d++) {
            int a = upTo(rooms - 1);
            int b = (a + 1 + upTo(upTo(1) == 0 ? 0 : rooms - 2)) % rooms;
            item(s, 'd', a, b, upTo(2), 1 + upTo(1));
        }
        for (int k = upTo(8); k > 0 && s.length() < 130; k--) {
            item(s, 's', upTo(doors - 1), upTo(1), upTo(1) == 0 ? upTo(3) : upTo(63));
        }
        if (upTo(2) > 0) {
            int most = upTo(1) == 0 ? 20 : 4;
            item(s, 'w', upTo(most), upTo(most), upTo(most), upTo(most), upTo(most), upTo(most));
        }
        for (int k = upTo(3); k > 0; k--) {
            item(s, 'c', upTo(3), upTo(5));
        }
        for (int k = upTo(3); k >= 0; k--) {
            item(s, 'p', upTo(rooms - 1), upTo(1));
        }
        return s.length() <= 200 ? s.toString() : "d0,1,0,1;p0,1;";
    }

    private static void item(StringBuilder s, char kind, int... numbers) {
        s.append(kind);
        for (int k = 0; k < numbers.length; k++) {
            if (upTo(60) == 0 && numbers[k] < 10) {
                s.append('0');
            }
            s.append(numbers[k]).append(k + 1 < numbers.length ? ',' : ';');
        }
    }

    /** A house's TEXT with a letter or two changed: mostly a FAULT. */
    private static String spoiltText() {
        StringBuilder s = new StringBuilder(text());
        String letters = "rdswcp0123456789,; -~";
        for (int k = upTo(2); k > 0; k--) {
            s.setCharAt(upTo(s.length() - 1), letters.charAt(upTo(letters.length() - 1)));
        }
        if (upTo(3) == 0) {
            s.setLength(upTo(s.length()));
        }
        return s.toString();
    }

    private static void same(int run, String call, int got, int due) {
        Due.is("run " + run + ": " + call, got, due);
    }

    private static void callAny(int run, PushSaidDoor x, Model m) {
        int i = near(m.people.size() - 1);
        int d = near(m.doors.size() - 1);
        int e = near(1);
        int what = near(1);
        int r = near(m.rooms - 1);
        switch (upTo(33)) {
            case 0: case 1: case 2: case 3: case 4: same(run, "go", x.go(i, d), m.go(i, d)); break;
            case 5: { int s = near(63); same(run, "put", x.put(d, e, s), m.put(d, e, s)); break; }
            case 6: same(run, "hang", x.hang(d), m.hang(d)); break;
            case 7: same(run, "undo", x.undo(), m.undo()); break;
            case 8: { int k = near(7); same(run, "door", x.door(d, k), m.door(d, k)); break; }
            case 9: { int k = near(2); same(run, "person", x.person(i, k), m.person(i, k)); break; }
            case 10: same(run, "times", x.times(i, d, e), m.times(i, d, e)); break;
            case 11: { int k = near(9); same(run, "does", x.does(k), m.does(k)); break; }
            case 12: case 13: same(run, "weighs", x.weighs(i, d, e, what), m.weighs(i, d, e, what)); break;
            case 14: case 15: same(run, "wrong", x.wrong(i, d, e, what), m.wrong(i, d, e, what)); break;
            case 16: case 17: same(run, "tell", x.tell(d), m.tell(d)); break;
            case 18: if (upTo(3) == 0) { same(run, "noRow", x.noRow(), m.noRow()); } break;
            case 19: same(run, "along", x.along(i), m.along(i)); break;
            case 20: same(run, "way", x.way(i, r, what), m.way(i, r, what)); break;
            case 21: { int c = near(99); same(run, "learnt", x.learnt(i, d, e, c), m.learnt(i, d, e, c)); break; }
            case 22: { int g = near(m.doors.size() - 1), f = near(1);
                same(run, "spoilt", x.spoilt(i, d, e, g, f), m.spoilt(i, d, e, g, f)); break; }
            case 23: { int b = near(m.rooms - 1); same(run, "tray", x.tray(r, b), m.tray(r, b)); break; }
            case 24: { int c = upTo(3) == 0 ? near(99) : upTo(12);
                same(run, "signs", x.signs(d, e, c, what), m.signs(d, e, c, what)); break; }
            case 25: same(run, "hung", x.hung(what), m.hung(what)); break;
            case 26: same(run, "clash", x.clash(what), m.clash(what)); break;
            case 27: { int k = near(5); same(run, "worth", x.worth(k), m.worth(k)); break; }
            case 28: { int n = near(99), by = upTo(2) == 0 ? -1 : d;
                same(run, "crowd", x.crowd(n, r, by), m.crowd(n, r, by)); break; }
            case 29: { int n = near(50), k = near(n);
                same(run, "film", x.film(d, e, k, n), m.film(d, e, k, n)); break; }
            case 30: { int t = upTo(2) == 0 ? near(99) : upTo(30);
                same(run, "fits", x.fits(t, what), m.fits(t, what)); break; }
            case 31: { int z = near(9999), n = near(99);
                same(run, "day", x.day(z, n, d, e, what), m.day(z, n, d, e, what)); break; }
            case 32: callKept(run, x, m); break;
            default: { int k = near(7); same(run, "count", x.count(k), m.count(k)); break; }
        }
    }

    private static void callKept(int run, PushSaidDoor x, Model m) {
        int which = upTo(7);
        if (which < 4) {
            same(run, "keep", x.keep(), m.keep());
        } else if (which < 7) {
            same(run, "back", x.back(), m.back());
        } else {
            same(run, "forget", x.forget(), m.forget());
        }
    }

    private static final class Fraction {
        final BigInteger above;
        final BigInteger below;

        Fraction(long a, long b) {
            this(BigInteger.valueOf(a), BigInteger.valueOf(b));
        }

        Fraction(BigInteger a, BigInteger b) {
            BigInteger g = a.gcd(b);
            above = a.divide(g);
            below = b.divide(g);
        }

        Fraction plus(Fraction o) {
            return new Fraction(above.multiply(o.below).add(o.above.multiply(below)), below.multiply(o.below));
        }

        int of(int many) {
            return above.multiply(BigInteger.valueOf(many)).divide(below).intValueExact();
        }

        int compare(Fraction o) {
            return above.multiply(o.below).compareTo(o.above.multiply(below));
        }
    }

    private static final class Door {
        int a, b, w, leaves;
        int[] signs = new int[2];

        int want(int e) {
            return w == 2 ? 2 : e == 0 ? w : 1 - w;
        }

        int room(int e) {
            return e == 0 ? a : b;
        }
    }

    private static final class Person {
        int room;
        boolean tray;
        int last = NONE;
        int[][] went = new int[8][2];

        Person copy() {
            Person p = new Person();
            p.room = room;
            p.tray = tray;
            p.last = last;
            for (int d = 0; d < 8; d++) {
                p.went[d] = went[d].clone();
            }
            return p;
        }
    }

    /** The part of a house that is KEPT. */
    private static final class Shot {
        List<Door> doors = new ArrayList<>();
        List<Person> people = new ArrayList<>();
    }

    private static final class Model {
        final StringBuilder text = new StringBuilder();
        int rooms = 3;
        List<Door> doors = new ArrayList<>();
        List<Person> people = new ArrayList<>();
        int[] doing = {6, 6, 4, 3, 2, 2};
        int[] cost = {3, 3, 3, 3};
        List<Shot> before = new ArrayList<>();
        List<Shot> kept = new ArrayList<>();
        List<Integer> row = new ArrayList<>();
        List<int[]> films = new ArrayList<>();

        Model() {
            text.append("r3;d0,1,0,1;d1,2,1,2;s0,0,9;s1,0,6;p0,0;p2,1;");
            lay();
            text.setLength(0);
        }

        Shot shot() {
            Shot s = new Shot();
            for (Door d : doors) {
                Door c = new Door();
                c.a = d.a;
                c.b = d.b;
                c.w = d.w;
                c.leaves = d.leaves;
                c.signs = d.signs.clone();
                s.doors.add(c);
            }
            for (Person p : people) {
                s.people.add(p.copy());
            }
            return s;
        }

        void as(Shot s) {
            doors = s.doors;
            people = s.people;
        }

        void remember() {
            before.add(shot());
            if (before.size() > 8) {
                before.remove(0);
            }
        }

        // told by a pattern for the whole ITEM, so that the reading is another one
        int told(Model to) {
            int at = 0;
            boolean other = false;
            String all = text.toString();
            while (at < all.length()) {
                int end = all.indexOf(';', at);
                if (end < 0 || !all.substring(at, end).matches("[rdswcp][0-9]{1,2}(,[0-9]{1,2})*")) {
                    return at;
                }
                String[] parts = all.substring(at + 1, end).split(",");
                int[] n = new int[parts.length];
                for (int k = 0; k < n.length; k++) {
                    n[k] = Integer.parseInt(parts[k]);
                }
                char kind = all.charAt(at);
                if (kind == 'r' && other || n.length != "r1d4s3w6c2p2".charAt("r1d4s3w6c2p2".indexOf(kind) + 1) - '0'
                        || !accepts(to, kind, n)) {
                    return at;
                }
                other |= kind != 'r';
                at = end + 1;
            }
            return NONE;
        }

        static boolean accepts(Model to, char kind, int[] n) {
            switch (kind) {
                case 'r':
                    to.rooms = n[0];
                    return n[0] >= 2 && n[0] <= 8;
                case 'd': {
                    Door d = new Door();
                    d.a = n[0];
                    d.b = n[1];
                    d.w = n[2];
                    d.leaves = n[3];
                    to.doors.add(d);
                    return to.doors.size() <= 8 && n[0] < to.rooms && n[1] < to.rooms && n[0] != n[1]
                            && n[2] <= 2 && (n[3] == 1 || n[3] == 2);
                }
                case 's':
                    if (n[0] >= to.doors.size() || n[1] > 1 || n[2] > 63) {
                        return false;
                    }
                    to.doors.get(n[0]).signs[n[1]] = n[2];
                    return true;
                case 'w':
                    to.doing = n;
                    return Arrays.stream(n).allMatch(v -> v <= 20);
                case 'c':
                    if (n[0] > 3 || n[1] > 20) {
                        return false;
                    }
                    to.cost[n[0]] = n[1];
                    return true;
                default: {
                    Person p = new Person();
                    p.room = n[0];
                    p.tray = n[1] == 1;
                    to.people.add(p);
                    return to.people.size() <= 5 && n[0] < to.rooms && n[1] <= 1;
                }
            }
        }

        static Model blank() {
            return new Model(0);
        }

        private Model(int unused) {
        }

        int fault() {
            return told(blank());
        }

        int lay() {
            Model to = blank();
            if (told(to) != NONE || to.doors.isEmpty() || to.people.isEmpty()) {
                return NO;
            }
            rooms = to.rooms;
            doors = to.doors;
            people = to.people;
            doing = to.doing;
            cost = to.cost;
            before.clear();
            kept.clear();
            row.clear();
            films.clear();
            return rooms;
        }

        boolean noDoor(int d) {
            return d < 0 || d >= doors.size();
        }

        boolean noSide(int d, int e) {
            return noDoor(d) || e < 0 || e > 1;
        }

        boolean noPerson(int i) {
            return i < 0 || i >= people.size();
        }

        boolean noRoom(int r) {
            return r < 0 || r >= rooms;
        }

        static boolean out(int v, int least, int most) {
            return v < least || v > most;
        }

        int door(int d, int what) {
            if (noDoor(d) || out(what, 0, 7)) {
                return BAD;
            }
            Door x = doors.get(d);
            return new int[] {x.a, x.b, x.w, x.leaves, x.signs[0], x.signs[1], x.want(0), x.want(1)}[what];
        }

        int person(int i, int what) {
            if (noPerson(i) || out(what, 0, 2)) {
                return BAD;
            }
            Person p = people.get(i);
            return what == 0 ? p.room : what == 1 ? p.tray ? 1 : 0 : p.last;
        }

        int times(int i, int d, int e) {
            return noPerson(i) || noSide(d, e) ? BAD : people.get(i).went[d][e];
        }

        int does(int what) {
            return out(what, 0, 9) ? BAD : what < 6 ? doing[what] : cost[what - 6];
        }

        int[] signsDo(int want, int mine, int other, int grip) {
            int[] w = new int[3];
            w[1] += grip * (mine & 1);
            w[0] += doing[1] * (mine >> 1 & 1);
            w[0] += doing[2] * (mine >> 2 & 1);
            w[1] += doing[2] * (mine >> 3 & 1);
            w[want] += doing[3] * (mine >> 4 & 1);
            if ((mine >> 5 & 1) == 1) {
                w[0] += doing[2] / 2 * (other >> 2 & 1);
                w[1] += doing[2] / 2 * (other >> 3 & 1);
            }
            return w;
        }

        int[] weigh(Person p, int d, int e) {
            Door at = doors.get(d);
            int[] w = signsDo(at.want(e), at.signs[e], at.signs[1 - e], doing[0]);
            w[0]++;
            w[1]++;
            if (p.last != NONE) {
                w[p.last] += doing[4];
            }
            for (int g = 0; g < doors.size(); g++) {
                for (int f = 0; f < 2; f++) {
                    boolean counts = g == d ? f == e : doors.get(g).signs[f] == at.signs[e];
                    for (int k = 0; counts && k < p.went[g][f]; k++) {
                        w[doors.get(g).want(f)] += doing[5];
                    }
                }
            }
            return w;
        }

        Fraction wrongOf(Person p, int d, int e) {
            int[] w = weigh(p, d, e);
            Door at = doors.get(d);
            Fraction pull = p.tray ? new Fraction(0, 1) : new Fraction(w[1], w[0] + w[1]);
            Fraction push = p.tray ? new Fraction(1, 1) : new Fraction(w[0], w[0] + w[1]);
            int want = at.want(e);
            Fraction all = want == 2 ? new Fraction(0, 1) : want == 0 ? pull : push;
            return at.leaves == 1 ? all : all.plus(new Fraction(1, 2 + p.went[d][0] + p.went[d][1]));
        }

        int weighs(int i, int d, int e, int what) {
            return noPerson(i) || noSide(d, e) || out(what, 0, 1) ? BAD : weigh(people.get(i), d, e)[what];
        }

        int wrong(int i, int d, int e, int part) {
            if (noPerson(i) || noSide(d, e) || out(part, 0, 1)) {
                return BAD;
            }
            if (people.get(i).tray && doors.get(d).want(e) == 1) {
                return NONE;
            }
            Fraction f = wrongOf(people.get(i), d, e);
            return (part == 0 ? f.above : f.below).intValueExact();
        }

        /** The SIDE from which he can go, or -1. */
        int from(Person p, int d) {
            Door at = doors.get(d);
            int e = at.a == p.room ? 0 : at.b == p.room ? 1 : -1;
            return e >= 0 && p.tray && at.want(e) == 1 ? -1 : e;
        }

        void pass(Person p, int d, int e) {
            p.went[d][e] = Math.min(99, p.went[d][e] + 1);
            p.last = doors.get(d).want(e);
            p.room = doors.get(d).room(1 - e);
        }

        int go(int i, int d) {
            if (noPerson(i) || noDoor(d)) {
                return BAD;
            }
            int e = from(people.get(i), d);
            if (e < 0) {
                return NO;
            }
            remember();
            pass(people.get(i), d, e);
            return people.get(i).room;
        }

        int put(int d, int e, int s) {
            if (noSide(d, e) || out(s, 0, 63)) {
                return BAD;
            }
            remember();
            int was = doors.get(d).signs[e];
            doors.get(d).signs[e] = s;
            return was;
        }

        int hang(int d) {
            if (noDoor(d)) {
                return BAD;
            }
            if (doors.get(d).w == 2) {
                return NO;
            }
            remember();
            doors.get(d).w ^= 1;
            return doors.get(d).w;
        }

        int undo() {
            if (before.isEmpty()) {
                return NO;
            }
            as(before.remove(before.size() - 1));
            return before.size();
        }

        int tell(int d) {
            if (noDoor(d)) {
                return BAD;
            }
            if (row.size() == 12) {
                return FULL;
            }
            row.add(d);
            return row.size();
        }

        int noRow() {
            int n = row.size();
            row.clear();
            return n;
        }

        int along(int i) {
            if (noPerson(i)) {
                return BAD;
            }
            Person p = people.get(i).copy();
            int sum = 0;
            for (int d : row) {
                int e = from(p, d);
                if (e < 0) {
                    return NONE;
                }
                sum += wrongOf(p, d, e).of(1000);
                pass(p, d, e);
            }
            return sum;
        }

        int way(int i, int r, int what) {
            if (noPerson(i) || noRoom(r) || out(what, 0, 1)) {
                return BAD;
            }
            Person p = people.get(i).copy();
            if (p.room == r) {
                return what == 0 ? 0 : NONE;
            }
            int[][][] prices = new int[8][2][4];
            int last = p.last;
            for (int d = 0; d < doors.size(); d++) {
                for (int e = 0; e < 2; e++) {
                    for (int k = 0; k < 4; k++) {
                        p.last = k == 3 ? NONE : k;
                        prices[d][e][k] = wrongOf(p, d, e).of(1000);
                    }
                }
            }
            p.last = last;
            int best = Integer.MAX_VALUE;
            int first = NONE;
            for (int d = 0; d < doors.size(); d++) {
                int e = from(p, d);
                if (e >= 0) {
                    int cost = prices[d][e][last == NONE ? 3 : last];
                    int sum = walk(p, doors.get(d).room(1 - e), doors.get(d).want(e), r, 7, cost, best, prices);
                    if (sum < best) {
                        best = sum;
                        first = d;
                    }
                }
            }
            return best == Integer.MAX_VALUE ? NONE : what == 0 ? best : first;
        }

        /** Every walk, by one DOOR behind the other. */
        int walk(Person p, int room, int last, int goal, int left, int soFar, int best, int[][][] prices) {
            if (soFar >= best) {
                return best;
            }
            if (room == goal) {
                return soFar;
            }
            int least = best;
            for (int d = 0; left > 0 && d < doors.size(); d++) {
                Door at = doors.get(d);
                int e = at.a == room ? 0 : at.b == room ? 1 : -1;
                if (e >= 0 && !(p.tray && at.want(e) == 1)) {
                    least = walk(p, at.room(1 - e), at.want(e), goal, left - 1,
                            soFar + prices[d][e][last], least, prices);
                }
            }
            return least;
        }

        int learnt(int i, int d, int e, int x) {
            if (noPerson(i) || noSide(d, e) || out(x, 0, 99)) {
                return BAD;
            }
            for (int t = 0; t <= 99; t++) {
                Person p = people.get(i).copy();
                p.tray = false;
                p.last = NONE;
                p.went[d][e] = t;
                if (wrongOf(p, d, e).of(100) <= x) {
                    return t;
                }
            }
            return NONE;
        }

        int spoilt(int i, int d, int e, int g, int f) {
            if (noPerson(i) || noSide(d, e) || noSide(g, f) || d == g) {
                return BAD;
            }
            Person p = people.get(i).copy();
            p.tray = false;
            int first = wrongOf(p, d, e).of(1000);
            for (int k = 0; k < 10 && p.went[g][f] < 99; k++) {
                p.went[g][f]++;
            }
            int then = wrongOf(p, d, e).of(1000);
            return then > first ? then - first : 0;
        }

        int tray(int a, int b) {
            if (noRoom(a) || noRoom(b)) {
                return BAD;
            }
            int[] by = new int[8];
            Arrays.fill(by, 99);
            by[a] = 0;
            for (int k = 0; k < 8; k++) {
                for (Door d : doors) {
                    for (int e = 0; e < 2; e++) {
                        if (d.want(e) != 1) {
                            by[d.room(1 - e)] = Math.min(by[d.room(1 - e)], by[d.room(e)] + 1);
                        }
                    }
                }
            }
            return by[b] >= 99 ? NONE : by[b];
        }

        int price(int s) {
            int sum = 0;
            for (int k = 0; k < 4; k++) {
                sum += (s >> k & 1) * cost[k];
            }
            return sum;
        }

        int signs(int d, int e, int c, int what) {
            if (noSide(d, e) || out(c, 0, 99) || out(what, 0, 1)) {
                return BAD;
            }
            int was = doors.get(d).signs[e];
            List<int[]> sets = new ArrayList<>();
            List<Fraction> wrongs = new ArrayList<>();
            for (int s = 0; s < 16; s++) {
                if (price(s) <= c) {
                    doors.get(d).signs[e] = was & 48 | s;
                    sets.add(new int[] {s, sets.size()});
                    wrongs.add(wrongOf(new Person(), d, e));
                }
            }
            doors.get(d).signs[e] = was;
            sets.sort((u, v) -> {
                int by = wrongs.get(u[1]).compare(wrongs.get(v[1]));
                by = by != 0 ? by : Integer.compare(price(u[0]), price(v[0]));
                return by != 0 ? by : Integer.compare(u[0], v[0]);
            });
            int best = sets.get(0)[0];
            return what == 0 ? was & 48 | best : price(best);
        }

        int allWrong() {
            int sum = 0;
            for (int d = 0; d < doors.size(); d++) {
                sum += wrongOf(new Person(), d, 0).of(1000) + wrongOf(new Person(), d, 1).of(1000);
            }
            return sum;
        }

        int hung(int what) {
            if (out(what, 0, 1)) {
                return BAD;
            }
            int best = 0;
            int least = allWrong();
            for (int set = 1; set < 1 << doors.size(); set++) {
                boolean can = true;
                for (int d = 0; d < doors.size(); d++) {
                    can &= (set >> d & 1) == 0 || doors.get(d).w != 2;
                }
                if (!can) {
                    continue;
                }
                turn(set);
                int sum = allWrong();
                turn(set);
                if (sum < least || sum == least && Integer.bitCount(set) < Integer.bitCount(best)) {
                    least = sum;
                    best = set;
                }
            }
            return what == 0 ? best : least;
        }

        void turn(int set) {
            for (int d = 0; d < doors.size(); d++) {
                doors.get(d).w ^= set >> d & 1;
            }
        }

        int clash(int what) {
            if (out(what, 0, 1)) {
                return BAD;
            }
            int many = 0;
            int which = NONE;
            int most = 0;
            for (int k = 0; k < 2 * doors.size(); k++) {
                Door d = doors.get(k / 2);
                int[] w = signsDo(d.want(k % 2), d.signs[k % 2], d.signs[1 - k % 2], doing[0]);
                if (w[0] > 0 && w[1] > 0) {
                    many++;
                    if (Math.min(w[0], w[1]) > most) {
                        most = Math.min(w[0], w[1]);
                        which = k;
                    }
                }
            }
            return what == 0 ? many : which;
        }

        int worth(int k) {
            if (out(k, 0, 5)) {
                return BAD;
            }
            int now = allWrong();
            Shot was = shot();
            for (Door d : doors) {
                d.signs[0] &= ~(1 << k);
                d.signs[1] &= ~(1 << k);
            }
            int then = allWrong();
            as(was);
            return 20000 + then - now;
        }

        /** Of so many the last one's second by a DOOR, 0 for none, or 9999. */
        int lastOut(int n, int d, int e) {
            Door at = doors.get(d);
            int[] w = weigh(new Person(), d, e);
            int want = at.want(e);
            boolean late = want != 2 && 2 * w[want] < w[0] + w[1];
            if (want == 1 && n > 5) {
                return 9999;
            }
            int second = 0;
            int done = 0;
            while (done < n) {
                second = second == 0 ? late ? 4 : 1 : second + 1;
                done += done >= 10 && at.leaves == 2 ? 2 : 1;
            }
            return second;
        }

        int crowd(int n, int r, int d) {
            if (out(n, 1, 99) || noRoom(r) || d != -1 && noDoor(d)) {
                return BAD;
            }
            if (d != -1 && doors.get(d).a != r && doors.get(d).b != r) {
                return NO;
            }
            int[] best = new int[n + 1];
            Arrays.fill(best, 1, n + 1, 9999);
            for (int g = 0; g < doors.size(); g++) {
                Door at = doors.get(g);
                if (d != -1 && g != d || at.a != r && at.b != r) {
                    continue;
                }
                int[] seconds = new int[n + 1];
                for (int m = 0; m <= n; m++) {
                    seconds[m] = lastOut(m, g, at.a == r ? 0 : 1);
                }
                int[] next = new int[n + 1];
                for (int all = 0; all <= n; all++) {
                    next[all] = 9999;
                    for (int by = 0; by <= all; by++) {
                        next[all] = Math.min(next[all], Math.max(seconds[by], best[all - by]));
                    }
                }
                best = next;
            }
            return best[n] == 9999 ? NONE : best[n];
        }

        int film(int d, int e, int x, int n) {
            if (noSide(d, e) || out(n, 1, 50) || out(x, 0, 50) || x > n) {
                return BAD;
            }
            if (films.size() == 8) {
                return FULL;
            }
            films.add(new int[] {d, e, x, n});
            return films.size();
        }

        int forget() {
            int n = films.size();
            films.clear();
            return n;
        }

        int fits(int t, int what) {
            if (out(t, 0, 99) || out(what, 0, 1)) {
                return BAD;
            }
            List<Integer> good = new ArrayList<>();
            for (int g = 0; g <= 20; g++) {
                boolean all = true;
                for (int[] f : films) {
                    Door at = doors.get(f[0]);
                    int[] w = signsDo(at.want(f[1]), at.signs[f[1]], at.signs[1 - f[1]], g);
                    int chance = new Fraction(w[1] + 1, w[0] + w[1] + 2).of(100);
                    all &= Math.abs(chance - new Fraction(f[2], f[3]).of(100)) <= t;
                }
                if (all) {
                    good.add(g);
                }
            }
            return what == 0 ? good.size() : good.isEmpty() ? NONE : good.get(0);
        }

        int day(int z, int n, int d, int e, int what) {
            if (out(z, 0, 9999) || out(n, 1, 99) || noSide(d, e) || out(what, 0, 1)) {
                return BAD;
            }
            int[] w = weigh(new Person(), d, e);
            int want = doors.get(d).want(e);
            int wrong = 0;
            int pulls = 0;
            for (int k = 0; k < n; k++) {
                BigInteger q = BigInteger.valueOf(7919L * z).add(BigInteger.valueOf(6151L * k + 1));
                int draw = q.pow(2).mod(BigInteger.valueOf(65521)).intValue() / 16;
                int first = draw % (w[0] + w[1]) < w[1] ? 1 : 0;
                pulls += first;
                if (want != 2 && first != want) {
                    wrong++;
                    pulls += 1 - first;
                }
            }
            return what == 0 ? wrong : pulls;
        }

        int keep() {
            if (kept.size() == 2) {
                return FULL;
            }
            kept.add(shot());
            return kept.size();
        }

        int back() {
            if (kept.isEmpty()) {
                return NO;
            }
            as(kept.remove(kept.size() - 1));
            before.clear();
            return kept.size();
        }

        int count(int what) {
            return out(what, 0, 7) ? BAD : new int[] {rooms, doors.size(), people.size(), row.size(), films.size(),
                before.size(), kept.size(), text.length()}[what];
        }
    }
}
