/** A house of doors that say one thing and do another, told in a text. */
public final class PushSaidDoor {
    public static final int BAD = -1, NO = -2, FULL = -3, NONE = -4;

    private static final int MOST_LETTERS = 200;
    private static final int MOST_ROOMS = 8;
    private static final int MOST_DOORS = 8;
    private static final int MOST_SIDES = 2 * MOST_DOORS;
    private static final int MOST_PERSONS = 5;
    private static final int MOST_TIMES = 99;
    private static final int MOST_CHANGES = 8;
    private static final int MOST_TOLD = 12;
    private static final int MOST_ON_WAY = 8;
    private static final int MOST_FILMS = 8;
    private static final int MOST_KEPT = 2;

    private static final int PUSH = 0;
    private static final int PULL = 1;
    private static final int EITHER = 2;
    /** Stands where a last DOOR's WANT would stand, for one who went by none. */
    private static final int NO_LAST = 3;
    private static final int LASTS = 4;

    private static final int GRIP = 1;
    private static final int PLATE = 2;
    private static final int WORD_PUSH = 4;
    private static final int WORD_PULL = 8;
    private static final int HINGES = 16;
    private static final int GLASS = 32;
    private static final int ALL_SIGNS = 63;
    private static final int SIGN_KINDS = 6;
    private static final int PRICED_KINDS = 4;

    private static final int GRIP_DOES = 0;
    private static final int PLATE_DOES = 1;
    private static final int WORD_DOES = 2;
    private static final int HINGES_DO = 3;
    private static final int LAST_DOES = 4;
    private static final int TIME_DOES = 5;
    private static final int FIRST_COST = 6;
    private static final int DOINGS = FIRST_COST + PRICED_KINDS;

    private static final int DOOR_A = 0;
    private static final int DOOR_B = 1;
    private static final int DOOR_OPENS = 2;
    private static final int DOOR_LEAVES = 3;
    private static final int DOOR_SIGNS = 4;
    private static final int DOOR_CELLS = 6;

    private static final int PERSON_ROOM = 0;
    private static final int PERSON_TRAY = 1;
    private static final int PERSON_LAST = 2;
    private static final int PERSON_CELLS = 3;

    private static final int THOUSAND = 1000;
    private static final int HUNDRED = 100;

    private static final String FIRST_TEXT =
            "r3;d0,1,0,1;d1,2,1,2;s0,0,9;s1,0,6;p0,0;p2,1;";

    private final TextReader reader = new TextReader();
    private final House house = new House();
    private final House keptFirst = new House();
    private final House keptSecond = new House();
    private int keptCount = 0;
    private final Changes changes = new Changes();
    private final int[] toldRow = new int[MOST_TOLD];
    private int toldCount = 0;
    private final Films films = new Films();
    private final Walker walker = new Walker();
    private final Scale scale = new Scale();
    private final WayFinder wayFinder = new WayFinder();
    private final Stranger stranger = new Stranger();
    private final Crowds crowds = new Crowds();

    public PushSaidDoor() {
        for (int k = 0; k < FIRST_TEXT.length(); k++) {
            reader.append(FIRST_TEXT.charAt(k));
        }
        reader.readDraft();
        house.take(reader.draft);
        reader.empty();
    }

    // ---- houses

    public int write(int letter) {
        if (!isWithin(letter, 32, 126)) {
            return BAD;
        }
        if (reader.length >= MOST_LETTERS) {
            return FULL;
        }
        reader.append((char) letter);
        return reader.length;
    }

    public int wipe() {
        int before = reader.length;
        reader.empty();
        return before;
    }

    public int fault() {
        return reader.readDraft();
    }

    public int lay() {
        if (reader.readDraft() != NONE) {
            return NO;
        }
        if (reader.draft.doors < 1 || reader.draft.persons < 1) {
            return NO;
        }
        house.take(reader.draft);
        toldCount = 0;
        keptCount = 0;
        films.clear();
        changes.clear();
        return house.rooms;
    }

    public int door(int d, int what) {
        if (!house.isDoor(d) || !isWithin(what, 0, 7)) {
            return BAD;
        }
        if (what >= DOOR_CELLS) {
            return house.wantOn(d, what - DOOR_CELLS);
        }
        return house.ofDoor(d, what);
    }

    public int person(int i, int what) {
        if (!house.isPerson(i) || !isWithin(what, 0, 2)) {
            return BAD;
        }
        int answer = house.ofPerson(i, what);
        return what == PERSON_LAST && answer == NO_LAST ? NONE : answer;
    }

    public int times(int i, int d, int e) {
        return isPersonAt(i, d, e) ? house.wentBy(i, 2 * d + e) : BAD;
    }

    public int does(int what) {
        return isWithin(what, 0, DOINGS - 1) ? house.doing(what) : BAD;
    }

    // ---- hands

    public int weighs(int i, int d, int e, int what) {
        if (!isPersonAt(i, d, e) || !isWithin(what, 0, 1)) {
            return BAD;
        }
        walker.become(house, i);
        scale.weighWalker(house, walker, d, e);
        return what == PUSH ? scale.push : scale.pull;
    }

    public int wrong(int i, int d, int e, int part) {
        if (!isPersonAt(i, d, e) || !isWithin(part, 0, 1)) {
            return BAD;
        }
        walker.become(house, i);
        if (!walker.canDo(house.wantOn(d, e))) {
            return NONE;
        }
        scale.judgeWalker(house, walker, d, e);
        return scale.inLowestTerms(part);
    }

    public int go(int i, int d) {
        if (!house.isPerson(i) || !house.isDoor(d)) {
            return BAD;
        }
        walker.become(house, i);
        int e = house.sideIn(d, walker.room);
        if (e < 0 || !walker.canDo(house.wantOn(d, e))) {
            return NO;
        }
        changes.rememberGo(house, i, 2 * d + e);
        walker.pass(house, d, e);
        walker.leaveIn(house, i);
        return walker.room;
    }

    public int put(int d, int e, int signs) {
        if (!isSide(d, e) || !isWithin(signs, 0, ALL_SIGNS)) {
            return BAD;
        }
        int before = house.signsOn(d, e);
        changes.rememberDoor(d, DOOR_SIGNS + e, before);
        house.setOfDoor(d, DOOR_SIGNS + e, signs);
        return before;
    }

    public int hang(int d) {
        if (!house.isDoor(d)) {
            return BAD;
        }
        int before = house.ofDoor(d, DOOR_OPENS);
        if (before == EITHER) {
            return NO;
        }
        changes.rememberDoor(d, DOOR_OPENS, before);
        house.setOfDoor(d, DOOR_OPENS, 1 - before);
        return 1 - before;
    }

    public int undo() {
        if (changes.count < 1) {
            return NO;
        }
        changes.takeBack(house);
        return changes.count;
    }

    // ---- rows, ways

    public int tell(int d) {
        if (!house.isDoor(d)) {
            return BAD;
        }
        if (toldCount >= MOST_TOLD) {
            return FULL;
        }
        Cells.set(toldRow, toldCount, d);
        toldCount++;
        return toldCount;
    }

    public int noRow() {
        int before = toldCount;
        toldCount = 0;
        return before;
    }

    public int along(int i) {
        if (!house.isPerson(i)) {
            return BAD;
        }
        walker.become(house, i);
        int sum = 0;
        for (int k = 0; k < toldCount; k++) {
            int d = Cells.get(toldRow, k);
            int e = house.sideIn(d, walker.room);
            if (e < 0 || !walker.canDo(house.wantOn(d, e))) {
                return NONE;
            }
            scale.judgeWalker(house, walker, d, e);
            sum += scale.wrongOf(THOUSAND);
            walker.pass(house, d, e);
        }
        return sum;
    }

    public int way(int i, int r, int what) {
        if (!house.isPerson(i) || !house.isRoom(r) || !isWithin(what, 0, 1)) {
            return BAD;
        }
        walker.become(house, i);
        if (walker.room == r) {
            return what == 0 ? 0 : NONE;
        }
        wayFinder.priceSides(house, walker);
        wayFinder.find(house, walker, r);
        if (wayFinder.firstDoor < 0) {
            return NONE;
        }
        return what == 0 ? wayFinder.fewest : wayFinder.firstDoor;
    }

    // ---- what is learnt

    public int learnt(int i, int d, int e, int x) {
        if (!isPersonAt(i, d, e) || !isWithin(x, 0, 99)) {
            return BAD;
        }
        walker.become(house, i);
        walker.tray = false;
        walker.last = NO_LAST;
        for (int t = 0; t <= MOST_TIMES; t++) {
            Cells.set(walker.went, 2 * d + e, t);
            scale.judgeWalker(house, walker, d, e);
            if (scale.wrongOf(HUNDRED) <= x) {
                return t;
            }
        }
        return NONE;
    }

    public int spoilt(int i, int d, int e, int g, int f) {
        if (!isPersonAt(i, d, e) || !isSide(g, f) || d == g) {
            return BAD;
        }
        walker.become(house, i);
        walker.tray = false;
        scale.judgeWalker(house, walker, d, e);
        int before = scale.wrongOf(THOUSAND);
        int more = Cells.get(walker.went, 2 * g + f) + 10;
        Cells.set(walker.went, 2 * g + f, Math.min(more, MOST_TIMES));
        scale.judgeWalker(house, walker, d, e);
        return Math.max(scale.wrongOf(THOUSAND) - before, 0);
    }

    public int tray(int a, int b) {
        if (!house.isRoom(a) || !house.isRoom(b)) {
            return BAD;
        }
        int reached = 1 << a;
        for (int steps = 0; steps < MOST_ROOMS; steps++) {
            if ((reached >> b & 1) == 1) {
                return steps;
            }
            reached = oneDoorOnWithTray(reached);
        }
        return NONE;
    }

    private int oneDoorOnWithTray(int reached) {
        int next = reached;
        for (int d = 0; d < house.doors; d++) {
            for (int e = 0; e < 2; e++) {
                boolean isHere = (reached >> house.roomAt(d, e) & 1) == 1;
                if (isHere && house.wantOn(d, e) != PULL) {
                    next |= 1 << house.roomAt(d, 1 - e);
                }
            }
        }
        return next;
    }

    // ---- signs

    public int signs(int d, int e, int c, int what) {
        if (!isSide(d, e) || !isWithin(c, 0, 99) || !isWithin(what, 0, 1)) {
            return BAD;
        }
        int best = stranger.bestSigns(house, d, e, c);
        return what == 0 ? best : house.costOf(best);
    }

    public int hung(int what) {
        if (!isWithin(what, 0, 1)) {
            return BAD;
        }
        stranger.findHung(house);
        return what == 0 ? stranger.hungSet : stranger.hungParts;
    }

    public int clash(int what) {
        if (!isWithin(what, 0, 1)) {
            return BAD;
        }
        stranger.findClashes(house);
        if (what == 0) {
            return stranger.clashes;
        }
        return stranger.clashes == 0 ? NONE : stranger.worstClash;
    }

    public int worth(int k) {
        if (!isWithin(k, 0, SIGN_KINDS - 1)) {
            return BAD;
        }
        int without = stranger.partsInAll(house, ALL_SIGNS & ~(1 << k));
        return 20000 + without - stranger.partsInAll(house, ALL_SIGNS);
    }

    // ---- crowds, films, days

    public int crowd(int n, int r, int d) {
        boolean byAll = d == -1;
        if (!isWithin(n, 1, 99) || !house.isRoom(r) || !byAll && !house.isDoor(d)) {
            return BAD;
        }
        if (!byAll && house.sideIn(d, r) < 0) {
            return NO;
        }
        crowds.noDoors();
        for (int k = 0; k < house.doors; k++) {
            if (byAll || k == d) {
                crowds.useDoor(house, stranger, k, house.sideIn(k, r));
            }
        }
        return crowds.secondsFor(n);
    }

    public int film(int d, int e, int x, int n) {
        if (!isSide(d, e) || !isWithin(n, 1, 50) || !isWithin(x, 0, n)) {
            return BAD;
        }
        if (films.count >= MOST_FILMS) {
            return FULL;
        }
        films.add(d, e, x * HUNDRED / n);
        return films.count;
    }

    public int forget() {
        int before = films.count;
        films.clear();
        return before;
    }

    public int fits(int t, int what) {
        if (!isWithin(t, 0, 99) || !isWithin(what, 0, 1)) {
            return BAD;
        }
        int fitting = 0;
        int lowest = NONE;
        for (int g = 20; g >= 0; g--) {
            if (films.allFit(house, scale, g, t)) {
                fitting++;
                lowest = g;
            }
        }
        return what == 0 ? fitting : lowest;
    }

    public int day(int z, int n, int d, int e, int what) {
        if (!isWithin(z, 0, 9999) || !isWithin(n, 1, 99)
                || !isSide(d, e) || !isWithin(what, 0, 1)) {
            return BAD;
        }
        scale.weighStranger(house, d, e);
        int pullsFirst = 0;
        for (int k = 0; k < n; k++) {
            if (scale.pullsByDraw(drawOf(z, k))) {
                pullsFirst++;
            }
        }
        int want = house.wantOn(d, e);
        if (what == 1) {
            return want == PULL ? n : pullsFirst;
        }
        if (want == EITHER) {
            return 0;
        }
        return want == PUSH ? pullsFirst : n - pullsFirst;
    }

    private static int drawOf(int z, int k) {
        long q = 7919L * z + 6151L * k + 1L;
        return (int) (q * q % 65521L / 16L);
    }

    public int keep() {
        if (keptCount >= MOST_KEPT) {
            return FULL;
        }
        House place = keptCount == 0 ? keptFirst : keptSecond;
        place.take(house);
        keptCount++;
        return keptCount;
    }

    public int back() {
        if (keptCount < 1) {
            return NO;
        }
        keptCount--;
        house.take(keptCount == 0 ? keptFirst : keptSecond);
        changes.clear();
        return keptCount;
    }

    public int count(int what) {
        switch (what) {
            case 0: return house.rooms;
            case 1: return house.doors;
            case 2: return house.persons;
            case 3: return toldCount;
            case 4: return films.count;
            case 5: return changes.count;
            case 6: return keptCount;
            case 7: return reader.length;
            default: return BAD;
        }
    }

    // ---- which numbers are told

    private static boolean isWithin(int number, int least, int most) {
        return number >= least && number <= most;
    }

    private boolean isSide(int d, int e) {
        return house.isDoor(d) && isWithin(e, 0, 1);
    }

    private boolean isPersonAt(int i, int d, int e) {
        return house.isPerson(i) && isSide(d, e);
    }

    /** Rows of numbers, whose indices are looked at before they are used. */
    private static final class Cells {
        static int get(int[] row, int at) {
            return at >= 0 && at < row.length ? row[at] : 0;
        }

        static void set(int[] row, int at, int value) {
            if (at >= 0 && at < row.length) {
                row[at] = value;
            }
        }

        static void copy(int[] from, int[] to) {
            System.arraycopy(from, 0, to, 0, Math.min(from.length, to.length));
        }

        static void fill(int[] row, int value) {
            for (int k = 0; k < row.length; k++) {
                row[k] = value;
            }
        }
    }

    /** ROOMS, DOORS, PERSONS and what each thing does and costs. */
    private static final class House {
        int rooms = 3;
        int doors = 0;
        int persons = 0;
        private final int[] doorCells = new int[MOST_DOORS * DOOR_CELLS];
        private final int[] personCells = new int[MOST_PERSONS * PERSON_CELLS];
        private final int[] went = new int[MOST_PERSONS * MOST_SIDES];
        private final int[] doings = new int[DOINGS];

        void clear() {
            rooms = 3;
            doors = 0;
            persons = 0;
            setDoing(GRIP_DOES, 6);
            setDoing(PLATE_DOES, 6);
            setDoing(WORD_DOES, 4);
            setDoing(HINGES_DO, 3);
            setDoing(LAST_DOES, 2);
            setDoing(TIME_DOES, 2);
            for (int k = FIRST_COST; k < DOINGS; k++) {
                setDoing(k, 3);
            }
            Cells.fill(doorCells, 0);
            Cells.fill(personCells, 0);
            Cells.fill(went, 0);
        }

        void take(House other) {
            rooms = other.rooms;
            doors = other.doors;
            persons = other.persons;
            Cells.copy(other.doorCells, doorCells);
            Cells.copy(other.personCells, personCells);
            Cells.copy(other.went, went);
            Cells.copy(other.doings, doings);
        }

        boolean isRoom(int r) {
            return r >= 0 && r < rooms;
        }

        boolean isDoor(int d) {
            return d >= 0 && d < doors;
        }

        boolean isPerson(int i) {
            return i >= 0 && i < persons;
        }

        void addDoor(int a, int b, int opens, int leaves) {
            setOfDoor(doors, DOOR_A, a);
            setOfDoor(doors, DOOR_B, b);
            setOfDoor(doors, DOOR_OPENS, opens);
            setOfDoor(doors, DOOR_LEAVES, leaves);
            doors++;
        }

        void addPerson(int room, int tray) {
            setOfPerson(persons, PERSON_ROOM, room);
            setOfPerson(persons, PERSON_TRAY, tray);
            setOfPerson(persons, PERSON_LAST, NO_LAST);
            persons++;
        }

        int ofDoor(int d, int cell) {
            return Cells.get(doorCells, d * DOOR_CELLS + cell);
        }

        void setOfDoor(int d, int cell, int value) {
            Cells.set(doorCells, d * DOOR_CELLS + cell, value);
        }

        int ofPerson(int i, int cell) {
            return Cells.get(personCells, i * PERSON_CELLS + cell);
        }

        void setOfPerson(int i, int cell, int value) {
            Cells.set(personCells, i * PERSON_CELLS + cell, value);
        }

        int wentBy(int i, int side) {
            return Cells.get(went, i * MOST_SIDES + side);
        }

        void setWentBy(int i, int side, int value) {
            Cells.set(went, i * MOST_SIDES + side, value);
        }

        int doing(int which) {
            return Cells.get(doings, which);
        }

        void setDoing(int which, int value) {
            Cells.set(doings, which, value);
        }

        int signsOn(int d, int e) {
            return ofDoor(d, DOOR_SIGNS + e);
        }

        int wantOn(int d, int e) {
            return wantOf(ofDoor(d, DOOR_OPENS), e);
        }

        /** A DOOR opens away from A by 0 and from B by 1: so from the SIDE of its own number. */
        static int wantOf(int opens, int e) {
            if (opens == EITHER) {
                return EITHER;
            }
            return opens == e ? PUSH : PULL;
        }

        int roomAt(int d, int e) {
            return ofDoor(d, e == 0 ? DOOR_A : DOOR_B);
        }

        /** The SIDE of a DOOR that is in a ROOM, or -1. */
        int sideIn(int d, int room) {
            if (roomAt(d, 0) == room) {
                return 0;
            }
            return roomAt(d, 1) == room ? 1 : -1;
        }

        int costOf(int signs) {
            int sum = 0;
            for (int k = 0; k < PRICED_KINDS; k++) {
                if ((signs >> k & 1) == 1) {
                    sum += doing(FIRST_COST + k);
                }
            }
            return sum;
        }
    }

    /** THE TEXT, and the house that it tells. */
    private static final class TextReader {
        private final char[] letters = new char[MOST_LETTERS];
        private final int[] numbers = new int[6];
        private int at = 0;
        private boolean onlyRoomsAhead = true;
        int length = 0;
        final House draft = new House();

        void append(char letter) {
            if (length >= 0 && length < letters.length) {
                letters[length] = letter;
                length++;
            }
        }

        void empty() {
            length = 0;
        }

        /** Tells the draft anew, up to the first FAULT: its place, or NONE. */
        int readDraft() {
            draft.clear();
            at = 0;
            onlyRoomsAhead = true;
            for (int items = 0; items < MOST_LETTERS && at < length; items++) {
                int start = at;
                if (!readItem(letterAt(start))) {
                    return start;
                }
            }
            return NONE;
        }

        private boolean readItem(char kind) {
            if (kind == 'r') {
                return readNumbers(1) && acceptRooms();
            }
            onlyRoomsAhead = false;
            switch (kind) {
                case 'd': return readNumbers(4) && acceptDoor();
                case 's': return readNumbers(3) && acceptSigns();
                case 'w': return readNumbers(6) && acceptDoings();
                case 'c': return readNumbers(2) && acceptCost();
                case 'p': return readNumbers(2) && acceptPerson();
                default: return false;
            }
        }

        private boolean acceptRooms() {
            if (!onlyRoomsAhead || !isWithin(number(0), 2, MOST_ROOMS)) {
                return false;
            }
            draft.rooms = number(0);
            return true;
        }

        private boolean acceptDoor() {
            boolean areRooms = draft.isRoom(number(0)) && draft.isRoom(number(1));
            if (draft.doors >= MOST_DOORS || !areRooms || number(0) == number(1)) {
                return false;
            }
            if (!isWithin(number(2), 0, 2) || !isWithin(number(3), 1, 2)) {
                return false;
            }
            draft.addDoor(number(0), number(1), number(2), number(3));
            return true;
        }

        private boolean acceptSigns() {
            if (!draft.isDoor(number(0)) || !isWithin(number(1), 0, 1)
                    || !isWithin(number(2), 0, ALL_SIGNS)) {
                return false;
            }
            draft.setOfDoor(number(0), DOOR_SIGNS + number(1), number(2));
            return true;
        }

        private boolean acceptDoings() {
            for (int k = 0; k < FIRST_COST; k++) {
                if (!isWithin(number(k), 0, 20)) {
                    return false;
                }
            }
            for (int k = 0; k < FIRST_COST; k++) {
                draft.setDoing(k, number(k));
            }
            return true;
        }

        private boolean acceptCost() {
            if (!isWithin(number(0), 0, PRICED_KINDS - 1) || !isWithin(number(1), 0, 20)) {
                return false;
            }
            draft.setDoing(FIRST_COST + number(0), number(1));
            return true;
        }

        private boolean acceptPerson() {
            if (draft.persons >= MOST_PERSONS || !draft.isRoom(number(0))
                    || !isWithin(number(1), 0, 1)) {
                return false;
            }
            draft.addPerson(number(0), number(1));
            return true;
        }

        private int number(int k) {
            return Cells.get(numbers, k);
        }

        /** From the ITEM's letter to behind its ; the numbers, if there are just so many. */
        private boolean readNumbers(int many) {
            at++;
            for (int k = 0; k < many; k++) {
                int value = readNumber();
                char closing = k + 1 < many ? ',' : ';';
                if (value < 0 || letterAt(at) != closing) {
                    return false;
                }
                at++;
                Cells.set(numbers, k, value);
            }
            return true;
        }

        private int readNumber() {
            int first = figureAt(at);
            if (first < 0) {
                return -1;
            }
            at++;
            int second = figureAt(at);
            if (second < 0) {
                return first;
            }
            at++;
            return 10 * first + second;
        }

        private int figureAt(int place) {
            char letter = letterAt(place);
            return letter >= '0' && letter <= '9' ? letter - '0' : -1;
        }

        private char letterAt(int place) {
            boolean isTold = place >= 0 && place < length && place < letters.length;
            return isTold ? letters[place] : (char) 0;
        }
    }

    /** A PERSON taken out of the house, so that he can be thought elsewhere. */
    private static final class Walker {
        int room = 0;
        boolean tray = false;
        int last = NO_LAST;
        final int[] went = new int[MOST_SIDES];

        void become(House house, int i) {
            room = house.ofPerson(i, PERSON_ROOM);
            tray = house.ofPerson(i, PERSON_TRAY) == 1;
            last = house.ofPerson(i, PERSON_LAST);
            for (int side = 0; side < MOST_SIDES; side++) {
                Cells.set(went, side, house.wentBy(i, side));
            }
        }

        void leaveIn(House house, int i) {
            house.setOfPerson(i, PERSON_ROOM, room);
            house.setOfPerson(i, PERSON_LAST, last);
            for (int side = 0; side < MOST_SIDES; side++) {
                house.setWentBy(i, side, Cells.get(went, side));
            }
        }

        boolean canDo(int want) {
            return !tray || want != PULL;
        }

        void pass(House house, int d, int e) {
            int more = Cells.get(went, 2 * d + e) + 1;
            Cells.set(went, 2 * d + e, Math.min(more, MOST_TIMES));
            last = house.wantOn(d, e);
            room = house.roomAt(d, 1 - e);
        }
    }

    /** What push and pull WEIGH, and by that how often one is WRONG, as a fraction. */
    private static final class Scale {
        int push = 1;
        int pull = 1;
        int above = 0;
        int below = 1;

        void weighWalker(House house, Walker who, int d, int e) {
            int mine = house.signsOn(d, e);
            weighSigns(house, house.wantOn(d, e), mine, house.signsOn(d, 1 - e));
            add(who.last, house.doing(LAST_DOES));
            int each = house.doing(TIME_DOES);
            for (int side = 0; side < 2 * house.doors; side++) {
                int times = Cells.get(who.went, side);
                int otherDoor = side >> 1;
                int otherSide = side & 1;
                boolean isThis = otherDoor == d && otherSide == e;
                boolean isAlike = otherDoor != d && house.signsOn(otherDoor, otherSide) == mine;
                if (times > 0 && (isThis || isAlike)) {
                    add(house.wantOn(otherDoor, otherSide), each * times);
                }
            }
        }

        void weighStranger(House house, int d, int e) {
            weighSigns(house, house.wantOn(d, e), house.signsOn(d, e), house.signsOn(d, 1 - e));
        }

        void weighSigns(House house, int want, int mine, int other) {
            push = 1;
            pull = 1;
            int word = house.doing(WORD_DOES);
            if ((mine & GRIP) != 0) {
                add(PULL, house.doing(GRIP_DOES));
            }
            if ((mine & PLATE) != 0) {
                add(PUSH, house.doing(PLATE_DOES));
            }
            addWords(mine, word);
            if ((mine & HINGES) != 0) {
                add(want, house.doing(HINGES_DO));
            }
            if ((mine & GLASS) != 0) {
                addWords(other, word / 2);
            }
        }

        private void addWords(int signs, int amount) {
            if ((signs & WORD_PUSH) != 0) {
                add(PUSH, amount);
            }
            if ((signs & WORD_PULL) != 0) {
                add(PULL, amount);
            }
        }

        private void add(int to, int amount) {
            if (to == PUSH) {
                push += amount;
            } else if (to == PULL) {
                pull += amount;
            }
        }

        void judgeWalker(House house, Walker who, int d, int e) {
            weighWalker(house, who, d, e);
            int bothSides = Cells.get(who.went, 2 * d) + Cells.get(who.went, 2 * d + 1);
            int leaves = house.ofDoor(d, DOOR_LEAVES);
            judge(house.wantOn(d, e), who.tray, leaves, bothSides);
        }

        void judge(int want, boolean tray, int leaves, int bothSides) {
            int together = push + pull;
            above = tray ? 0 : againstWant(want);
            below = together;
            if (leaves == 2) {
                int bolt = 2 + bothSides;
                above = above * bolt + together;
                below = together * bolt;
            }
        }

        private int againstWant(int want) {
            if (want == EITHER) {
                return 0;
            }
            return want == PUSH ? pull : push;
        }

        boolean isMostlyWrong(int want) {
            return 2 * againstWant(want) > push + pull;
        }

        boolean pullsByDraw(int draw) {
            int together = push + pull;
            return together > 0 && draw % together < pull;
        }

        /** How often one is WRONG of so many, cut. */
        int wrongOf(int many) {
            return below > 0 ? (int) ((long) above * many / below) : 0;
        }

        boolean isLessWrongThan(int otherAbove, int otherBelow) {
            return (long) above * otherBelow < (long) otherAbove * below;
        }

        boolean isAsWrongAs(int otherAbove, int otherBelow) {
            return (long) above * otherBelow == (long) otherAbove * below;
        }

        int inLowestTerms(int part) {
            int common = commonDivisor();
            int number = part == 0 ? above : below;
            return common > 0 ? number / common : number;
        }

        private int commonDivisor() {
            int a = above;
            int b = below;
            // Euclid needs some 45 turns at most for 32 bits
            for (int turn = 0; turn < 64 && b != 0; turn++) {
                int rest = a % b;
                a = b;
                b = rest;
            }
            return a;
        }
    }

    /** What go(), put() and hang() changed, the last few of them. */
    private static final class Changes {
        private static final int OF_PERSON = 0;
        private static final int OF_DOOR = 1;
        private static final int CELLS = 6;

        private final int[] rows = new int[MOST_CHANGES * CELLS];
        private int next = 0;
        int count = 0;

        void clear() {
            count = 0;
        }

        void rememberGo(House house, int i, int side) {
            int start = next * CELLS;
            Cells.set(rows, start, OF_PERSON);
            Cells.set(rows, start + 1, i);
            Cells.set(rows, start + 2, side);
            Cells.set(rows, start + 3, house.wentBy(i, side));
            Cells.set(rows, start + 4, house.ofPerson(i, PERSON_ROOM));
            Cells.set(rows, start + 5, house.ofPerson(i, PERSON_LAST));
            step();
        }

        void rememberDoor(int d, int cell, int before) {
            int start = next * CELLS;
            Cells.set(rows, start, OF_DOOR);
            Cells.set(rows, start + 1, d);
            Cells.set(rows, start + 2, cell);
            Cells.set(rows, start + 3, before);
            step();
        }

        private void step() {
            next = (next + 1) % MOST_CHANGES;
            count = Math.min(count + 1, MOST_CHANGES);
        }

        void takeBack(House house) {
            next = (next + MOST_CHANGES - 1) % MOST_CHANGES;
            count--;
            int start = next * CELLS;
            int which = Cells.get(rows, start + 1);
            int place = Cells.get(rows, start + 2);
            int before = Cells.get(rows, start + 3);
            if (Cells.get(rows, start) == OF_DOOR) {
                house.setOfDoor(which, place, before);
                return;
            }
            house.setWentBy(which, place, before);
            house.setOfPerson(which, PERSON_ROOM, Cells.get(rows, start + 4));
            house.setOfPerson(which, PERSON_LAST, Cells.get(rows, start + 5));
        }
    }

    /** The WAY on which a PERSON is WRONG least. */
    private static final class WayFinder {
        private static final int TOO_MANY = 1000000;

        private final Scale scale = new Scale();
        /** PARTS by the SIDE gone from and by what the last DOOR WANTED. */
        private final int[] prices = new int[MOST_SIDES * LASTS];
        /** PARTS to the goal by ROOM and by what the last DOOR WANTED. */
        private final int[] shorter = new int[MOST_ROOMS * LASTS];
        private final int[] longer = new int[MOST_ROOMS * LASTS];
        int fewest = TOO_MANY;
        int firstDoor = -1;

        /** By the prices that were put up before. */
        void find(House house, Walker who, int goal) {
            startAt(goal, shorter);
            for (int doors = 1; doors < MOST_ON_WAY; doors++) {
                startAt(goal, longer);
                oneDoorMore(house, who);
                Cells.copy(longer, shorter);
            }
            chooseFirst(house, who);
        }

        void priceSides(House house, Walker who) {
            int lastNow = who.last;
            for (int side = 0; side < 2 * house.doors; side++) {
                for (int last = 0; last < LASTS; last++) {
                    who.last = last;
                    scale.judgeWalker(house, who, side >> 1, side & 1);
                    Cells.set(prices, side * LASTS + last, scale.wrongOf(THOUSAND));
                }
            }
            who.last = lastNow;
        }

        private static void startAt(int goal, int[] parts) {
            Cells.fill(parts, TOO_MANY);
            for (int last = 0; last < LASTS; last++) {
                Cells.set(parts, goal * LASTS + last, 0);
            }
        }

        private void oneDoorMore(House house, Walker who) {
            for (int side = 0; side < 2 * house.doors; side++) {
                if (!who.canDo(house.wantOn(side >> 1, side & 1))) {
                    continue;
                }
                int from = house.roomAt(side >> 1, side & 1);
                for (int last = 0; last < LASTS; last++) {
                    int parts = partsBy(house, side, last);
                    int place = from * LASTS + last;
                    Cells.set(longer, place, Math.min(parts, Cells.get(longer, place)));
                }
            }
        }

        private int partsBy(House house, int side, int last) {
            int d = side >> 1;
            int e = side & 1;
            int then = house.roomAt(d, 1 - e) * LASTS + house.wantOn(d, e);
            return Cells.get(prices, side * LASTS + last) + Cells.get(shorter, then);
        }

        private void chooseFirst(House house, Walker who) {
            fewest = TOO_MANY;
            firstDoor = -1;
            for (int d = 0; d < house.doors; d++) {
                int e = house.sideIn(d, who.room);
                if (e < 0 || !who.canDo(house.wantOn(d, e))) {
                    continue;
                }
                int parts = partsBy(house, 2 * d + e, who.last);
                if (parts < fewest) {
                    fewest = parts;
                    firstDoor = d;
                }
            }
        }
    }

    /** One without a TRAY who went by no DOOR, before the SIGNS of the house. */
    private static final class Stranger {
        private final Scale scale = new Scale();
        int hungSet = 0;
        int hungParts = 0;
        int clashes = 0;
        int worstClash = 0;

        boolean isMostlyWrongAt(House house, int d, int e) {
            scale.weighStranger(house, d, e);
            return scale.isMostlyWrong(house.wantOn(d, e));
        }

        int bestSigns(House house, int d, int e, int most) {
            int fixed = house.signsOn(d, e) & (HINGES | GLASS);
            int want = house.wantOn(d, e);
            int other = house.signsOn(d, 1 - e);
            int best = fixed;
            judgeSigns(house, d, want, fixed, other);
            int bestAbove = scale.above;
            int bestBelow = scale.below;
            for (int set = 1; set < 1 << PRICED_KINDS; set++) {
                int cost = house.costOf(set);
                if (cost > most) {
                    continue;
                }
                judgeSigns(house, d, want, set | fixed, other);
                boolean isCheaper = scale.isAsWrongAs(bestAbove, bestBelow)
                        && cost < house.costOf(best);
                if (isCheaper || scale.isLessWrongThan(bestAbove, bestBelow)) {
                    best = set | fixed;
                    bestAbove = scale.above;
                    bestBelow = scale.below;
                }
            }
            return best;
        }

        private void judgeSigns(House house, int d, int want, int mine, int other) {
            scale.weighSigns(house, want, mine, other);
            scale.judge(want, false, house.ofDoor(d, DOOR_LEAVES), 0);
        }

        /** PARTS on both SIDES of a DOOR, if it opened so and no SIGN stood but the allowed. */
        private int partsAt(House house, int d, int opens, int allowed) {
            int sum = 0;
            for (int e = 0; e < 2; e++) {
                int mine = house.signsOn(d, e) & allowed;
                int other = house.signsOn(d, 1 - e) & allowed;
                judgeSigns(house, d, House.wantOf(opens, e), mine, other);
                sum += scale.wrongOf(THOUSAND);
            }
            return sum;
        }

        int partsInAll(House house, int allowed) {
            int sum = 0;
            for (int d = 0; d < house.doors; d++) {
                sum += partsAt(house, d, house.ofDoor(d, DOOR_OPENS), allowed);
            }
            return sum;
        }

        /** No DOOR does anything to a STRANGER at another one, so each is looked at alone. */
        void findHung(House house) {
            hungSet = 0;
            hungParts = 0;
            for (int d = 0; d < house.doors; d++) {
                int opens = house.ofDoor(d, DOOR_OPENS);
                int asItIs = partsAt(house, d, opens, ALL_SIGNS);
                int otherWay = opens == EITHER ? asItIs : partsAt(house, d, 1 - opens, ALL_SIGNS);
                if (otherWay < asItIs) {
                    hungSet |= 1 << d;
                }
                hungParts += Math.min(asItIs, otherWay);
            }
        }

        void findClashes(House house) {
            clashes = 0;
            worstClash = 0;
            int most = 0;
            for (int side = 0; side < 2 * house.doors; side++) {
                int d = side >> 1;
                int e = side & 1;
                scale.weighStranger(house, d, e);
                // SIGNS alone did it, without the 1 that each WEIGHS by itself
                int less = Math.min(scale.push, scale.pull) - 1;
                if (less > 0) {
                    clashes++;
                }
                if (less > most) {
                    most = less;
                    worstClash = side;
                }
            }
        }
    }

    /** DOORS by which a crowd goes out, and how soon. */
    private static final class Crowds {
        private static final int MOST_BY_PULL = 5;
        private static final int ONE_BY_ONE = 10;
        /** 99 by one leaf, the first of them behind 4 seconds. */
        private static final int LAST_SECOND = 102;

        private final int[] firstOut = new int[MOST_DOORS];
        private final int[] leaves = new int[MOST_DOORS];
        private final int[] wants = new int[MOST_DOORS];
        private int doors = 0;

        void noDoors() {
            doors = 0;
        }

        void useDoor(House house, Stranger stranger, int d, int e) {
            if (e < 0) {
                return;
            }
            Cells.set(firstOut, doors, stranger.isMostlyWrongAt(house, d, e) ? 4 : 1);
            Cells.set(leaves, doors, house.ofDoor(d, DOOR_LEAVES));
            Cells.set(wants, doors, house.wantOn(d, e));
            doors++;
        }

        int secondsFor(int n) {
            for (int seconds = 1; seconds <= LAST_SECOND; seconds++) {
                int out = 0;
                for (int k = 0; k < doors; k++) {
                    out += outBy(k, seconds);
                }
                if (out >= n) {
                    return seconds;
                }
            }
            return NONE;
        }

        private int outBy(int k, int seconds) {
            int out = Math.max(seconds - Cells.get(firstOut, k) + 1, 0);
            if (out > ONE_BY_ONE && Cells.get(leaves, k) == 2) {
                out += out - ONE_BY_ONE;
            }
            return Cells.get(wants, k) == PULL ? Math.min(out, MOST_BY_PULL) : out;
        }
    }

    /** What FILMS tell: of a hundred STRANGERS how many pulled first. */
    private static final class Films {
        private final int[] filmDoors = new int[MOST_FILMS];
        private final int[] filmSides = new int[MOST_FILMS];
        private final int[] pulled = new int[MOST_FILMS];
        int count = 0;

        void clear() {
            count = 0;
        }

        void add(int d, int e, int ofHundred) {
            Cells.set(filmDoors, count, d);
            Cells.set(filmSides, count, e);
            Cells.set(pulled, count, ofHundred);
            count++;
        }

        boolean allFit(House house, Scale scale, int grip, int most) {
            for (int k = 0; k < count; k++) {
                int d = Cells.get(filmDoors, k);
                int e = Cells.get(filmSides, k);
                int away = pullsOfHundred(house, scale, d, e, grip) - Cells.get(pulled, k);
                if (away > most || away < -most) {
                    return false;
                }
            }
            return true;
        }

        private static int pullsOfHundred(House house, Scale scale, int d, int e, int grip) {
            int mine = house.signsOn(d, e);
            scale.weighSigns(house, house.wantOn(d, e), mine & ~GRIP, house.signsOn(d, 1 - e));
            int pull = scale.pull + ((mine & GRIP) != 0 ? grip : 0);
            int together = scale.push + pull;
            return together > 0 ? pull * HUNDRED / together : 0;
        }
    }
}
