/** Atlas's hall, where leaves are held by two; ../shared/DOC.md says what each call promises. */
public final class AtlasEnds {
    public static final int NONE = -1, BAD = -2, STATE = -3, FULL = -4;
    public static final long NO = Long.MIN_VALUE;

    /** What stands for "none" where NONE would say that a number given is wrong. */
    private static final int NOT_ANY = -5;
    private static final int LESS_THE_FAULT = -10;
    private static final int NOTHING = -11, CAST = -12, PLACE = -13, SIZE = -14;
    /** NONE and STATE of the calls whose answers may themselves be below 0. */
    private static final int LOW_NONE = -10001, LOW_STATE = -10003;

    private static final int PEOPLE_MOST = 6, LEAVES_MOST = 4, LIBRARIES_MOST = 6, TAPES = 6;
    private static final int V_MOST = 9, PLACE_MOST = 99, LENGTH_MOST = 40, ROW_SIZE = 4, ROW_MOST = 9;
    private static final int DROPS_MOST = 9999, STEP_MOST = 9999;
    private static final int STEPS_AT_ONCE = 60, STEPS_CHOSEN_BY = 20, STEPS_SEEN = 12;
    private static final int TEXT_MOST = 100, SIGN_MOST = 127, CLAUSES_MOST = 10, NEST_MOST = 4;
    private static final int BEAR_WITHOUT = 6;
    private static final int SEEN_MOST = 5, PLAN_MOST = 10, BOOK_MOST = 8;
    private static final int TRACE_MOST = 20, ACT_DEPTH_MOST = 40;
    private static final int ITEMS_MOST = 60, ROW_ENDS = 100;

    private static final int ONE = 0, READER = 1, CLERK = 2, WALKER = 3, DREAMER = 4, PORTER = 5, TOLD = 6;
    private static final int KIND_MOST = TOLD;
    private static final int NO_KIND = -1;
    private static final int[] KIND_ABOVE = {NO_KIND, ONE, ONE, ONE, READER, CLERK, WALKER};

    private static final int BOWS = 0, TUGS = 1, TELLS = 2, ACTS = 3;
    /** By KIND, then by act; 0 where the KIND has no body of its own. */
    private static final int[] BODIES = {
        10, 11, 12,
        0, 20, 0,
        30, 0, 0,
        0, 0, 40,
        50, 51, 0,
        0, 0, 60,
        71, 70, 0};

    private static final int BYTES = 0, SHORTS = 1, INTS = 2, LONGS = 3, BOOLEANS = 4, NO_SORT = -1;

    private static final int PLAN_STEP = 0, PLAN_LET_GO = 1, PLAN_LONGEST = 2, PLAN_WALK = 3;

    private final Hall now = new Hall();
    private final Hall imageHall = new Hall();
    private final Ahead ahead = new Ahead();
    private final Notes notes = new Notes();
    private final Notes imageNotes = new Notes();
    private boolean hasImage;
    private final Library[] libraries = new Library[LIBRARIES_MOST];
    private int libraryCount;
    private final LibraryReader reader = new LibraryReader();
    private final Acts acts = new Acts();
    private final Tape[] tapes = new Tape[TAPES];

    public AtlasEnds() {
        for (int i = 0; i < LIBRARIES_MOST; i++) {
            libraries[i] = new Library();
        }
        for (int i = 0; i < TAPES; i++) {
            tapes[i] = new Tape();
        }
    }

    // ---- people, leaves, libraries

    public int one(int kind, int v, int spot) {
        if (!isWithin(kind, KIND_MOST)) {
            return NONE;
        }
        if (!isWithin(v, V_MOST) || !isWithin(spot, PLACE_MOST)) {
            return BAD;
        }
        if (now.people >= PEOPLE_MOST) {
            return FULL;
        }
        return now.addPerson(kind, v, spot);
    }

    public int of(int person, int what) {
        if (!now.isPerson(person)) {
            return LOW_NONE;
        }
        switch (what) {
            case 0: return now.kind[person];
            case 1: return now.v[person];
            case 2: return now.place[person];
            case 3: return now.holdsHowMany(person);
            case 4: return now.driftOf(person);
            default: return LOW_NONE;
        }
    }

    public int leaf(int length) {
        if (length < 1 || length > LENGTH_MOST) {
            return BAD;
        }
        if (now.leaves >= LEAVES_MOST) {
            return FULL;
        }
        return now.addLeaf(length);
    }

    public int sheet(int leaf, int what) {
        if (!now.isLeaf(leaf)) {
            return NONE;
        }
        switch (what) {
            case 0: return now.length[leaf];
            case 1: return now.first[leaf];
            case 2: return now.second[leaf];
            case 3: return ahead.lastsOf(now, leaf);
            case 4: return ahead.partnerOf(now, leaf);
            case 5: return ahead.lengthsOf(now, notes, leaf, false);
            case 6: return ahead.lengthsOf(now, notes, leaf, true);
            default: return NONE;
        }
    }

    public int gap(int leaf) {
        if (!now.isLeaf(leaf)) {
            return LOW_NONE;
        }
        if (!now.isHeld(leaf)) {
            return LOW_STATE;
        }
        return now.gapOf(leaf);
    }

    public int hold(int leaf, int person, int other) {
        if (!now.isLeaf(leaf) || !now.isPerson(person) || !now.isPerson(other)) {
            return NONE;
        }
        if (person == other) {
            return BAD;
        }
        now.give(leaf, person, other);
        return now.isTaut(leaf) ? 1 : 0;
    }

    public int free(int leaf) {
        if (!now.isLeaf(leaf)) {
            return NONE;
        }
        if (!now.isHeld(leaf)) {
            return STATE;
        }
        int second = now.second[leaf];
        now.letGo(leaf);
        return second;
    }

    public int walk(int person, int spot) {
        if (!now.isPerson(person)) {
            return NONE;
        }
        if (!isWithin(spot, PLACE_MOST)) {
            return BAD;
        }
        int before = now.place[person];
        now.place[person] = spot;
        return before;
    }

    public int row(int person, int part, int n) {
        if (!now.isPerson(person) || !isWithin(part, ROW_SIZE - 1)) {
            return NONE;
        }
        if (!isWithin(n, ROW_MOST)) {
            return BAD;
        }
        if (now.kind[person] != TOLD) {
            return STATE;
        }
        int before = now.rows[person * ROW_SIZE + part];
        now.rows[person * ROW_SIZE + part] = n;
        return before;
    }

    public int feed(int sign) {
        if (!isWithin(sign, SIGN_MOST)) {
            return BAD;
        }
        if (reader.length >= TEXT_MOST) {
            return FULL;
        }
        return reader.addSign(sign);
    }

    public int library() {
        if (libraryCount >= LIBRARIES_MOST) {
            return FULL;
        }
        Library next = libraries[libraryCount];
        int fault = reader.readInto(next);
        reader.length = 0;
        if (fault != NOT_ANY) {
            return LESS_THE_FAULT - fault;
        }
        now.library = next;
        libraryCount++;
        return libraryCount - 1;
    }

    public int told(int what) {
        switch (what) {
            case 0: return now.step;
            case 1: return now.bear();
            case 2: return now.drops;
            case 3: return now.tautBits();
            case 4: return now.heldBits();
            default: return NONE;
        }
    }

    // ---- steps

    public int pass(int n) {
        if (!isWithin(n, STEPS_AT_ONCE)) {
            return BAD;
        }
        if (now.step + n > STEP_MOST) {
            return STATE;
        }
        now.goOn(n);
        // Only what goes by itself stops counting here: what is asked counts beyond.
        now.drops = Math.min(now.drops, DROPS_MOST);
        return now.step;
    }

    public int on(int n, int what) {
        if (!isWithin(what, 2) && !now.isPerson(what - 10)) {
            return NONE;
        }
        if (!isWithin(n, STEPS_AT_ONCE)) {
            return BAD;
        }
        Hall then = ahead.goneOn(now, n);
        switch (what) {
            case 0: return then.drops;
            case 1: return then.tautBits();
            case 2: return then.heldBits();
            default: return then.place[what - 10];
        }
    }

    public int meets(int person, int other) {
        if (!now.isPerson(person) || !now.isPerson(other)) {
            return NONE;
        }
        if (person == other) {
            return BAD;
        }
        return ahead.meetingOf(now, person, other);
    }

    public int best(int n, int what) {
        if (!isWithin(what, 1)) {
            return NONE;
        }
        if (n < 1 || n > STEPS_CHOSEN_BY) {
            return BAD;
        }
        return what == 0 ? ahead.changeOf(now, n) : ahead.spareOf(now, n);
    }

    // ---- seen, odds

    public int see(int leaf, int n, boolean isTaut) {
        if (leaf == -1) {
            notes.seenCount = 0;
            return 0;
        }
        if (!now.isLeaf(leaf)) {
            return NONE;
        }
        if (!isWithin(n, STEPS_SEEN)) {
            return BAD;
        }
        if (notes.seenCount >= SEEN_MOST) {
            return FULL;
        }
        return notes.addSeen(leaf, n, isTaut);
    }

    public int can(int person, int what) {
        if (!now.isPerson(person) || !isWithin(what, 1)) {
            return NONE;
        }
        return ahead.numbersOf(now, notes, person, what == 1);
    }

    public long odds(int leaf, int n, int part) {
        if (!now.isLeaf(leaf) || !isWithin(n, STEPS_CHOSEN_BY) || !isWithin(part, 1) || now.people < 2) {
            return NO;
        }
        int pairs = now.people * (now.people - 1) / 2;
        return partOfLowest(ahead.pairsThatHold(now, leaf, n), pairs, part);
    }

    public long mean(int n, int part) {
        if (!isWithin(n, STEPS_AT_ONCE) || !isWithin(part, 1) || now.people < 1) {
            return NO;
        }
        return partOfLowest(ahead.goneOn(now, n).placesTogether(), now.people, part);
    }

    // ---- plans, books

    public int plan(int what, int n) {
        if (what == -1) {
            notes.planCount = 0;
            return 0;
        }
        if (!isPlanRow(what, n)) {
            return NONE;
        }
        if (notes.planCount >= PLAN_MOST) {
            return FULL;
        }
        return notes.addPlan(what, n);
    }

    public int ends(int what) {
        if (!isWithin(what, 1)) {
            return NONE;
        }
        Hall end = ahead.endOf(now, notes);
        return what == 0 ? end.drops : end.placesTogether();
    }

    public int book(int person, int spot) {
        if (person == -1) {
            notes.bookCount = 0;
            return 0;
        }
        if (!now.isPerson(person)) {
            return NONE;
        }
        if (!isWithin(spot, PLACE_MOST)) {
            return BAD;
        }
        if (notes.bookCount >= BOOK_MOST) {
            return FULL;
        }
        return notes.addBook(person, spot);
    }

    public int looked() {
        return notes.firstOtherwise(now);
    }

    // ---- judging, the image, acts, tapes

    public int judge(int tape, int i) {
        if (!isTape(tape)) {
            return NONE;
        }
        Tape bytes = tapes[tape];
        if (bytes.sort != NO_SORT && bytes.sort != BYTES) {
            return CAST;
        }
        return judged(bytes, i);
    }

    public int image() {
        imageHall.become(now);
        imageNotes.become(notes);
        hasImage = true;
        return now.people;
    }

    public int undo() {
        if (!hasImage) {
            return STATE;
        }
        now.become(imageHall);
        notes.become(imageNotes);
        return now.people;
    }

    public int act(int person, int act, int x) {
        acts.forget();
        if (!now.isPerson(person) || !isWithin(act, ACTS - 1)) {
            return 0;
        }
        return acts.start(now, person, act, x);
    }

    public int trace(int i) {
        return isWithin(i, acts.kept() - 1) ? acts.trace[i] : NONE;
    }

    public int taken(int person, int k) {
        if (!isWithin(k, KIND_MOST)) {
            return BAD;
        }
        if (!now.isPerson(person)) {
            return NOTHING;
        }
        return isKindOrUnder(now.kind[person], k) ? now.kind[person] : CAST;
    }

    public int count(int what) {
        switch (what) {
            case 0: return now.people;
            case 1: return now.leaves;
            case 2: return libraryCount;
            case 3: return notes.seenCount;
            case 4: return notes.planCount;
            case 5: return notes.bookCount;
            case 6: return reader.length;
            case 7: return acts.ran;
            default: return BAD;
        }
    }

    public int tape(int tape, int sort, int n) {
        if (!isTape(tape)) {
            return NONE;
        }
        if (sort == NO_SORT) {
            tapes[tape].become(NO_SORT, 0);
            return 1;
        }
        if (!isWithin(sort, BOOLEANS) || n > ITEMS_MOST) {
            return BAD;
        }
        if (n < 0) {
            return SIZE;
        }
        tapes[tape].become(sort, n);
        return 1;
    }

    public int item(int tape, int i, long v) {
        if (!isTape(tape)) {
            return NONE;
        }
        Tape row = tapes[tape];
        if (row.sort == NO_SORT) {
            return NOTHING;
        }
        if (!isWithin(i, row.size - 1)) {
            return PLACE;
        }
        row.items[i] = asItem(row.sort, v);
        return 1;
    }

    public long read(int tape, int i) {
        // A TAPE that holds nothing has no items, so no place is within it.
        if (!isTape(tape) || !isWithin(i, tapes[tape].size - 1)) {
            return NO;
        }
        return tapes[tape].items[i];
    }

    public int shift(int tape, int i, int other, int j, int n) {
        if (!isTape(tape) || !isTape(other)) {
            return NONE;
        }
        Tape from = tapes[tape];
        Tape to = tapes[other];
        if (from.sort == NO_SORT || to.sort == NO_SORT) {
            return NOTHING;
        }
        if (from.sort != to.sort) {
            return CAST;
        }
        if (n < 0 || !from.hasRoom(i, n) || !to.hasRoom(j, n)) {
            return PLACE;
        }
        System.arraycopy(from.items, i, to.items, j, n);
        return n;
    }

    // ---- what the calls share

    private static boolean isWithin(int n, int most) {
        return n >= 0 && n <= most;
    }

    private static boolean isTape(int tape) {
        return isWithin(tape, TAPES - 1);
    }

    private boolean isPlanRow(int what, int n) {
        switch (what) {
            case PLAN_STEP: return true;
            case PLAN_LET_GO: return now.isLeaf(n);
            case PLAN_LONGEST: return now.isLeaf(n);
            case PLAN_WALK: return now.isPerson(n);
            default: return false;
        }
    }

    private int judged(Tape bytes, int from) {
        for (int p = 0; p < now.people; p++) {
            if (from < 0 || from >= bytes.size - p) {
                return ROW_ENDS + p;
            }
            if (bytes.items[from + p] != now.place[p]) {
                return p;
            }
        }
        return NOT_ANY;
    }

    private static boolean isKindOrUnder(int kind, int above) {
        int at = kind;
        for (int level = 0; level <= KIND_MOST && isWithin(at, KIND_MOST); level++) {
            if (at == above) {
                return true;
            }
            at = KIND_ABOVE[at];
        }
        return false;
    }

    private static long asItem(int sort, long v) {
        switch (sort) {
            case BYTES: return (byte) v;
            case SHORTS: return (short) v;
            case INTS: return (int) v;
            case BOOLEANS: return v != 0 ? 1 : 0;
            default: return v;
        }
    }

    private static long partOfLowest(int above, int below, int part) {
        int shared = greatestShared(above, below);
        if (shared < 1) {
            return NO;
        }
        return part == 0 ? above / shared : below / shared;
    }

    private static int greatestShared(int above, int below) {
        int large = below;
        int small = above;
        // Each turn makes the smaller one less, so there are no more turns than it counts.
        for (int turn = 0; turn <= above && small > 0; turn++) {
            int rest = large % small;
            large = small;
            small = rest;
        }
        return large;
    }

    /** All that goes on in the hall: PEOPLE, LEAVES, DROPS, STEP, and the LIBRARY that holds. */
    private static final class Hall {
        int people;
        final int[] kind = new int[PEOPLE_MOST];
        final int[] v = new int[PEOPLE_MOST];
        final int[] place = new int[PEOPLE_MOST];
        final int[] rows = new int[PEOPLE_MOST * ROW_SIZE];
        int leaves;
        final int[] length = new int[LEAVES_MOST];
        final int[] first = new int[LEAVES_MOST];
        final int[] second = new int[LEAVES_MOST];
        int drops;
        int step;
        Library library;
        /** Kept, so that a STEP makes nothing new. */
        private final int[] drifts = new int[PEOPLE_MOST];
        private final int[] traits = new int[LibraryReader.LETTERS_COUNT];

        void become(Hall other) {
            people = other.people;
            System.arraycopy(other.kind, 0, kind, 0, PEOPLE_MOST);
            System.arraycopy(other.v, 0, v, 0, PEOPLE_MOST);
            System.arraycopy(other.place, 0, place, 0, PEOPLE_MOST);
            System.arraycopy(other.rows, 0, rows, 0, PEOPLE_MOST * ROW_SIZE);
            leaves = other.leaves;
            System.arraycopy(other.length, 0, length, 0, LEAVES_MOST);
            System.arraycopy(other.first, 0, first, 0, LEAVES_MOST);
            System.arraycopy(other.second, 0, second, 0, LEAVES_MOST);
            drops = other.drops;
            step = other.step;
            library = other.library;
        }

        boolean isPerson(int person) {
            return person >= 0 && person < people;
        }

        boolean isLeaf(int leaf) {
            return leaf >= 0 && leaf < leaves;
        }

        /** The ROW is 0 already: become() takes over all rows, those of nobody yet too. */
        int addPerson(int itsKind, int itsV, int itsPlace) {
            kind[people] = itsKind;
            v[people] = itsV;
            place[people] = itsPlace;
            people++;
            return people - 1;
        }

        int addLeaf(int itsLength) {
            length[leaves] = itsLength;
            letGo(leaves);
            leaves++;
            return leaves - 1;
        }

        void give(int leaf, int person, int other) {
            first[leaf] = person;
            second[leaf] = other;
        }

        void letGo(int leaf) {
            give(leaf, NOT_ANY, NOT_ANY);
        }

        boolean isHeld(int leaf) {
            return first[leaf] != NOT_ANY;
        }

        boolean isHolder(int leaf, int person) {
            return first[leaf] == person || second[leaf] == person;
        }

        int holdsHowMany(int person) {
            int many = 0;
            for (int leaf = 0; leaf < leaves; leaf++) {
                if (isHolder(leaf, person)) {
                    many++;
                }
            }
            return many;
        }

        /** Of a LEAF that is held alone. */
        int gapOf(int leaf) {
            return Math.abs(place[first[leaf]] - place[second[leaf]]) - length[leaf];
        }

        boolean isTaut(int leaf) {
            return isHeld(leaf) && gapOf(leaf) > 0;
        }

        int tautBits() {
            int bits = 0;
            for (int leaf = 0; leaf < leaves; leaf++) {
                if (isTaut(leaf)) {
                    bits |= 1 << leaf;
                }
            }
            return bits;
        }

        int heldBits() {
            int bits = 0;
            for (int leaf = 0; leaf < leaves; leaf++) {
                if (isHeld(leaf)) {
                    bits |= 1 << leaf;
                }
            }
            return bits;
        }

        int placesTogether() {
            int sum = 0;
            for (int p = 0; p < people; p++) {
                sum += place[p];
            }
            return sum;
        }

        int bear() {
            return library == null ? BEAR_WITHOUT : library.bear;
        }

        private int[] traitsOf(int person, int holds) {
            traits[LibraryReader.LETTER_P] = person;
            traits[LibraryReader.LETTER_K] = kind[person];
            traits[LibraryReader.LETTER_V] = v[person];
            traits[LibraryReader.LETTER_X] = place[person] / 10;
            traits[LibraryReader.LETTER_J] = holds;
            traits[LibraryReader.LETTER_S] = step % 10;
            return traits;
        }

        int driftOf(int person) {
            int holds = holdsHowMany(person);
            int sum = library == null ? 0 : library.sumFor(traitsOf(person, holds));
            int ofReader = holds > 0 ? sum + v[person] : sum;
            switch (kind[person]) {
                case READER: return ofReader;
                case CLERK: return sum / 2;
                case WALKER: return walkerDrift(sum);
                case DREAMER: return step % 2 == 0 ? 0 : ofReader;
                case PORTER: return sum / 2 + holds;
                case TOLD: return walkerDrift(sum) + rows[person * ROW_SIZE + step % ROW_SIZE] - 4;
                default: return sum;
            }
        }

        private int walkerDrift(int sum) {
            return step % 8 >= 4 ? -sum : sum;
        }

        void goOne() {
            // All drifts come ahead of all moves: each drifts by how all was.
            for (int p = 0; p < people; p++) {
                drifts[p] = driftOf(p);
            }
            for (int p = 0; p < people; p++) {
                place[p] = Math.max(0, Math.min(PLACE_MOST, place[p] + drifts[p]));
            }
            for (int leaf = 0; leaf < leaves; leaf++) {
                if (isTaut(leaf)) {
                    strain(leaf);
                }
            }
            step++;
        }

        void goOn(int n) {
            for (int i = 0; i < n; i++) {
                goOne();
            }
        }

        private void strain(int leaf) {
            if (gapOf(leaf) > bear()) {
                letGo(leaf);
                drops++;
                return;
            }
            int toSecond = place[first[leaf]] < place[second[leaf]] ? 1 : -1;
            place[first[leaf]] += toSecond;
            place[second[leaf]] -= toSecond;
        }

        void letGoAllBut(int bits) {
            for (int leaf = 0; leaf < leaves; leaf++) {
                if ((bits & 1 << leaf) == 0) {
                    letGo(leaf);
                }
            }
        }

        void changePlaces(int person, int other) {
            int kept = place[person];
            place[person] = place[other];
            place[other] = kept;
        }
    }

    /** A text that was read: what it says stands as a row of parts, each behind those it joins. */
    private static final class Library {
        static final int LESS = 0, SAME = 1, MORE = 2, NOT = 3, BOTH = 4, EITHER = 5, UP = 6, DOWN = 7;

        private final int[] sorts = new int[TEXT_MOST];
        private final int[] letters = new int[TEXT_MOST];
        private final int[] numbers = new int[TEXT_MOST];
        private int size;
        int bear = BEAR_WITHOUT;

        void empty() {
            size = 0;
            bear = BEAR_WITHOUT;
        }

        /** Each part has a sign of THE TEXT of its own, so there are never more than signs. */
        void put(int sort, int letter, int number) {
            if (size < TEXT_MOST) {
                sorts[size] = sort;
                letters[size] = letter;
                numbers[size] = number;
                size++;
            }
        }

        /**
         * Truths that wait to be joined are bits, the latest the lowest: nesting is low, so an int has room.
         * Joining drops the latest, and may change the one below it alone (-2 has all bits but that one).
         */
        int sumFor(int[] traits) {
            int sum = 0;
            int truths = 0;
            for (int i = 0; i < size; i++) {
                int n = numbers[i];
                int trait = traits[letters[i]];
                int latest = truths & 1;
                switch (sorts[i]) {
                    case LESS: truths = truths << 1 | (trait < n ? 1 : 0); break;
                    case SAME: truths = truths << 1 | (trait == n ? 1 : 0); break;
                    case MORE: truths = truths << 1 | (trait > n ? 1 : 0); break;
                    case NOT: truths ^= 1; break;
                    case BOTH: truths = truths >>> 1 & (-2 | latest); break;
                    case EITHER: truths = truths >>> 1 | latest; break;
                    case UP: sum += latest * n; truths = 0; break;
                    default: sum -= latest * n; truths = 0; break;
                }
            }
            return sum;
        }
    }

    /** THE TEXT, and how it is read: it stops at the first sign with which no LIBRARY begins. */
    private static final class LibraryReader {
        private static final String LETTERS = "pkvxjs";
        static final int LETTER_P = 0, LETTER_K = 1, LETTER_V = 2, LETTER_X = 3, LETTER_J = 4, LETTER_S = 5;
        static final int LETTERS_COUNT = 6;
        /** In the order of LESS, SAME, MORE. */
        private static final String COMPARES = "<=>";
        private static final int DIGITS_MOST = 2;

        private final char[] text = new char[TEXT_MOST];
        int length;
        private int at;
        private Library library;

        int addSign(int sign) {
            text[length] = (char) sign;
            length++;
            return length;
        }

        /** The FAULT, or NOT_ANY. */
        int readInto(Library target) {
            library = target;
            library.empty();
            at = 0;
            for (int clauses = 1; clauses <= CLAUSES_MOST; clauses++) {
                if (!takesClause()) {
                    return at;
                }
                if (at >= length) {
                    return NOT_ANY;
                }
                if (clauses == CLAUSES_MOST || !takesWord(";")) {
                    return at;
                }
            }
            return at;
        }

        private boolean isAt(char sign) {
            return at < length && text[at] == sign;
        }

        private boolean takesWord(String word) {
            for (int i = 0; i < word.length(); i++) {
                if (!isAt(word.charAt(i))) {
                    return false;
                }
                at++;
            }
            return true;
        }

        /** Which of these signs stands here, and is taken; -1: none. */
        private int takesOneOf(String signs) {
            int which = at < length ? signs.indexOf(text[at]) : -1;
            if (which >= 0) {
                at++;
            }
            return which;
        }

        /** -1: none. */
        private int takesNumber() {
            int n = -1;
            for (int digits = 0; digits < DIGITS_MOST && at < length && isDigit(text[at]); digits++) {
                n = Math.max(n, 0) * 10 + text[at] - '0';
                at++;
            }
            return n;
        }

        private static boolean isDigit(char sign) {
            return sign >= '0' && sign <= '9';
        }

        private boolean takesClause() {
            boolean isBear = isAt('b');
            boolean isDown = isAt('d');
            if (!takesWord(isBear ? "bear " : isDown ? "down " : "up ")) {
                return false;
            }
            int n = takesNumber();
            if (n < 0) {
                return false;
            }
            if (isBear) {
                library.bear = n;
                return true;
            }
            if (!takesWord(" ") || !takesAnyOf(0)) {
                return false;
            }
            library.put(isDown ? Library.DOWN : Library.UP, 0, n);
            return true;
        }

        private boolean takesAnyOf(int depth) {
            if (!takesAllOf(depth)) {
                return false;
            }
            for (int i = 0; i < TEXT_MOST && isAt('|'); i++) {
                at++;
                if (!takesAllOf(depth)) {
                    return false;
                }
                library.put(Library.EITHER, 0, 0);
            }
            return true;
        }

        private boolean takesAllOf(int depth) {
            if (!takesPart(depth)) {
                return false;
            }
            for (int i = 0; i < TEXT_MOST && isAt('&'); i++) {
                at++;
                if (!takesPart(depth)) {
                    return false;
                }
                library.put(Library.BOTH, 0, 0);
            }
            return true;
        }

        private boolean takesPart(int depth) {
            if (!isAt('!') && !isAt('(')) {
                return takesTest();
            }
            if (depth >= NEST_MOST) {
                return false;
            }
            boolean isNot = isAt('!');
            at++;
            if (!isNot) {
                return takesAnyOf(depth + 1) && takesWord(")");
            }
            if (!takesPart(depth + 1)) {
                return false;
            }
            library.put(Library.NOT, 0, 0);
            return true;
        }

        private boolean takesTest() {
            int letter = takesOneOf(LETTERS);
            if (letter < 0) {
                return false;
            }
            int compare = takesOneOf(COMPARES);
            if (compare < 0) {
                return false;
            }
            int n = takesNumber();
            if (n < 0) {
                return false;
            }
            library.put(compare, letter, n);
            return true;
        }
    }

    /** What is told by hand: SEEN, the PLAN, the BOOK. */
    private static final class Notes {
        int seenCount;
        private final int[] seenLeaf = new int[SEEN_MOST];
        private final int[] seenStep = new int[SEEN_MOST];
        private final boolean[] seenTaut = new boolean[SEEN_MOST];
        int planCount;
        final int[] planWhat = new int[PLAN_MOST];
        final int[] planOf = new int[PLAN_MOST];
        int bookCount;
        private final int[] bookPerson = new int[BOOK_MOST];
        private final int[] bookPlace = new int[BOOK_MOST];

        void become(Notes other) {
            seenCount = other.seenCount;
            System.arraycopy(other.seenLeaf, 0, seenLeaf, 0, SEEN_MOST);
            System.arraycopy(other.seenStep, 0, seenStep, 0, SEEN_MOST);
            System.arraycopy(other.seenTaut, 0, seenTaut, 0, SEEN_MOST);
            planCount = other.planCount;
            System.arraycopy(other.planWhat, 0, planWhat, 0, PLAN_MOST);
            System.arraycopy(other.planOf, 0, planOf, 0, PLAN_MOST);
            bookCount = other.bookCount;
            System.arraycopy(other.bookPerson, 0, bookPerson, 0, BOOK_MOST);
            System.arraycopy(other.bookPlace, 0, bookPlace, 0, BOOK_MOST);
        }

        int addSeen(int leaf, int n, boolean isTaut) {
            seenLeaf[seenCount] = leaf;
            seenStep[seenCount] = n;
            seenTaut[seenCount] = isTaut;
            seenCount++;
            return seenCount;
        }

        int addPlan(int what, int n) {
            planWhat[planCount] = what;
            planOf[planCount] = n;
            planCount++;
            return planCount;
        }

        int addBook(int person, int spot) {
            bookPerson[bookCount] = person;
            bookPlace[bookCount] = spot;
            bookCount++;
            return bookCount;
        }

        /** -1: nothing is SEEN. */
        int lastSeenStep() {
            int last = -1;
            for (int i = 0; i < seenCount; i++) {
                last = Math.max(last, seenStep[i]);
            }
            return last;
        }

        boolean isSeenSo(Hall hall, int steps) {
            for (int i = 0; i < seenCount; i++) {
                if (seenStep[i] == steps && hall.isTaut(seenLeaf[i]) != seenTaut[i]) {
                    return false;
                }
            }
            return true;
        }

        int firstOtherwise(Hall hall) {
            for (int i = 0; i < bookCount; i++) {
                if (hall.place[bookPerson[i]] != bookPlace[i]) {
                    return i;
                }
            }
            return NOT_ANY;
        }
    }

    /** What is asked of how all goes on: it is tried in a hall of its own, so that nothing changes. */
    private static final class Ahead {
        /** More than any LASTS that is told: so long lasts what isn't let go by then. */
        private static final int BEYOND = STEPS_AT_ONCE + 1;

        private final Hall trial = new Hall();

        Hall goneOn(Hall now, int n) {
            trial.become(now);
            trial.goOn(n);
            return trial;
        }

        int lastsOf(Hall now, int leaf) {
            if (!now.isHeld(leaf)) {
                return NOT_ANY;
            }
            trial.become(now);
            int lasts = trialLasts(leaf);
            return lasts == BEYOND ? NOT_ANY : lasts;
        }

        private int trialLasts(int leaf) {
            for (int steps = 1; steps <= STEPS_AT_ONCE; steps++) {
                trial.goOne();
                if (!trial.isHeld(leaf)) {
                    return steps;
                }
            }
            return BEYOND;
        }

        int meetingOf(Hall now, int person, int other) {
            trial.become(now);
            for (int steps = 0; steps <= STEPS_AT_ONCE; steps++) {
                if (trial.place[person] == trial.place[other]) {
                    return steps;
                }
                trial.goOne();
            }
            return NOT_ANY;
        }

        int partnerOf(Hall now, int leaf) {
            if (!now.isHeld(leaf)) {
                return NOT_ANY;
            }
            trial.become(now);
            int most = trialLasts(leaf);
            int partner = NOT_ANY;
            for (int p = 0; p < now.people && most < BEYOND; p++) {
                if (now.isHolder(leaf, p)) {
                    continue;
                }
                trial.become(now);
                trial.second[leaf] = p;
                int lasts = trialLasts(leaf);
                if (lasts > most) {
                    most = lasts;
                    partner = p;
                }
            }
            return partner;
        }

        int changeOf(Hall now, int n) {
            trial.become(now);
            trial.goOn(n);
            int fewest = trial.drops;
            int change = NOT_ANY;
            for (int p = 0; p < now.people; p++) {
                for (int other = p + 1; other < now.people; other++) {
                    trial.become(now);
                    trial.changePlaces(p, other);
                    trial.goOn(n);
                    if (trial.drops < fewest) {
                        fewest = trial.drops;
                        change = p * 10 + other;
                    }
                }
            }
            return change;
        }

        int spareOf(Hall now, int n) {
            int held = now.heldBits();
            for (int many = 1; many <= LEAVES_MOST; many++) {
                for (int bits = 1; bits <= held; bits++) {
                    boolean isTried = Integer.bitCount(bits) == many && (bits & held) == bits;
                    if (isTried && dropsByThese(now, bits, n) > now.drops) {
                        return bits;
                    }
                }
            }
            return NOT_ANY;
        }

        private int dropsByThese(Hall now, int bits, int n) {
            trial.become(now);
            trial.letGoAllBut(bits);
            trial.goOn(n);
            return trial.drops;
        }

        private boolean isTrialAsSeen(Notes notes) {
            int last = notes.lastSeenStep();
            for (int steps = 0; steps <= last; steps++) {
                if (steps > 0) {
                    trial.goOne();
                }
                if (!notes.isSeenSo(trial, steps)) {
                    return false;
                }
            }
            return true;
        }

        int lengthsOf(Hall now, Notes notes, int leaf, boolean isLeast) {
            int many = 0;
            for (int length = 1; length <= LENGTH_MOST; length++) {
                trial.become(now);
                trial.length[leaf] = length;
                if (isTrialAsSeen(notes)) {
                    if (isLeast) {
                        return length;
                    }
                    many++;
                }
            }
            return isLeast ? NOT_ANY : many;
        }

        int numbersOf(Hall now, Notes notes, int person, boolean isLeast) {
            int many = 0;
            for (int v = 0; v <= V_MOST; v++) {
                trial.become(now);
                trial.v[person] = v;
                if (isTrialAsSeen(notes)) {
                    if (isLeast) {
                        return v;
                    }
                    many++;
                }
            }
            return isLeast ? NOT_ANY : many;
        }

        int pairsThatHold(Hall now, int leaf, int n) {
            int pairs = 0;
            for (int p = 0; p < now.people; p++) {
                for (int other = p + 1; other < now.people; other++) {
                    trial.become(now);
                    trial.give(leaf, p, other);
                    trial.goOn(n);
                    if (trial.isHeld(leaf)) {
                        pairs++;
                    }
                }
            }
            return pairs;
        }

        Hall endOf(Hall now, Notes notes) {
            trial.become(now);
            for (int i = 0; i < notes.planCount; i++) {
                int of = notes.planOf[i];
                switch (notes.planWhat[i]) {
                    case PLAN_STEP: trial.goOne(); break;
                    case PLAN_LET_GO: trial.letGo(of); break;
                    case PLAN_LONGEST: trial.length[of] = LENGTH_MOST; break;
                    default: trial.place[of] = 0; break;
                }
            }
            return trial;
        }
    }

    /** ACTS, by the bodies of the KINDS, and THE TRACE of the latest. */
    private static final class Acts {
        final int[] trace = new int[TRACE_MOST];
        int ran;
        private int number;
        private int v;
        private int kind;

        void forget() {
            ran = 0;
        }

        int kept() {
            return Math.min(ran, TRACE_MOST);
        }

        int start(Hall hall, int person, int act, int x) {
            number = person;
            v = hall.v[person];
            kind = hall.kind[person];
            return perform(act, kind, x, 0);
        }

        private int perform(int act, int from, int x, int depth) {
            if (depth > ACT_DEPTH_MOST) {
                return 0;
            }
            int body = bodyFor(act, from);
            note(body);
            int next = depth + 1;
            switch (body) {
                case 11: return perform(BOWS, kind, x, next) - v;
                case 12: return perform(TUGS, kind, x, next) * 2;
                case 20: return perform(TUGS, ONE, x, next) ^ 6;
                case 30: return perform(BOWS, ONE, x * 3, next);
                case 40: return perform(TELLS, ONE, x, next) + perform(TUGS, kind, 1, next);
                case 50: return -perform(BOWS, READER, x, next);
                case 51: return perform(TUGS, READER, x + 1, next);
                case 60: return perform(TELLS, CLERK, x - number, next);
                case 70: return perform(TUGS, WALKER, x, next) + perform(BOWS, WALKER, 2, next);
                case 71: return perform(BOWS, WALKER, x, next) ^ v;
                default: return x + number;
            }
        }

        /** ONE has a body for every act, so there always is one. */
        private static int bodyFor(int act, int from) {
            int at = from;
            for (int level = 0; level <= KIND_MOST && at > ONE; level++) {
                if (BODIES[at * ACTS + act] != 0) {
                    return BODIES[at * ACTS + act];
                }
                at = KIND_ABOVE[at];
            }
            return BODIES[act];
        }

        private void note(int body) {
            if (ran < TRACE_MOST) {
                trace[ran] = body;
            }
            ran++;
        }
    }

    /** A row of one sort; an item of any sort is kept as the long that it is read as. */
    private static final class Tape {
        int sort = NO_SORT;
        int size;
        final long[] items = new long[ITEMS_MOST];

        void become(int newSort, int newSize) {
            sort = newSort;
            size = newSize;
            for (int i = 0; i < ITEMS_MOST; i++) {
                items[i] = 0L;
            }
        }

        boolean hasRoom(int from, int n) {
            return from >= 0 && from <= size - n;
        }
    }
}
