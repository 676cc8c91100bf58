/**
 * The wild hunt over a land told as a text: where it rides, whom it meets, what a meeting pays and who is kept.
 * The numbered promises and the words in capitals are those of DOC.md.
 */
public final class WildHunt {
    /** There is none; it is refused. */
    public static final int NONE = -1;
    /** Told where a number below 0 may be one. */
    public static final long NOTHING = -1000000000000000L;

    private static final int HOURS = 12;
    private static final int LAST_NIGHT = 999;
    private static final int MOST_NIGHTS = 100;
    private static final int MOST_AHEAD = 60;
    private static final int MOST_CHAPEL_NIGHTS = 20;
    private static final int LEAST_SIDE = 2;
    private static final int MOST_SIDE = 7;
    private static final int MOST_CELLS = MOST_SIDE * MOST_SIDE;
    private static final int MOST_CHAPELS = 10;
    private static final int MOST_BELLS = 5;
    private static final int MOST_WALKERS = 6;
    private static final int MOST_STATEMENTS = 80;
    private static final int MOST_BYTES = 1600;
    private static final int FEED_BYTES = 20;
    private static final int MOST_LETTERS = 6;
    private static final int LETTER_BITS = 5;
    private static final int MOST_DIGITS = 4;
    private static final int MOST_NUMBER = 9999;
    private static final int MOST_OPEN = 6;
    private static final int MOST_TOLD = 40;
    private static final int MOST_UNDONE = 20;
    private static final int MOST_SEEN = 12;
    private static final int MOST_MET = 9999;
    private static final int MOST_PURSE = 9999;
    private static final int MOST_GONE = 99;
    private static final int LAST_MANNER = 3;
    private static final int LIES_DOWN = 0;
    private static final int ANSWERS = 1;

    private static final int IMAGE_HEAD = 3;
    private static final int IMAGE_WALKER = 6;
    private static final int CHECK_BEGIN = 79;
    private static final int CHECK_FACTOR = 3;
    private static final int CHECK_MODULUS = 251;

    private static final long DRAW_FACTOR = 1103515245L;
    private static final long DRAW_MORE = 12345L;
    private static final long DRAW_MODULUS = 2147483648L;

    private static final int NO_SUCH_TEXT = 1;
    private static final int NO_SUCH_NUMBER = 2;
    private static final int NAME_TWICE = 3;
    private static final int TOO_DEEP = 4;
    private static final int TOO_MANY = 5;

    private static final int REFUSED_KINDS = 6;
    private static final int TAPE_REFUSED = 0;
    private static final int TEXT_REFUSED = 1;
    private static final int SMALL_ACT_REFUSED = 2;
    private static final int NIGHTS_REFUSED = 3;
    private static final int UNDO_REFUSED = 4;
    private static final int SEED_REFUSED = 5;

    // The places of the words within OWN_WORDS and, behind these, ASKING_WORDS.
    private static final String OWN_WORDS = "land by hunt chapel bell at rope walker from to does rides pays keeps year harm storm hour night column row manner met purse number gone near or and not all min max";
    private static final String ASKING_WORDS = "first last often total most least";
    private static final int LAND = 0;
    private static final int BY = 1;
    private static final int HUNT = 2;
    private static final int CHAPEL = 3;
    private static final int BELL = 4;
    private static final int AT = 5;
    private static final int ROPE = 6;
    private static final int WALKER = 7;
    private static final int FROM = 8;
    private static final int TO = 9;
    private static final int DOES = 10;
    private static final int RIDES = 11;
    private static final int PAYS = 12;
    private static final int KEEPS = 13;
    private static final int YEAR = 14;
    private static final int HARM = 15;
    private static final int STORM = 16;
    private static final int HOUR = 17;
    private static final int NIGHT = 18;
    private static final int COLUMN = 19;
    private static final int ROW = 20;
    private static final int MANNER = 21;
    private static final int MET = 22;
    private static final int PURSE = 23;
    private static final int NUMBER = 24;
    private static final int GONE = 25;
    private static final int NEAR = 26;
    private static final int OR = 27;
    private static final int AND = 28;
    private static final int NOT = 29;
    private static final int ALL = 30;
    private static final int MIN = 31;
    private static final int MAX = 32;
    private static final int OWN_WORD_COUNT = 33;
    private static final int FIRST = 33;
    private static final int LAST = 34;
    private static final int OFTEN = 35;
    private static final int TOTAL = 36;
    private static final int MOST = 37;
    private static final int LEAST = 38;
    private static final int WORD_COUNT = 39;

    // Which of the words HOUR to NEAR are a PART, as bits counted from HOUR on.
    private static final int VALUE_COUNT = 9;
    private static final int PARTS_ALWAYS = 1 | 1 << NIGHT - HOUR;
    private static final int PARTS_OF_RIDES = PARTS_ALWAYS | 1 << COLUMN - HOUR | 1 << ROW - HOUR;
    private static final int PARTS_OF_MEETING = PARTS_ALWAYS | 1 << MANNER - HOUR | 1 << MET - HOUR | 1 << PURSE - HOUR;
    private static final int PARTS_OF_QUESTION = (1 << NEAR - HOUR + 1) - 1;

    // The steps of a Code: what is done in the low bits, with which number in the high ones.
    private static final int STEP_BITS = 4;
    private static final int PUSH = 0;
    private static final int VALUE = 1;
    private static final int ADD = 2;
    private static final int SUBTRACT = 3;
    private static final int MULTIPLY = 4;
    private static final int DIVIDE = 5;
    private static final int LESSER = 6;
    private static final int GREATER = 7;
    private static final int BELOW = 8;
    private static final int ABOVE = 9;
    private static final int SAME = 10;
    private static final int BOTH = 11;
    private static final int EITHER = 12;
    private static final int CONTRARY = 13;
    private static final int DISTANCE = 14;
    private static final int STACK_SIZE = 64;
    private static final long MOST_SUM = 1000000L;

    private static final int WAYS = 8;
    private static final int WAY_WITHOUT_RIDES = 3;
    private static final int[] WAY_COLUMNS = {0, 1, 1, 1, 0, -1, -1, -1};
    private static final int[] WAY_ROWS = {-1, -1, 0, 1, 1, 1, 0, -1};

    private final Tape tape;
    private final Reader reader;
    private final LandReader landReader;
    private final Question question;
    private final Ride tonight;
    private final Ride trial;
    private final Host host;
    private final State state;
    private final State ahead;
    private final Past past;
    private final int[] seen;
    private final int[] left;
    private final long[] troddenBy;
    private final int[] image;
    private final int[] refused;
    private Land ground;
    private int seenCount;
    private int imageSize;
    private int draws;

    public WildHunt() {
        tape = new Tape();
        reader = new Reader(tape);
        Phrases phrases = new Phrases(reader);
        landReader = new LandReader(reader, phrases);
        question = new Question(reader, phrases);
        Machine machine = new Machine();
        ground = new Land(0, 0, 0);
        tonight = new Ride(machine, ground);
        trial = new Ride(machine, ground);
        host = new Host(machine, ground);
        state = new State();
        ahead = new State();
        past = new Past();
        seen = new int[MOST_SEEN * 2];
        left = new int[MOST_CELLS];
        troddenBy = new long[1 << MOST_BELLS];
        image = new int[IMAGE_HEAD + IMAGE_WALKER * MOST_WALKERS + 1];
        refused = new int[REFUSED_KINDS];
        draws = 1;
    }

    // ---- the tape

    public int feed(int a, int b, int c, int d, int e) {
        if (tape.size + FEED_BYTES > MOST_BYTES) {
            return refuse(TAPE_REFUSED);
        }
        tape.add(a);
        tape.add(b);
        tape.add(c);
        tape.add(d);
        tape.add(e);
        return tape.size;
    }

    public boolean end(int n) {
        if (n < 0 || n > tape.size) {
            return denies(TAPE_REFUSED);
        }
        tape.size = n;
        return true;
    }

    // ---- the land

    public int land() {
        Land next = landReader.read();
        tape.size = 0;
        if (reader.fault != 0) {
            return refuse(TEXT_REFUSED);
        }
        ground = next;
        state.begin(next);
        past.count = 0;
        seenCount = 0;
        return next.statements;
    }

    public int fault(int what) {
        if (what == 0) {
            return reader.fault;
        }
        return what == 1 ? reader.place : NONE;
    }

    public int has(int what) {
        switch (what) {
            case 0: return ground.columns;
            case 1: return ground.rows;
            case 2: return Long.bitCount(ground.chapels);
            case 3: return ground.bellCount;
            case 4: return ground.walkerCount;
            case 5: return state.night;
            case 6: return Integer.bitCount(state.rung);
            case 7: return state.goneCount();
            case 8: return state.allPurses();
            case 9: return state.toldCount;
            case 10: return seenCount;
            case 11: return past.count;
            default: return NONE;
        }
    }

    public int letter(int kind, int which, int k) {
        boolean there = kind == 0 && ground.isBell(which) || kind == 1 && ground.isWalker(which);
        if (!there || k < 0 || k >= MOST_LETTERS) {
            return NONE;
        }
        return Reader.letterOf(ground.names[kind][which], k);
    }

    public int cell(int column, int row, int what) {
        if (!ground.holds(column, row)) {
            return NONE;
        }
        int place = ground.cellAt(column, row);
        switch (what) {
            case 0: return bitOf(ground.chapels, place);
            case 1: return bitOf(ground.soundOf(state.rung), place);
            case 2: return rideTonight().hourAt(place);
            default: return NONE;
        }
    }

    public int bell(int bell, int what) {
        if (!ground.isBell(bell)) {
            return NONE;
        }
        switch (what) {
            case 0: return ground.columnOf(ground.bellCell[bell]);
            case 1: return ground.rowOf(ground.bellCell[bell]);
            case 2: return ground.rope[bell];
            case 3: return state.rung >> bell & 1;
            case 4: return ground.lossOf(bell, state.rung, rideTonight().trodden);
            default: return NONE;
        }
    }

    public int walker(int walker, int what) {
        if (!ground.isWalker(walker)) {
            return NONE;
        }
        switch (what) {
            case 0: return ground.columnOf(ground.walk[walker][0]);
            case 1: return ground.rowOf(ground.walk[walker][0]);
            case 2: return ground.columnOf(ground.goal[walker]);
            case 3: return ground.rowOf(ground.goal[walker]);
            case 4: return state.manner[walker];
            case 5: return state.met[walker];
            case 6: return state.purse[walker];
            case 7: return state.gone[walker];
            default: return NONE;
        }
    }

    public int told(int k, int what) {
        return state.toldOf(k, what);
    }

    // ---- this night

    public int hunt(int hour, int what) {
        if (!ground.stands() || hour < 0 || hour >= HOURS) {
            return NONE;
        }
        return coordinate(rideTonight().cells[hour], what);
    }

    public int meets(int walker) {
        if (!ground.isWalker(walker)) {
            return NONE;
        }
        return rideTonight().meetingHour(state, walker);
    }

    public int safe(int walker) {
        if (!ground.isWalker(walker)) {
            return NONE;
        }
        return rideTonight().safeHour(ground.walk[walker][0], ground.goal[walker]);
    }

    public int peal() {
        if (!ground.stands()) {
            return NONE;
        }
        int best = NONE;
        int fewest = MOST_BELLS + 1;
        for (int bells = 0; bells < 1 << ground.bellCount; bells++) {
            // Sets come by their bits, so a later one must have fewer BELLS to be taken.
            if (Integer.bitCount(bells) < fewest && meetsNobody(bells)) {
                best = bells;
                fewest = Integer.bitCount(bells);
            }
        }
        return best;
    }

    public int rest() {
        if (!ground.stands()) {
            return NONE;
        }
        int sets = 1 << ground.bellCount;
        for (int bells = 0; bells < sets; bells++) {
            trial.go(ground, ground.closedBy(bells), ground.begin, state.night);
            troddenBy[bells] = trial.trodden;
        }
        int best = NONE;
        int fewest = MOST_BELLS + 1;
        for (int bells = 0; bells < sets; bells++) {
            if (Integer.bitCount(bells) < fewest && isAtRest(bells)) {
                best = bells;
                fewest = Integer.bitCount(bells);
            }
        }
        return best;
    }

    // ---- ahead

    public int later(int n, int what) {
        if (!canGoAhead(n, 0, MOST_AHEAD)) {
            return NONE;
        }
        goAhead(n, 0L);
        switch (what) {
            case 0: return host.meetings;
            case 1: return ahead.goneCount();
            case 2: return ahead.allPurses();
            case 3: return host.kept;
            default: return NONE;
        }
    }

    public int chapel(int n, int what) {
        if (what < 0 || what > 2 || !canGoAhead(n, 1, MOST_CHAPEL_NIGHTS)) {
            return NONE;
        }
        goAhead(n, 0L);
        int without = host.meetings;
        // A CHAPEL where the HUNT never comes changes nothing of its ways.
        long ridden = host.entered;
        int best = NONE;
        int fewest = without;
        for (int place = 0; place < ground.cellCount(); place++) {
            if (place != ground.begin && bitOf(ridden, place) == 1) {
                goAhead(n, 1L << place);
                if (host.meetings < fewest) {
                    best = place;
                    fewest = host.meetings;
                }
            }
        }
        if (best == NONE) {
            return NONE;
        }
        return what == 2 ? without - fewest : coordinate(best, what);
    }

    public int first(int walker) {
        if (!ground.isWalker(walker)) {
            return NONE;
        }
        host.start();
        ahead.copyOf(state);
        int most = Math.min(MOST_AHEAD, LAST_NIGHT - state.night);
        for (int n = 1; n <= most; n++) {
            host.passNight(ground, ahead, 0L);
            if ((host.metTonight >> walker & 1) == 1) {
                return n;
            }
        }
        return NONE;
    }

    // ---- who saw it

    public int see() {
        int rows = tape.size / 3;
        boolean good = ground.stands() && rows >= 1 && rows <= MOST_SEEN && rows * 3 == tape.size;
        for (int row = 0; row < rows && good; row++) {
            good = tape.at(row * 3) < HOURS && ground.holds(tape.at(row * 3 + 1), tape.at(row * 3 + 2));
        }
        if (good) {
            keepSeen(rows);
        }
        tape.size = 0;
        return good ? rows : refuse(TEXT_REFUSED);
    }

    public int began(int what) {
        if (!ground.stands()) {
            return NONE;
        }
        int count = 0;
        int least = NONE;
        int greatest = NONE;
        for (int place = 0; place < ground.cellCount(); place++) {
            if (canHaveBegun(place)) {
                count++;
                least = least == NONE ? place : least;
                greatest = place;
            }
        }
        switch (what) {
            case 0: return count;
            case 1: return least;
            case 2: return greatest;
            default: return NONE;
        }
    }

    public int tells(int what) {
        if (!ground.stands() || what != 0 && what != 1) {
            return NONE;
        }
        int best = NONE;
        int fewest = ground.cellCount() + 1;
        // An HOUR that leaves one CELL can't be bettered by a later one.
        for (int hour = 0; hour < HOURS && fewest > 1; hour++) {
            int left = mostLeft(hour);
            if (left > 0 && left < fewest) {
                best = hour;
                fewest = left;
            }
        }
        return what == 0 || best == NONE ? best : fewest;
    }

    // ---- acts

    public boolean ring(int bell, int on) {
        boolean can = ground.isBell(bell) && (on == 0 || on == 1) && (state.rung >> bell & 1) != on;
        if (!can) {
            return denies(SMALL_ACT_REFUSED);
        }
        past.keep(state);
        state.rung ^= 1 << bell;
        return true;
    }

    public boolean does(int walker, int manner) {
        boolean can = ground.isWalker(walker) && manner >= 0 && manner <= LAST_MANNER && state.manner[walker] != manner;
        if (!can) {
            return denies(SMALL_ACT_REFUSED);
        }
        past.keep(state);
        state.manner[walker] = manner;
        return true;
    }

    public int nights(int n) {
        if (!canGoAhead(n, 1, MOST_NIGHTS)) {
            return refuse(NIGHTS_REFUSED);
        }
        past.keep(state);
        host.start();
        for (int k = 0; k < n; k++) {
            host.passNight(ground, state, 0L);
        }
        return host.meetings;
    }

    public int chance(int n) {
        if (!canGoAhead(n, 1, MOST_NIGHTS)) {
            return refuse(NIGHTS_REFUSED);
        }
        past.keep(state);
        host.start();
        int storms = 0;
        for (int k = 0; k < n; k++) {
            if (drawOfHundred() < ground.storm) {
                storms++;
                host.passStorm(state);
            } else {
                host.passNight(ground, state, 0L);
            }
        }
        return storms;
    }

    public boolean undo() {
        if (past.count == 0) {
            return denies(UNDO_REFUSED);
        }
        past.giveBack(state);
        return true;
    }

    public boolean seed(int seed) {
        if (seed < 0) {
            return denies(SEED_REFUSED);
        }
        draws = seed;
        return true;
    }

    // ---- questions

    public long ask() {
        long answer = NOTHING;
        if (ground.stands()) {
            question.read();
            if (reader.fault == 0) {
                answer = question.answer(rideTonight(), state);
            }
        }
        tape.size = 0;
        return answer;
    }

    // ---- images, refusals

    public int image() {
        putPair(0, state.night);
        image[2] = state.rung;
        int size = IMAGE_HEAD;
        for (int k = 0; k < ground.walkerCount; k++) {
            image[size] = state.manner[k];
            putPair(size + 1, state.met[k]);
            putPair(size + 3, state.purse[k]);
            image[size + 5] = state.gone[k];
            size += IMAGE_WALKER;
        }
        int check = CHECK_BEGIN;
        for (int k = 0; k < size; k++) {
            check = (CHECK_FACTOR * check + image[k]) % CHECK_MODULUS;
        }
        image[size] = check;
        imageSize = size + 1;
        return imageSize;
    }

    public int octet(int k) {
        return k >= 0 && k < imageSize ? image[k] : NONE;
    }

    public boolean on() {
        boolean good = ground.stands() && tapeIsImage();
        if (good) {
            takeImage();
        }
        tape.size = 0;
        return good || denies(SEED_REFUSED);
    }

    public int status(int what) {
        return what >= 0 && what < REFUSED_KINDS ? refused[what] : NONE;
    }

    // ---- what the calls share

    private int refuse(int kind) {
        refused[kind]++;
        return NONE;
    }

    private boolean denies(int kind) {
        refused[kind]++;
        return false;
    }

    private static int bitOf(long bits, int place) {
        return (int) (bits >> place & 1L);
    }

    private int coordinate(int place, int what) {
        if (what == 0) {
            return ground.columnOf(place);
        }
        return what == 1 ? ground.rowOf(place) : NONE;
    }

    private Ride rideTonight() {
        tonight.go(ground, ground.closedBy(state.rung), ground.begin, state.night);
        return tonight;
    }

    private boolean meetsNobody(int bells) {
        trial.go(ground, ground.closedBy(bells), ground.begin, state.night);
        boolean nobody = true;
        for (int k = 0; k < ground.walkerCount && nobody; k++) {
            nobody = trial.meetingHour(state, k) == NONE;
        }
        return nobody;
    }

    private boolean isAtRest(int bells) {
        boolean rests = true;
        for (int k = 0; k < ground.bellCount && rests; k++) {
            int otherwise = bells ^ 1 << k;
            int loss = ground.lossOf(k, bells, troddenBy[bells]);
            rests = loss <= ground.lossOf(k, otherwise, troddenBy[otherwise]);
        }
        return rests;
    }

    private boolean canGoAhead(int n, int least, int most) {
        return ground.stands() && n >= least && n <= most && state.night + n <= LAST_NIGHT;
    }

    private void goAhead(int n, long moreChapels) {
        host.start();
        ahead.copyOf(state);
        for (int k = 0; k < n; k++) {
            host.passNight(ground, ahead, moreChapels);
        }
    }

    private void keepSeen(int rows) {
        for (int row = 0; row < rows; row++) {
            seen[row * 2] = tape.at(row * 3);
            seen[row * 2 + 1] = ground.cellAt(tape.at(row * 3 + 1), tape.at(row * 3 + 2));
        }
        seenCount = rows;
    }

    /** Leaves in trial how the HUNT would have ridden from there. */
    private boolean canHaveBegun(int place) {
        if (bitOf(ground.chapels, place) == 1) {
            return false;
        }
        trial.go(ground, ground.closedBy(state.rung), place, state.night);
        boolean fits = true;
        for (int row = 0; row < seenCount && fits; row++) {
            fits = trial.cells[seen[row * 2]] == seen[row * 2 + 1];
        }
        return fits;
    }

    /** Of the CELLS where the HUNT can have begun, the most that bring it to one CELL in that HOUR. */
    private int mostLeft(int hour) {
        int cells = Math.min(MOST_CELLS, ground.cellCount());
        for (int place = 0; place < cells; place++) {
            left[place] = 0;
        }
        int most = 0;
        for (int place = 0; place < cells; place++) {
            if (canHaveBegun(place)) {
                int there = trial.cells[hour];
                left[there]++;
                most = Math.max(most, left[there]);
            }
        }
        return most;
    }

    private int drawOfHundred() {
        draws = (int) ((DRAW_FACTOR * draws + DRAW_MORE) % DRAW_MODULUS);
        return draws / 64 % 100;
    }

    private void putPair(int k, int number) {
        image[k] = number >> 8;
        image[k + 1] = number & 255;
    }

    private boolean tapeIsImage() {
        int size = IMAGE_HEAD + IMAGE_WALKER * ground.walkerCount;
        if (tape.size != size + 1 || tape.pairAt(0) > LAST_NIGHT || tape.at(2) >= 1 << ground.bellCount) {
            return false;
        }
        boolean good = true;
        for (int k = IMAGE_HEAD; k < size && good; k += IMAGE_WALKER) {
            good = tape.at(k) <= LAST_MANNER && tape.pairAt(k + 1) <= MOST_MET
                && tape.pairAt(k + 3) <= MOST_PURSE && tape.at(k + 5) <= MOST_GONE;
        }
        int check = CHECK_BEGIN;
        for (int k = 0; k < size; k++) {
            check = (CHECK_FACTOR * check + tape.at(k)) % CHECK_MODULUS;
        }
        return good && tape.at(size) == check;
    }

    private void takeImage() {
        state.begin(ground);
        state.night = tape.pairAt(0);
        state.rung = tape.at(2);
        for (int k = 0; k < ground.walkerCount; k++) {
            int from = IMAGE_HEAD + IMAGE_WALKER * k;
            state.manner[k] = tape.at(from);
            state.met[k] = tape.pairAt(from + 1);
            state.purse[k] = tape.pairAt(from + 3);
            state.gone[k] = tape.at(from + 5);
        }
        past.count = 0;
    }

    /** The bytes that wait to be a LAND, a QUESTION, what is SEEN or AN IMAGE. */
    private static final class Tape {
        final byte[] bytes = new byte[MOST_BYTES];
        int size;

        void add(int number) {
            for (int shift = 24; shift >= 0 && size < MOST_BYTES; shift -= 8) {
                bytes[size] = (byte) (number >> shift);
                size++;
            }
        }

        int at(int k) {
            return k >= 0 && k < size ? bytes[k] & 255 : NONE;
        }

        int pairAt(int k) {
            return at(k) * 256 + at(k + 1);
        }
    }

    /**
     * Takes the tape apart into words, numbers and signs and holds the first FAULT.
     * Behind a FAULT nothing can be taken any more, so that every loop over the text ends.
     */
    private static final class Reader {
        static final int END = 0;
        static final int WORD = 1;
        static final int DIGITS = 2;
        static final int SIGN = 3;
        static final int WRONG = 4;

        final Tape tape;
        final int[] keys;
        int kind;
        int value;
        int from;
        int to;
        int fault;
        int place;

        Reader(Tape tape) {
            this.tape = tape;
            place = NONE;
            keys = new int[WORD_COUNT];
            putKeys(OWN_WORDS, 0);
            putKeys(ASKING_WORDS, OWN_WORD_COUNT);
        }

        private void putKeys(String words, int which) {
            int word = which;
            int letters = 0;
            for (int k = 0; k < words.length() && word < WORD_COUNT; k++) {
                if (words.charAt(k) == ' ') {
                    word++;
                    letters = 0;
                } else {
                    keys[word] |= words.charAt(k) - 'a' + 1 << shiftOf(letters);
                    letters++;
                }
            }
        }

        /** Six letters of five bits, the first one highest: one number is a whole word. */
        private static int shiftOf(int letter) {
            return LETTER_BITS * (MOST_LETTERS - 1 - letter);
        }

        static int letterOf(int name, int k) {
            return name >> shiftOf(k) & (1 << LETTER_BITS) - 1;
        }

        void start() {
            fault = 0;
            place = NONE;
            kind = END;
            to = 0;
            advance();
        }

        void fail(int what, int where) {
            if (fault == 0) {
                fault = what;
                place = where;
                kind = WRONG;
            }
        }

        void failHere() {
            fail(NO_SUCH_TEXT, from);
        }

        boolean goesOn() {
            return fault == 0 && kind != END;
        }

        /** Calls nothing: it ends the longest chains of calls. */
        void advance() {
            boolean behindWord = kind == WORD || kind == DIGITS;
            int behind = to;
            from = to;
            while (from < tape.size && (tape.bytes[from] == 10 || tape.bytes[from] == 32)) {
                from++;
            }
            to = from;
            if (from >= tape.size) {
                kind = END;
                return;
            }
            int first = tape.bytes[from];
            kind = first >= 'a' && first <= 'z' ? WORD : first >= '0' && first <= '9' ? DIGITS : SIGN;
            if (kind == SIGN) {
                value = first;
                to++;
                return;
            }
            if (behindWord && from == behind) {
                kind = WRONG;
                return;
            }
            value = 0;
            int least = kind == WORD ? 'a' : '0';
            int most = kind == WORD ? 'z' : '9';
            while (to < tape.size && tape.bytes[to] >= least && tape.bytes[to] <= most) {
                int sign = tape.bytes[to] - least;
                int k = to - from;
                if (kind == WORD && k < MOST_LETTERS) {
                    value |= sign + 1 << LETTER_BITS * (MOST_LETTERS - 1 - k);
                } else if (kind == DIGITS && k < MOST_DIGITS) {
                    value = value * 10 + sign;
                }
                to++;
            }
        }

        boolean isSign(int sign) {
            return kind == SIGN && value == sign;
        }

        boolean isNumber() {
            return kind == DIGITS;
        }

        boolean isWord(int word) {
            return kind == WORD && to - from <= MOST_LETTERS && value == keys[word];
        }

        int word() {
            if (kind != WORD || to - from > MOST_LETTERS) {
                return NONE;
            }
            int found = NONE;
            for (int k = 0; k < WORD_COUNT && found == NONE; k++) {
                found = keys[k] == value ? k : NONE;
            }
            return found;
        }

        void needSign(int sign) {
            if (isSign(sign)) {
                advance();
            } else {
                fail(NO_SUCH_TEXT, from);
            }
        }

        void needWord(int word) {
            if (isWord(word)) {
                advance();
            } else {
                fail(NO_SUCH_TEXT, from);
            }
        }

        int takeNumber(int least, int most) {
            if (kind != DIGITS) {
                fail(NO_SUCH_TEXT, from);
            } else if (to - from > MOST_DIGITS) {
                fail(NO_SUCH_TEXT, from + MOST_DIGITS);
            } else if (value < least || value > most) {
                fail(NO_SUCH_NUMBER, from);
            } else {
                int number = value;
                advance();
                return number;
            }
            return 0;
        }

        int takeName() {
            int word = word();
            if (kind != WORD || word != NONE && word < OWN_WORD_COUNT) {
                fail(NO_SUCH_TEXT, from);
            } else if (to - from > MOST_LETTERS) {
                fail(NO_SUCH_TEXT, from + MOST_LETTERS);
            } else {
                int name = value;
                advance();
                return name;
            }
            return 0;
        }
    }

    /** A SUM or a TEST as steps for a Machine; without steps it is none. */
    private static final class Code {
        final int[] steps;
        final boolean asksNight;

        Code(int[] steps, boolean asksNight) {
            this.steps = steps;
            this.asksNight = asksNight;
        }

        boolean isThere() {
            return steps.length > 0;
        }
    }

    /** Reads SUMS and TESTS; open is how many of ( [ not near stand open around what is read. */
    private static final class Phrases {
        final Reader reader;
        final int[] steps;
        int size;
        int parts;
        boolean asksNight;

        Phrases(Reader reader) {
            this.reader = reader;
            steps = new int[MOST_BYTES];
        }

        Code readSum(int allowedParts) {
            start(allowedParts);
            sum(0);
            return written();
        }

        Code readTest(int allowedParts) {
            start(allowedParts);
            test(0);
            return written();
        }

        private void start(int allowedParts) {
            size = 0;
            parts = allowedParts;
            asksNight = false;
        }

        private Code written() {
            int[] exact = new int[size];
            System.arraycopy(steps, 0, exact, 0, size);
            return new Code(exact, asksNight);
        }

        private void put(int step, int number) {
            if (size < steps.length) {
                steps[size] = step | number << STEP_BITS;
                size++;
            }
        }

        private void test(int open) {
            both(open);
            for (int k = 0; k < MOST_BYTES && reader.isWord(OR); k++) {
                reader.advance();
                both(open);
                put(EITHER, 0);
            }
        }

        private void both(int open) {
            fact(open);
            for (int k = 0; k < MOST_BYTES && reader.isWord(AND); k++) {
                reader.advance();
                fact(open);
                put(BOTH, 0);
            }
        }

        private void fact(int open) {
            if (reader.isWord(NOT)) {
                if (opens(open)) {
                    fact(open + 1);
                    put(CONTRARY, 0);
                }
            } else if (reader.isSign('[')) {
                if (opens(open)) {
                    test(open + 1);
                    reader.needSign(']');
                }
            } else if (reader.isWord(ALL)) {
                reader.advance();
                put(PUSH, 1);
            } else {
                sum(open);
                int step = comparisonStep();
                if (step == NONE) {
                    reader.failHere();
                } else {
                    reader.advance();
                    sum(open);
                    put(step, 0);
                }
            }
        }

        private int comparisonStep() {
            if (reader.isSign('<')) {
                return BELOW;
            }
            if (reader.isSign('>')) {
                return ABOVE;
            }
            return reader.isSign('=') ? SAME : NONE;
        }

        private void sum(int open) {
            product(open);
            for (int k = 0; k < MOST_BYTES && (reader.isSign('+') || reader.isSign('-')); k++) {
                int step = reader.isSign('+') ? ADD : SUBTRACT;
                reader.advance();
                product(open);
                put(step, 0);
            }
        }

        private void product(int open) {
            part(open);
            for (int k = 0; k < MOST_BYTES && (reader.isSign('*') || reader.isSign('/')); k++) {
                int step = reader.isSign('*') ? MULTIPLY : DIVIDE;
                reader.advance();
                part(open);
                put(step, 0);
            }
        }

        private void part(int open) {
            int word = reader.word();
            if (reader.isNumber()) {
                put(PUSH, reader.takeNumber(0, MOST_NUMBER));
            } else if (reader.isSign('(')) {
                if (opens(open)) {
                    sum(open + 1);
                    reader.needSign(')');
                }
            } else if (word == MIN || word == MAX) {
                reader.advance();
                pair(word == MIN ? LESSER : GREATER, open);
            } else if (!isPart(word)) {
                reader.failHere();
            } else if (word == NEAR) {
                if (opens(open)) {
                    part(open + 1);
                    put(DISTANCE, 0);
                }
            } else {
                asksNight = asksNight || word == NIGHT;
                reader.advance();
                put(VALUE, word - HOUR);
            }
        }

        private void pair(int step, int open) {
            if (!reader.isSign('(')) {
                reader.failHere();
            } else if (opens(open)) {
                sum(open + 1);
                reader.needSign(',');
                sum(open + 1);
                reader.needSign(')');
                put(step, 0);
            }
        }

        private boolean isPart(int word) {
            return word >= HOUR && word <= NEAR && (parts >> word - HOUR & 1) == 1;
        }

        private boolean opens(int open) {
            if (open >= MOST_OPEN) {
                reader.fail(TOO_DEEP, reader.from);
                return false;
            }
            reader.advance();
            return true;
        }
    }

    /** Reads a LAND; what it gives back is one only when the reader holds no FAULT. */
    private static final class LandReader {
        final Reader reader;
        final Phrases phrases;

        LandReader(Reader reader, Phrases phrases) {
            this.reader = reader;
            this.phrases = phrases;
        }

        Land read() {
            reader.start();
            Land land = readGround();
            for (int n = 1; n <= MOST_STATEMENTS && reader.goesOn(); n++) {
                if (n == MOST_STATEMENTS) {
                    reader.fail(TOO_MANY, reader.from);
                } else {
                    readStatement(land);
                    reader.needSign(';');
                    land.statements++;
                }
            }
            return land;
        }

        private Land readGround() {
            reader.needWord(LAND);
            int columns = reader.takeNumber(LEAST_SIDE, MOST_SIDE);
            reader.needWord(BY);
            int rows = reader.takeNumber(LEAST_SIDE, MOST_SIDE);
            reader.needWord(HUNT);
            int column = reader.takeNumber(0, columns - 1);
            int row = reader.takeNumber(0, rows - 1);
            reader.needSign(';');
            return new Land(columns, rows, row * columns + column);
        }

        private void readStatement(Land land) {
            int word = reader.word();
            if (isOneTooMany(land, word)) {
                reader.fail(TOO_MANY, reader.from);
                return;
            }
            int at = reader.from;
            reader.advance();
            switch (word) {
                case CHAPEL: readChapel(land); break;
                case BELL: readBell(land); break;
                case WALKER: readWalker(land); break;
                case RIDES: land.rides = phrases.readSum(PARTS_OF_RIDES); break;
                case PAYS: land.pays = phrases.readSum(PARTS_OF_MEETING); break;
                case KEEPS: land.keeps = phrases.readTest(PARTS_OF_MEETING); break;
                case YEAR: land.year = reader.takeNumber(1, 99); break;
                case HARM: land.harm = reader.takeNumber(0, 999); break;
                case STORM: land.storm = reader.takeNumber(0, 100); break;
                default: reader.fail(NO_SUCH_TEXT, at);
            }
        }

        private static boolean isOneTooMany(Land land, int word) {
            switch (word) {
                case CHAPEL: return Long.bitCount(land.chapels) >= MOST_CHAPELS;
                case BELL: return land.bellCount >= MOST_BELLS;
                case WALKER: return land.walkerCount >= MOST_WALKERS;
                case RIDES: return land.rides.isThere();
                case PAYS: return land.pays.isThere();
                case KEEPS: return land.keeps.isThere();
                default: return false;
            }
        }

        private int takeCell(Land land) {
            int column = reader.takeNumber(0, land.columns - 1);
            int row = reader.takeNumber(0, land.rows - 1);
            return land.cellAt(column, row);
        }

        private int takeNewName(Land land) {
            int at = reader.from;
            int name = reader.takeName();
            if (land.hasName(name)) {
                reader.fail(NAME_TWICE, at);
            }
            return name;
        }

        private void readChapel(Land land) {
            int column = reader.takeNumber(0, land.columns - 1);
            int rowPlace = reader.from;
            int row = reader.takeNumber(0, land.rows - 1);
            int cell = land.cellAt(column, row);
            if (cell == land.begin || bitOf(land.chapels, cell) == 1) {
                reader.fail(NO_SUCH_NUMBER, rowPlace);
            }
            land.chapels |= 1L << cell;
        }

        private void readBell(Land land) {
            int name = takeNewName(land);
            reader.needWord(AT);
            int cell = takeCell(land);
            reader.needWord(ROPE);
            land.addBell(name, cell, reader.takeNumber(0, 99));
        }

        private void readWalker(Land land) {
            int name = takeNewName(land);
            reader.needWord(FROM);
            int home = takeCell(land);
            reader.needWord(TO);
            int goal = takeCell(land);
            reader.needWord(DOES);
            land.addWalker(name, home, goal, reader.takeNumber(0, LAST_MANNER));
        }
    }

    /** What a LAND's text tells; a CELL is its row times the columns and its column, sets of CELLS are bits. */
    private static final class Land {
        final int columns;
        final int rows;
        final int begin;
        final long[] around;
        final int[] bellCell = new int[MOST_BELLS];
        final int[] rope = new int[MOST_BELLS];
        final int[] goal = new int[MOST_WALKERS];
        final int[] manner = new int[MOST_WALKERS];
        final int[][] walk = new int[MOST_WALKERS][HOURS];
        final int[][] names = new int[2][MOST_WALKERS];
        long chapels;
        int bellCount;
        int walkerCount;
        int year = 12;
        int harm = 20;
        int storm;
        int statements = 1;
        Code rides;
        Code pays;
        Code keeps;

        Land(int columns, int rows, int begin) {
            this.columns = columns;
            this.rows = rows;
            this.begin = begin;
            around = new long[columns * rows];
            for (int k = 0; k < around.length; k++) {
                for (int other = 0; other < around.length; other++) {
                    around[k] |= distance(k, other) <= 1 ? 1L << other : 0L;
                }
            }
            Code none = new Code(new int[0], false);
            rides = none;
            pays = none;
            keeps = none;
        }

        boolean stands() {
            return columns > 0;
        }

        int cellCount() {
            return around.length;
        }

        boolean holds(int column, int row) {
            return column >= 0 && column < columns && row >= 0 && row < rows;
        }

        int cellAt(int column, int row) {
            return row * columns + column;
        }

        int columnOf(int cell) {
            return columns > 0 ? cell % columns : 0;
        }

        int rowOf(int cell) {
            return columns > 0 ? cell / columns : 0;
        }

        int distance(int one, int other) {
            int across = Math.abs(columnOf(one) - columnOf(other));
            return Math.max(across, Math.abs(rowOf(one) - rowOf(other)));
        }

        boolean isBell(int bell) {
            return bell >= 0 && bell < bellCount;
        }

        boolean isWalker(int walker) {
            return walker >= 0 && walker < walkerCount;
        }

        boolean hasName(int name) {
            boolean found = false;
            for (int k = 0; k < bellCount && !found; k++) {
                found = names[0][k] == name;
            }
            for (int k = 0; k < walkerCount && !found; k++) {
                found = names[1][k] == name;
            }
            return found;
        }

        void addBell(int name, int cell, int length) {
            if (bellCount < MOST_BELLS) {
                names[0][bellCount] = name;
                bellCell[bellCount] = cell;
                rope[bellCount] = length;
                bellCount++;
            }
        }

        void addWalker(int name, int home, int end, int how) {
            if (walkerCount < MOST_WALKERS) {
                names[1][walkerCount] = name;
                goal[walkerCount] = end;
                manner[walkerCount] = how;
                for (int hour = 0; hour < HOURS; hour++) {
                    int column = nearer(columnOf(home), columnOf(end), hour);
                    walk[walkerCount][hour] = cellAt(column, nearer(rowOf(home), rowOf(end), hour));
                }
                walkerCount++;
            }
        }

        private static int nearer(int from, int end, int steps) {
            return from < end ? Math.min(end, from + steps) : Math.max(end, from - steps);
        }

        /** The CELLS next to a RUNG BELL or under it. */
        long soundOf(int rung) {
            long sound = 0L;
            for (int k = 0; k < bellCount; k++) {
                sound |= (rung >> k & 1) == 1 ? around[bellCell[k]] : 0L;
            }
            return sound;
        }

        /** The CELLS to which the HUNT does not go. */
        long closedBy(int rung) {
            return chapels | soundOf(rung);
        }

        int lossOf(int bell, int rung, long trodden) {
            int lost = (trodden & around[bellCell[bell]]) != 0L ? harm : 0;
            return (rung >> bell & 1) == 1 ? lost + rope[bell] : lost;
        }
    }

    /** Works Codes out; values are those of the words HOUR to GONE, near the distances by HOURS. */
    private static final class Machine {
        final int[] values = new int[VALUE_COUNT];
        final int[] near = new int[HOURS];
        final int[] stack = new int[STACK_SIZE];
        int top;

        void setValue(int word, int number) {
            values[word - HOUR] = number;
        }

        int work(Code code) {
            top = 0;
            for (int k = 0; k < code.steps.length; k++) {
                int number = code.steps[k] >> STEP_BITS;
                int step = code.steps[k] & (1 << STEP_BITS) - 1;
                if (step == PUSH) {
                    push(number);
                } else if (step == VALUE) {
                    push(number < VALUE_COUNT ? values[number] : 0);
                } else if (step == CONTRARY) {
                    push(1 - pop());
                } else if (step == DISTANCE) {
                    int hour = pop();
                    push(hour >= 0 && hour < HOURS ? near[hour] : 0);
                } else {
                    int right = pop();
                    push(bounded(joined(step, pop(), right)));
                }
            }
            return pop();
        }

        private void push(int number) {
            if (top < STACK_SIZE) {
                stack[top] = number;
                top++;
            }
        }

        private int pop() {
            if (top == 0) {
                return 0;
            }
            top--;
            return stack[top];
        }

        private static long joined(int step, long left, long right) {
            switch (step) {
                case ADD: return left + right;
                case SUBTRACT: return left - right;
                case MULTIPLY: return left * right;
                case DIVIDE: return right == 0L ? 0L : Math.floorDiv(left, right);
                case LESSER: return Math.min(left, right);
                case GREATER: return Math.max(left, right);
                case BELOW: return left < right ? 1L : 0L;
                case ABOVE: return left > right ? 1L : 0L;
                case SAME: return left == right ? 1L : 0L;
                case BOTH: return left & right;
                default: return left | right;
            }
        }

        private static int bounded(long number) {
            return (int) Math.max(-MOST_SUM, Math.min(MOST_SUM, number));
        }
    }

    /** Where the HUNT is, hour by hour, in one NIGHT; asked again for the same it rides no second time. */
    private static final class Ride {
        final int[] cells = new int[HOURS];
        final Machine machine;
        long trodden;
        long entered;
        Land land;
        long closed;
        int begin;
        int night;

        Ride(Machine machine, Land nowhere) {
            this.machine = machine;
            land = nowhere;
        }

        void go(Land over, long closedCells, int from, int inNight) {
            boolean known = land == over && closed == closedCells && begin == from
                && (night == inNight || !over.rides.asksNight);
            if (known) {
                return;
            }
            land = over;
            closed = closedCells;
            begin = from;
            night = inNight;
            entered = 0L;
            cells[0] = from;
            for (int hour = 1; hour < HOURS; hour++) {
                int cell = next(cells[hour - 1], hour - 1);
                entered |= cell != cells[hour - 1] ? 1L << cell : 0L;
                cells[hour] = cell;
            }
            trodden = entered | 1L << from;
        }

        private int next(int cell, int hour) {
            int column = land.columnOf(cell);
            int row = land.rowOf(cell);
            int way = WAY_WITHOUT_RIDES;
            if (land.rides.isThere()) {
                machine.setValue(HOUR, hour);
                machine.setValue(NIGHT, night);
                machine.setValue(COLUMN, column);
                machine.setValue(ROW, row);
                way = Math.floorMod(machine.work(land.rides), WAYS + 1);
            }
            for (int k = 0; k < WAYS && way > 0; k++) {
                int turned = (way - 1 + k) % WAYS;
                int toColumn = column + WAY_COLUMNS[turned];
                int toRow = row + WAY_ROWS[turned];
                int there = land.cellAt(toColumn, toRow);
                if (land.holds(toColumn, toRow) && bitOf(closed, there) == 0) {
                    return there;
                }
            }
            return cell;
        }

        int hourAt(int cell) {
            for (int hour = 0; hour < HOURS; hour++) {
                if (cells[hour] == cell) {
                    return hour;
                }
            }
            return NONE;
        }

        int meetingHour(State state, int walker) {
            if (state.gone[walker] > 0 || state.manner[walker] == LIES_DOWN) {
                return NONE;
            }
            for (int hour = 0; hour < HOURS; hour++) {
                if (cells[hour] == land.walk[walker][hour]) {
                    return hour;
                }
            }
            return NONE;
        }

        int safeHour(int home, int goal) {
            if (home == cells[0]) {
                return NONE;
            }
            long reached = 1L << home;
            for (int hour = 0; hour < HOURS; hour++) {
                if (bitOf(reached, goal) == 1) {
                    return hour;
                }
                reached = hour + 1 < HOURS ? stepAside(reached, hour) : 0L;
            }
            return NONE;
        }

        /** The CELLS that can be reached in the next HOUR without coming upon the HUNT or through it. */
        private long stepAside(long reached, int hour) {
            long here = 1L << cells[hour];
            long there = 1L << cells[hour + 1];
            long next = 0L;
            for (int cell = 0; cell < land.cellCount(); cell++) {
                if (bitOf(reached, cell) == 1) {
                    next |= cell == cells[hour + 1] ? land.around[cell] & ~here : land.around[cell];
                }
            }
            return next & ~there;
        }
    }

    /** What NIGHTS and acts change, but the seed. */
    private static final class State {
        final int[] manner = new int[MOST_WALKERS];
        final int[] met = new int[MOST_WALKERS];
        final int[] purse = new int[MOST_WALKERS];
        final int[] gone = new int[MOST_WALKERS];
        final int[] told = new int[MOST_TOLD];
        int night;
        int rung;
        int toldFirst;
        int toldCount;

        void begin(Land land) {
            for (int k = 0; k < MOST_WALKERS; k++) {
                manner[k] = land.manner[k];
                met[k] = 0;
                purse[k] = 0;
                gone[k] = 0;
            }
            night = 0;
            rung = 0;
            toldFirst = 0;
            toldCount = 0;
        }

        void copyOf(State other) {
            System.arraycopy(other.manner, 0, manner, 0, MOST_WALKERS);
            System.arraycopy(other.met, 0, met, 0, MOST_WALKERS);
            System.arraycopy(other.purse, 0, purse, 0, MOST_WALKERS);
            System.arraycopy(other.gone, 0, gone, 0, MOST_WALKERS);
            System.arraycopy(other.told, 0, told, 0, MOST_TOLD);
            night = other.night;
            rung = other.rung;
            toldFirst = other.toldFirst;
            toldCount = other.toldCount;
        }

        int goneCount() {
            int count = 0;
            for (int k = 0; k < MOST_WALKERS; k++) {
                count += gone[k] > 0 ? 1 : 0;
            }
            return count;
        }

        int allPurses() {
            int all = 0;
            for (int k = 0; k < MOST_WALKERS; k++) {
                all += purse[k];
            }
            return all;
        }

        void tell(int hour, int walker, int kept) {
            told[(toldFirst + toldCount) % MOST_TOLD] = night << 8 | hour << 4 | walker << 1 | kept;
            if (toldCount < MOST_TOLD) {
                toldCount++;
            } else {
                toldFirst = (toldFirst + 1) % MOST_TOLD;
            }
        }

        int toldOf(int k, int what) {
            if (k < 0 || k >= toldCount) {
                return NONE;
            }
            int row = told[(toldFirst + k) % MOST_TOLD];
            switch (what) {
                case 0: return row >> 8;
                case 1: return row >> 4 & 15;
                case 2: return row >> 1 & 7;
                case 3: return row & 1;
                default: return NONE;
            }
        }
    }

    /** The states ahead of the last acts. */
    private static final class Past {
        final State[] states = new State[MOST_UNDONE];
        int newest;
        int count;

        Past() {
            for (int k = 0; k < MOST_UNDONE; k++) {
                states[k] = new State();
            }
        }

        void keep(State state) {
            newest = (newest + 1) % MOST_UNDONE;
            states[newest].copyOf(state);
            count = Math.min(MOST_UNDONE, count + 1);
        }

        void giveBack(State state) {
            state.copyOf(states[newest]);
            newest = (newest + MOST_UNDONE - 1) % MOST_UNDONE;
            count--;
        }
    }

    /** Lets NIGHTS go by and counts what comes of them since the start. */
    private static final class Host {
        final Machine machine;
        final Ride ride;
        int meetings;
        int kept;
        int metTonight;
        long entered;

        Host(Machine machine, Land nowhere) {
            this.machine = machine;
            ride = new Ride(machine, nowhere);
        }

        void start() {
            meetings = 0;
            kept = 0;
            entered = 0L;
        }

        void passNight(Land land, State state, long moreChapels) {
            ride.go(land, land.closedBy(state.rung) | moreChapels, land.begin, state.night);
            entered |= ride.entered;
            metTonight = 0;
            for (int k = 0; k < land.walkerCount; k++) {
                int hour = ride.meetingHour(state, k);
                if (state.gone[k] > 0) {
                    state.gone[k]--;
                } else if (hour != NONE) {
                    meet(land, state, k, hour);
                }
            }
            state.night++;
        }

        void passStorm(State state) {
            for (int k = 0; k < MOST_WALKERS; k++) {
                state.gone[k] = Math.max(0, state.gone[k] - 1);
            }
            state.night++;
        }

        private void meet(Land land, State state, int walker, int hour) {
            machine.setValue(HOUR, hour);
            machine.setValue(NIGHT, state.night);
            machine.setValue(MANNER, state.manner[walker]);
            machine.setValue(MET, state.met[walker]);
            machine.setValue(PURSE, state.purse[walker]);
            // Without steps a Code is worth 0: no pay, nobody kept.
            int pay = machine.work(land.pays);
            boolean keeps = state.manner[walker] == ANSWERS || machine.work(land.keeps) == 1;
            state.purse[walker] = Math.max(0, Math.min(MOST_PURSE, state.purse[walker] + pay));
            state.met[walker] = Math.min(MOST_MET, state.met[walker] + 1);
            if (keeps) {
                state.gone[walker] = land.year;
                kept++;
            }
            state.tell(hour, walker, keeps ? 1 : 0);
            meetings++;
            metTonight |= 1 << walker;
        }
    }

    /** A QUESTION of all WALKERS. */
    private static final class Question {
        final Reader reader;
        final Phrases phrases;
        int asked;
        Code code;

        Question(Reader reader, Phrases phrases) {
            this.reader = reader;
            this.phrases = phrases;
            code = new Code(new int[0], false);
        }

        void read() {
            reader.start();
            asked = reader.word();
            if (asked == FIRST || asked == LAST || asked == OFTEN) {
                reader.advance();
                code = phrases.readTest(PARTS_OF_QUESTION);
            } else if (asked == TOTAL || asked == MOST || asked == LEAST) {
                reader.advance();
                code = phrases.readSum(PARTS_OF_QUESTION);
            } else {
                reader.failHere();
            }
            if (reader.goesOn()) {
                reader.failHere();
            }
        }

        long answer(Ride ride, State state) {
            long answer = asked == FIRST || asked == LAST ? NONE : 0L;
            for (int k = 0; k < ride.land.walkerCount; k++) {
                setValues(ride, state, k);
                int worth = ride.machine.work(code);
                switch (asked) {
                    case FIRST: answer = worth == 1 && answer == NONE ? k : answer; break;
                    case LAST: answer = worth == 1 ? k : answer; break;
                    case MOST: answer = k == 0 ? worth : Math.max(answer, worth); break;
                    case LEAST: answer = k == 0 ? worth : Math.min(answer, worth); break;
                    default: answer += worth;
                }
            }
            return answer;
        }

        private static void setValues(Ride ride, State state, int walker) {
            Machine machine = ride.machine;
            int home = ride.land.walk[walker][0];
            int meeting = ride.meetingHour(state, walker);
            machine.setValue(HOUR, meeting == NONE ? HOURS : meeting);
            machine.setValue(NIGHT, state.night);
            machine.setValue(COLUMN, ride.land.columnOf(home));
            machine.setValue(ROW, ride.land.rowOf(home));
            machine.setValue(MANNER, state.manner[walker]);
            machine.setValue(MET, state.met[walker]);
            machine.setValue(PURSE, state.purse[walker]);
            machine.setValue(NUMBER, walker);
            machine.setValue(GONE, state.gone[walker]);
            for (int hour = 0; hour < HOURS; hour++) {
                machine.near[hour] = ride.land.distance(home, ride.cells[hour]);
            }
        }
    }
}
