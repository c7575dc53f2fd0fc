/** An opera is given nightly till the murderer stands up; README.md says how to use it. */
public final class UntilHeConfesses {
    public static final int NONE = -1;

    private static final int OTHER = -2;
    private static final int SUSPECTS = 6;
    private static final int SCENES = 7;
    private static final int SEATS = 40;
    private static final int TEXTS = 4;
    private static final int LAST_NIGHT = 9999;
    private static final int NIGHTS_AT_ONCE = 60;
    private static final int FIRST_X = 113;

    private static final int GUILT = 0;
    private static final int GRIEF = 1;
    private static final int PAYS = 2;

    private final House house;
    private final House imageOfHouse;
    private final Tape tape;
    private final Reader reader;
    private final Laws laws;
    private final Play play;
    private final Belief belief;
    private final Plans plans;
    private final Witnesses witnesses;

    public UntilHeConfesses() {
        house = new House();
        imageOfHouse = new House();
        tape = new Tape();
        reader = new Reader(tape);
        laws = new Laws(house);
        play = new Play(house, laws);
        belief = new Belief(house, laws);
        plans = new Plans(house, laws);
        witnesses = new Witnesses(house);
    }

    public int suspect(boolean guilty, int nerves, int seat) {
        return house.stage.tellSuspect(guilty, nerves, seat);
    }

    public int scene(int heat, int length) {
        return house.stage.tellScene(heat, length);
    }

    public int feed(int a, int b, int c, int d, int e) {
        if (!tape.hasRoom(20)) {
            return NONE;
        }
        tape.addFour(a);
        tape.addFour(b);
        tape.addFour(c);
        tape.addFour(d);
        tape.addFour(e);
        return tape.size;
    }

    public int end(int n) {
        if (n < 0 || n > tape.size) {
            return NONE;
        }
        tape.size = n;
        return n;
    }

    public int text() {
        if (house.texts >= TEXTS) {
            return NONE;
        }
        Text made = reader.readTape();
        tape.size = 0;
        return house.keepText(made);
    }

    public int fault(int what) {
        if (what == 0) {
            return reader.latestFault;
        }
        return what == 1 ? reader.latestPlace : NONE;
    }

    public boolean by(int text) {
        if (text != NONE && !house.hasText(text)) {
            return false;
        }
        house.ruling = text;
        return true;
    }

    public int cut(int scene) {
        return play.cutByHand(scene) ? house.stage.howManyGiven() : NONE;
    }

    public boolean encore(int scene) {
        return play.encoreByHand(scene);
    }

    public int away(int suspect) {
        return play.sendByHand(suspect) ? house.stage.howManyCome() : NONE;
    }

    public boolean seat(int suspect, int seat) {
        return play.seatByHand(suspect, seat);
    }

    public int night(int n) {
        if (n < 1 || n > NIGHTS_AT_ONCE || n > LAST_NIGHT - house.stage.night) {
            return NONE;
        }
        return play.nightsByHand(n);
    }

    public int played(int text) {
        Text script = house.textOf(text);
        if (script == null) {
            return OTHER;
        }
        for (int k = 0; k < script.clauses; k++) {
            if (!play.playClause(script, k)) {
                return k;
            }
        }
        return NONE;
    }

    public int seasons(int seed, int n) {
        if (seed < 0 || seed > 9999 || n < 1 || n > 30) {
            return NONE;
        }
        play.drawSeasons(seed, n);
        return house.stage.night;
    }

    public int undo() {
        return house.takeBack() ? house.steps : NONE;
    }

    public int ofSuspect(int suspect, int what) {
        Stage stage = house.stage;
        if (!stage.hasSuspect(suspect)) {
            return NONE;
        }
        switch (what) {
            case 0: return stage.isGuilty(suspect) ? 1 : 0;
            case 1: return stage.nerves[suspect];
            case 2: return stage.seats[suspect];
            case 3: return stage.habits[suspect];
            case 4: return stage.comes(suspect) ? 1 : 0;
            case 5: return laws.paysNow(suspect);
            default: return NONE;
        }
    }

    public int ofScene(int scene, int what) {
        Stage stage = house.stage;
        if (!stage.hasScene(scene)) {
            return NONE;
        }
        switch (what) {
            case 0: return stage.heats[scene];
            case 1: return stage.lengths[scene];
            case 2: return stage.isCut(scene) ? 1 : 0;
            case 3: return stage.isEncored(scene) ? 1 : 0;
            default: return NONE;
        }
    }

    public int is(int what) {
        switch (what) {
            case 0: return house.stage.night;
            case 1: return house.stage.takings;
            case 2: return house.stage.x;
            default: return OTHER;
        }
    }

    public int book(int i, int what) {
        Stage stage = house.stage;
        if (i == NONE) {
            return stage.written;
        }
        if (i < 0 || i >= stage.written) {
            return OTHER;
        }
        switch (what) {
            case 0: return stage.nightOfSign(i);
            case 1: return stage.sceneOfSign(i);
            case 2: return stage.suspectOfSign(i);
            default: return OTHER;
        }
    }

    public int odds(int suspect, int scene, boolean guilt) {
        if (!house.stage.hasBoth(suspect, scene)) {
            return NONE;
        }
        return laws.oddsNow(suspect, scene, guilt);
    }

    public boolean weight(int suspect, int weight) {
        if (!house.stage.hasSuspect(suspect) || weight < 0 || weight > 99) {
            return false;
        }
        house.notes.weights[suspect] = weight;
        return true;
    }

    public int observe(int suspect, int scene, boolean sign) {
        if (suspect == NONE) {
            return house.notes.forget(Notes.OBSERVED);
        }
        if (!house.stage.hasBoth(suspect, scene)) {
            return OTHER;
        }
        return house.notes.write(Notes.OBSERVED, suspect, scene, sign ? 1 : 0);
    }

    public long share(int suspect, boolean low) {
        if (!house.stage.hasSuspect(suspect)) {
            return NONE;
        }
        return belief.shareOf(suspect, low);
    }

    public int tellsMost() {
        return belief.mostTelling();
    }

    public int guess() {
        return belief.likeliest();
    }

    public long both(int one, int other, boolean low) {
        Stage stage = house.stage;
        if (one == other || !stage.hasSuspect(one) || !stage.hasSuspect(other)) {
            return NONE;
        }
        return belief.shareOfTwo(one, other, low);
    }

    public int foretold(int n, int what) {
        if (n < 1 || n > NIGHTS_AT_ONCE || what < 0 || what > 1) {
            return NONE;
        }
        return what == 0 ? play.signsBehind(n) : play.takingsBehind(n);
    }

    public int habit(int n, int suspect) {
        if (n < 1 || n > NIGHTS_AT_ONCE || !house.stage.hasSuspect(suspect)) {
            return NONE;
        }
        return play.habitBehind(n, suspect);
    }

    public int firstSign(int suspect) {
        return house.stage.hasSuspect(suspect) ? play.nightsToSign(suspect) : NONE;
    }

    public int order(int suspect, int scenes, int i) {
        if (!house.stage.hasSuspect(suspect) || !isSet(scenes, house.stage.scenes)) {
            return OTHER;
        }
        int given = countBits(scenes);
        if (given > 5 || i < NONE || i >= given) {
            return OTHER;
        }
        return plans.bestOrder(suspect, scenes, i);
    }

    public long unseen(int suspect, boolean low) {
        if (!house.stage.hasSuspect(suspect)) {
            return NONE;
        }
        return belief.oddsUnseen(suspect, low);
    }

    public boolean risk(int night, int odds) {
        if (night < 0 || night > 8 || odds < 0 || odds > 10) {
            return false;
        }
        house.notes.risks[night] = odds;
        return true;
    }

    public long staysAway(int n, int c, int p, int what) {
        if (n < 1 || n > 9 || c < 0 || c > 99 || p < 0 || p > 9999) {
            return NONE;
        }
        if (what < 0 || what > 2) {
            return NONE;
        }
        return plans.cheapestNights(n, c, p, what);
    }

    public long toRun(int t, int d, int q, int w, int what) {
        if (t < 0 || t > 9999 || d < 0 || d > 999 || q < 0 || q > 10) {
            return NONE;
        }
        if (w < 0 || w > 9999 || what < 0 || what > 2) {
            return NONE;
        }
        return plans.bestRun(t, d, q, w, what);
    }

    public int cuts(int m) {
        return m < 0 || m > 99 ? NONE : plans.hottestSet(m);
    }

    public int lasts() {
        return house.stage.lengthOfNight();
    }

    public int ahead(int one, int other) {
        if (one == NONE) {
            return house.notes.forget(Notes.AHEAD);
        }
        if (one == other || !house.stage.hasScene(one) || !house.stage.hasScene(other)) {
            return OTHER;
        }
        return house.notes.write(Notes.AHEAD, one, other, 0);
    }

    public int orders() {
        return plans.howManyOrders();
    }

    public int facing() {
        return witnesses.pairsAsNow();
    }

    public int seating(int suspects, int suspect) {
        if (!isSet(suspects, house.stage.suspects) || countBits(suspects) > 5) {
            return OTHER;
        }
        if (suspect == NONE) {
            return witnesses.pairsOfBestSeating(suspects);
        }
        if (!house.stage.hasSuspect(suspect) || !hasBit(suspects, suspect)) {
            return OTHER;
        }
        return witnesses.seatInBestSeating(suspects, suspect);
    }

    public int lonely() {
        return witnesses.lonelyOnes();
    }

    public int bestSeat(int suspect, boolean faced) {
        if (!house.stage.hasSuspect(suspect)) {
            return NONE;
        }
        return witnesses.seatFacingMost(suspect, faced);
    }

    public int worth() {
        return laws.paidByAll();
    }

    public int torn(int suspect, int row, boolean sat) {
        if (suspect == NONE) {
            return house.notes.forget(Notes.TORN);
        }
        if (!house.stage.hasSuspect(suspect) || row < 0 || row > 3) {
            return OTHER;
        }
        return house.notes.write(Notes.TORN, suspect, row, sat ? 1 : 0);
    }

    public int sittings(boolean sure) {
        if (house.stage.suspects > 5) {
            return NONE;
        }
        return witnesses.sittingsByTorn(sure);
    }

    public long claque(int n, int h, boolean low) {
        if (n < 1 || n > 17 || (n & 1) == 0 || h < 0 || h > 10) {
            return NONE;
        }
        return plans.oddsOfMost(n, h, low);
    }

    public int sign(int suspect, int scene, int odds) {
        if (suspect == NONE) {
            return house.notes.forget(Notes.SIGNS);
        }
        if (!house.stage.hasBoth(suspect, scene) || odds < 0 || odds > 10) {
            return OTHER;
        }
        return house.notes.write(Notes.SIGNS, suspect, scene, odds);
    }

    public int whose() {
        return belief.textsThatFit();
    }

    public int signs(int suspect, int scene) {
        Stage stage = house.stage;
        if (suspect != NONE && !stage.hasSuspect(suspect)) {
            return OTHER;
        }
        if (scene != NONE && !stage.hasScene(scene)) {
            return OTHER;
        }
        return stage.countSigns(suspect, scene);
    }

    public int crying() {
        return house.stage.mostWritten();
    }

    public int empty(int row) {
        return row < 0 || row > 3 ? NONE : house.stage.emptySeats(row);
    }

    public int hottest() {
        return house.stage.hottestGiven();
    }

    public int suspected() {
        return house.stage.guiltyRows();
    }

    public int falseSigns() {
        return house.stage.countFalse();
    }

    public int image() {
        imageOfHouse.copyFrom(house);
        return house.stage.night;
    }

    public int back() {
        house.copyFrom(imageOfHouse);
        return house.stage.night;
    }

    public int about(int what) {
        switch (what) {
            case 0: return house.stage.suspects;
            case 1: return house.stage.scenes;
            case 2: return house.texts;
            case 3: return house.ruling;
            case 4: return house.steps;
            case 5: return house.notes.sizes[Notes.OBSERVED];
            case 6: return house.notes.sizes[Notes.AHEAD];
            case 7: return house.notes.sizes[Notes.TORN];
            case 8: return house.notes.sizes[Notes.SIGNS];
            case 9: return tape.size;
            default: return OTHER;
        }
    }

    private static boolean hasBit(int bits, int i) {
        return (bits >> i & 1) == 1;
    }

    private static int countBits(int bits) {
        int many = 0;
        for (int i = 0; i < 32; i++) {
            many += bits >> i & 1;
        }
        return many;
    }

    /** A set of some of the first n, not of none. */
    private static boolean isSet(int bits, int n) {
        return bits > 0 && bits < 1 << n;
    }

    /** Writes the members of a set, ascending; answers how many. */
    private static int membersOf(int bits, int[] members) {
        int many = 0;
        for (int i = 0; i < SCENES && many < members.length; i++) {
            if (hasBit(bits, i)) {
                members[many] = i;
                many++;
            }
        }
        return many;
    }

    private static int within(int value, int least, int most) {
        if (value < least) {
            return least;
        }
        return value > most ? most : value;
    }

    private static long power(long base, int n) {
        long product = 1;
        for (int k = 0; k < n; k++) {
            product *= base;
        }
        return product;
    }

    /** The upper or the lower one of a fraction in lowest terms; 0 by 1, if the lower one is 0. */
    private static long lowestTerms(long upper, long lower, boolean low) {
        if (lower <= 0) {
            return low ? 1 : 0;
        }
        long divisor = lower;
        long rest = upper;
        for (int turn = 0; turn < 200 && rest != 0; turn++) {
            long next = divisor % rest;
            divisor = rest;
            rest = next;
        }
        if (divisor == 0) {
            return low ? lower : upper;
        }
        return (low ? lower : upper) / divisor;
    }

    /** Makes the next order of the first n by the alphabet; false behind the last. */
    private static boolean nextOrder(int[] row, int n) {
        if (n < 2 || n > row.length) {
            return false;
        }
        int i = n - 2;
        while (i >= 0 && row[i] >= row[i + 1]) {
            i--;
        }
        if (i < 0) {
            return false;
        }
        int j = n - 1;
        while (j > i && row[j] <= row[i]) {
            j--;
        }
        swap(row, i, j);
        int left = i + 1;
        int right = n - 1;
        while (left < right) {
            swap(row, left, right);
            left++;
            right--;
        }
        return true;
    }

    private static void swap(int[] row, int i, int j) {
        int held = row[i];
        row[i] = row[j];
        row[j] = held;
    }

    private static void copyRow(int[] from, int[] to) {
        for (int i = 0; i < from.length && i < to.length; i++) {
            to[i] = from[i];
        }
    }

    /** A TEXT that was read without a FAULT; it never changes, so houses can share it. */
    private static final class Text {
        final int[] code;
        final int[] lawFrom = new int[3];
        final int[] lawTill = new int[3];
        final int clauses;
        final int[] kinds;
        final int[] firsts;
        final int[] seconds;

        Text(int codeSize, int clauses) {
            code = new int[codeSize < 0 ? 0 : codeSize];
            this.clauses = clauses < 0 ? 0 : clauses;
            kinds = new int[this.clauses];
            firsts = new int[this.clauses];
            seconds = new int[this.clauses];
        }

        boolean hasLaw(int law) {
            return law >= 0 && law < 3 && lawTill[law] > lawFrom[law];
        }
    }

    /** The bytes that were fed, and the TOKENS in them. */
    private static final class Tape {
        static final int ROOM = 300;

        static final int END = 0;
        static final int NO_TOKEN = 1;
        static final int NUMBER = 2;
        static final int PLUS = 3;
        static final int MINUS = 4;
        static final int TIMES = 5;
        static final int BY = 6;
        static final int OPEN = 7;
        static final int CLOSE = 8;
        static final int SEMICOLON = 9;
        /** A word's kind is this and the word's number more. */
        static final int WORD = 10;

        static final int SUSPECT = 3;
        static final int MURDERER = 4;
        static final int SCENE = 5;
        static final int CUT = 6;
        static final int ENCORE = 7;
        static final int AWAY = 8;
        static final int SEAT = 9;
        /** NIGHT begins a CLAUSE and is the first NAME; I is the last. */
        static final int NIGHT = 10;
        static final int NERVES = 11;
        static final int HABIT = 12;
        static final int ROW = 13;
        static final int PLACE = 14;
        static final int HEAT = 15;
        static final int LENGTH = 16;
        static final int NUMBER_WORD = 17;
        static final int I = 18;
        static final int TOTAL = 19;
        static final int OF = 20;
        static final int ON = 21;
        static final int FOR = 22;
        static final int WORDS = 23;

        /** Above all NUMBERS that a TEXT may hold, and as far as one is counted. */
        static final int TOO_GREAT = 10000;

        final int[] bytes = new int[ROOM];
        int size;
        final int[] kinds = new int[ROOM + 1];
        final int[] starts = new int[ROOM + 1];
        final int[] lengths = new int[ROOM + 1];
        final int[] values = new int[ROOM + 1];
        int tokens;

        Tape() {
            size = 0;
        }

        boolean hasRoom(int more) {
            return size + more <= ROOM;
        }

        void addFour(int four) {
            for (int shift = 24; shift >= 0; shift -= 8) {
                if (size >= 0 && size < ROOM) {
                    bytes[size] = four >> shift & 255;
                    size++;
                }
            }
        }

        /** Finds all TOKENS, the end as the last one. */
        void split() {
            tokens = 0;
            for (int i = 0; i < size; i++) {
                if (goesOn(i) && tokens > 0) {
                    lengths[tokens - 1]++;
                } else if (!isBlank(bytes[i])) {
                    startToken(i);
                }
            }
            for (int t = 0; t < tokens; t++) {
                nameToken(t);
            }
            startToken(size);
        }

        private boolean goesOn(int i) {
            if (i <= 0) {
                return false;
            }
            int ahead = bytes[i - 1];
            return isDigit(bytes[i]) && isDigit(ahead) || isLetter(bytes[i]) && isLetter(ahead);
        }

        private void startToken(int place) {
            if (tokens < starts.length) {
                kinds[tokens] = END;
                starts[tokens] = place;
                lengths[tokens] = 1;
                values[tokens] = 0;
                tokens++;
            }
        }

        private void nameToken(int t) {
            int sign = bytes[starts[t]];
            if (isDigit(sign)) {
                kinds[t] = NUMBER;
                values[t] = numberAt(starts[t], lengths[t]);
            } else if (isLetter(sign)) {
                kinds[t] = wordKind(starts[t], lengths[t]);
            } else {
                kinds[t] = markKind(sign);
            }
        }

        private int numberAt(int start, int length) {
            int number = 0;
            for (int i = start; i < start + length && i < size; i++) {
                number = Math.min(number * 10 + bytes[i] - '0', TOO_GREAT);
            }
            return number;
        }

        private int wordKind(int start, int length) {
            for (int word = 0; word < WORDS; word++) {
                if (isWord(spelling(word), start, length)) {
                    return WORD + word;
                }
            }
            return NO_TOKEN;
        }

        private boolean isWord(String letters, int start, int length) {
            if (letters.length() != length) {
                return false;
            }
            for (int k = 0; k < letters.length() && start + k < size; k++) {
                if (letters.charAt(k) != bytes[start + k]) {
                    return false;
                }
            }
            return true;
        }

        private static boolean isBlank(int sign) {
            return sign == 32 || sign == 10;
        }

        private static boolean isDigit(int sign) {
            return sign >= '0' && sign <= '9';
        }

        private static boolean isLetter(int sign) {
            return sign >= 'a' && sign <= 'z' || sign >= 'A' && sign <= 'Z';
        }

        private static int markKind(int sign) {
            switch (sign) {
                case '+': return PLUS;
                case '-': return MINUS;
                case '*': return TIMES;
                case '/': return BY;
                case '(': return OPEN;
                case ')': return CLOSE;
                case ';': return SEMICOLON;
                default: return NO_TOKEN;
            }
        }

        private static String spelling(int word) {
            switch (word) {
                case GUILT: return "guilt";
                case GRIEF: return "grief";
                case PAYS: return "pays";
                case SUSPECT: return "suspect";
                case MURDERER: return "murderer";
                case SCENE: return "scene";
                case CUT: return "cut";
                case ENCORE: return "encore";
                case AWAY: return "away";
                case SEAT: return "seat";
                case NIGHT: return "night";
                case NERVES: return "nerves";
                case HABIT: return "habit";
                case ROW: return "row";
                case PLACE: return "place";
                case HEAT: return "heat";
                case LENGTH: return "length";
                case NUMBER_WORD: return "number";
                case I: return "i";
                case TOTAL: return "total";
                case OF: return "of";
                case ON: return "on";
                case FOR: return "for";
                default: return "";
            }
        }
    }

    /** Reads the tape as a TEXT, up to its end or its first FAULT. */
    private static final class Reader {
        static final int CLAUSES = 24;
        static final int OPEN_AT_MOST = 8;

        final Tape tape;
        int latestFault = NONE;
        int latestPlace = NONE;
        private int token;
        private int kind;
        private int wrong;
        private int clauses;
        private final int[] kinds = new int[CLAUSES];
        private final int[] firsts = new int[CLAUSES];
        private final int[] seconds = new int[CLAUSES];
        private int codeSize;
        private final int[] code = new int[Tape.ROOM];
        private final int[] lawFrom = new int[3];
        private final int[] lawTill = new int[3];
        private int lawRead;
        private boolean inTotal;

        Reader(Tape tape) {
            this.tape = tape;
        }

        /** The TEXT, or null, if it has a FAULT. */
        Text readTape() {
            startAnew();
            for (int k = 0; k <= CLAUSES && wrong == 0 && kind != Tape.END; k++) {
                readClause();
            }
            latestFault = wrong;
            if (wrong != 0) {
                return null;
            }
            latestPlace = NONE;
            return makeText();
        }

        private void startAnew() {
            wrong = 0;
            clauses = 0;
            codeSize = 0;
            inTotal = false;
            for (int law = 0; law < 3; law++) {
                lawFrom[law] = 0;
                lawTill[law] = 0;
            }
            tape.split();
            token = -1;
            goOn();
        }

        private Text makeText() {
            Text made = new Text(codeSize, clauses);
            copyRow(code, made.code);
            copyRow(lawFrom, made.lawFrom);
            copyRow(lawTill, made.lawTill);
            copyRow(kinds, made.kinds);
            copyRow(firsts, made.firsts);
            copyRow(seconds, made.seconds);
            return made;
        }

        /** To the next TOKEN; the end is not gone beyond. */
        private void goOn() {
            if (token + 1 < tape.tokens) {
                token++;
                kind = tape.kinds[token];
            }
        }

        private void fail(int what) {
            if (wrong == 0 && token >= 0 && token < tape.tokens) {
                wrong = what;
                latestPlace = tape.starts[token];
            }
        }

        private void readClause() {
            int word = kind - Tape.WORD;
            if (word < GUILT || word > Tape.NIGHT) {
                fail(1);
            } else if (word <= PAYS && lawTill[word] > 0) {
                fail(4);
            } else if (clauses >= CLAUSES) {
                fail(6);
            } else {
                kinds[clauses] = word;
                goOn();
                if (word <= PAYS) {
                    lawRead = word;
                    lawFrom[word] = codeSize;
                    readSum(0);
                    lawTill[word] = codeSize;
                } else {
                    readDeed(word);
                }
                pass(Tape.SEMICOLON);
                clauses++;
            }
        }

        private void readDeed(int word) {
            switch (word) {
                case Tape.SUSPECT:
                case Tape.MURDERER:
                    readTwo(9, Tape.ON, 0, SEATS - 1);
                    break;
                case Tape.SCENE:
                    readTwo(9, Tape.FOR, 1, 9);
                    break;
                case Tape.SEAT:
                    readTwo(SUSPECTS - 1, Tape.ON, 0, SEATS - 1);
                    break;
                case Tape.AWAY:
                    firsts[clauses] = readNumber(0, SUSPECTS - 1);
                    break;
                case Tape.NIGHT:
                    firsts[clauses] = readNumber(1, NIGHTS_AT_ONCE);
                    break;
                default:
                    firsts[clauses] = readNumber(0, SCENES - 1);
                    break;
            }
        }

        private void readTwo(int firstMost, int between, int secondLeast, int secondMost) {
            firsts[clauses] = readNumber(0, firstMost);
            pass(Tape.WORD + between);
            seconds[clauses] = readNumber(secondLeast, secondMost);
        }

        private int readNumber(int least, int most) {
            if (wrong != 0) {
                return 0;
            }
            int number = tape.values[token];
            if (kind != Tape.NUMBER) {
                fail(1);
            } else if (number < least || number > most) {
                fail(2);
            } else {
                goOn();
            }
            return number;
        }

        private void pass(int wanted) {
            if (wrong != 0) {
                return;
            }
            if (kind != wanted) {
                fail(1);
            } else {
                goOn();
            }
        }

        /**
         * A deed is put behind its right side: of * and / at once, of + and - when the PRODUCT
         * there has ended. How many ( total and - are open goes along, as 8 at most may be.
         */
        private void readSum(int open) {
            int sumDeed = NONE;
            int productDeed = NONE;
            boolean more = true;
            for (int k = 0; k < Tape.ROOM && wrong == 0 && more; k++) {
                readOne(open);
                put(productDeed, 0);
                productDeed = NONE;
                if (kind == Tape.TIMES || kind == Tape.BY) {
                    productDeed = kind == Tape.TIMES ? Laws.TIMES : Laws.BY;
                } else {
                    put(sumDeed, 0);
                    more = kind == Tape.PLUS || kind == Tape.MINUS;
                    sumDeed = kind == Tape.PLUS ? Laws.ADD : Laws.LESS;
                }
                if (more) {
                    goOn();
                }
            }
        }

        private void readOne(int open) {
            if (wrong != 0) {
                return;
            }
            if (kind == Tape.NUMBER) {
                put(Laws.PUSH, readNumber(0, 9999));
            } else if (kind >= Tape.WORD + Tape.NIGHT && kind <= Tape.WORD + Tape.I) {
                readName(kind - Tape.WORD);
            } else if (kind != Tape.OPEN && kind != Tape.MINUS && kind != Tape.WORD + Tape.TOTAL) {
                fail(1);
            } else if (open >= OPEN_AT_MOST) {
                fail(3);
            } else if (kind == Tape.WORD + Tape.TOTAL) {
                readTotal(open);
            } else if (kind == Tape.MINUS) {
                goOn();
                readOne(open + 1);
                put(Laws.MINUS, 0);
            } else {
                goOn();
                readSum(open + 1);
                pass(Tape.CLOSE);
            }
        }

        private void readName(int word) {
            boolean ofScenes = word >= Tape.HEAT && word <= Tape.NUMBER_WORD;
            if (ofScenes && lawRead == PAYS || word == Tape.I && !inTotal) {
                fail(5);
                return;
            }
            put(Laws.NAME, word - Tape.NIGHT);
            goOn();
        }

        private void readTotal(int open) {
            if (inTotal) {
                fail(7);
                return;
            }
            inTotal = true;
            goOn();
            put(Laws.TOTAL, readNumber(1, 9));
            pass(Tape.WORD + Tape.OF);
            readOne(open + 1);
            put(Laws.AGAIN, 0);
            inTotal = false;
        }

        /** NONE puts nothing. */
        private void put(int deed, int value) {
            if (wrong == 0 && deed != NONE && codeSize < code.length) {
                code[codeSize] = deed * Laws.VALUES + value;
                codeSize++;
            }
        }
    }

    /** SUSPECTS and SCENES, and what a NIGHT changes of them. */
    private static final class Stage {
        /** How many numbers a row must hold to keep what a STEP may change. */
        static final int ROW = 62;
        static final int SEATS_AT = 10;
        static final int HABITS_AT = 16;
        static final int BOOK_AT = 22;
        static final int BOOK = 40;
        static final int MOST_TAKINGS = 99999999;

        int suspects;
        int guiltyOnes;
        int awayOnes;
        final int[] nerves = new int[SUSPECTS];
        final int[] seats = new int[SUSPECTS];
        final int[] toldSeats = new int[SUSPECTS];
        final int[] habits = new int[SUSPECTS];
        int scenes;
        int cutOnes;
        int encoredOnes;
        final int[] heats = new int[SCENES];
        final int[] lengths = new int[SCENES];
        int night;
        int takings;
        int x;
        final int[] signBook = new int[BOOK];
        int eldest;
        int written;

        Stage() {
            x = FIRST_X;
        }

        int tellSuspect(boolean guilty, int nerve, int place) {
            if (suspects >= SUSPECTS || nerve < 0 || nerve > 9 || !isFree(place)) {
                return NONE;
            }
            int number = suspects;
            if (guilty) {
                guiltyOnes |= 1 << number;
            }
            nerves[number] = nerve;
            seats[number] = place;
            toldSeats[number] = place;
            suspects++;
            return number;
        }

        int tellScene(int heat, int length) {
            if (scenes >= SCENES || heat < 0 || heat > 9 || length < 1 || length > 9) {
                return NONE;
            }
            int number = scenes;
            heats[number] = heat;
            lengths[number] = length;
            scenes++;
            return number;
        }

        boolean hasSuspect(int suspect) {
            return suspect >= 0 && suspect < suspects && suspect < SUSPECTS;
        }

        boolean hasScene(int scene) {
            return scene >= 0 && scene < scenes && scene < SCENES;
        }

        boolean hasBoth(int suspect, int scene) {
            return hasSuspect(suspect) && hasScene(scene);
        }

        boolean isGuilty(int suspect) {
            return hasBit(guiltyOnes, suspect);
        }

        boolean comes(int suspect) {
            return !hasBit(awayOnes, suspect);
        }

        boolean isCut(int scene) {
            return hasBit(cutOnes, scene);
        }

        boolean isEncored(int scene) {
            return hasBit(encoredOnes, scene);
        }

        boolean canEncore(int scene) {
            return hasScene(scene) && !isCut(scene) && !isEncored(scene);
        }

        /** How often a SCENE is given in a NIGHT. */
        int timesGiven(int scene) {
            if (isCut(scene)) {
                return 0;
            }
            return isEncored(scene) ? 2 : 1;
        }

        /** A SEAT of the house on which nobody is. */
        boolean isFree(int place) {
            if (place < 0 || place >= SEATS) {
                return false;
            }
            for (int s = 0; s < suspects; s++) {
                if (seats[s] == place) {
                    return false;
                }
            }
            return true;
        }

        int howManyGiven() {
            return scenes - countBits(cutOnes);
        }

        int howManyCome() {
            return suspects - countBits(awayOnes);
        }

        int lengthOfNight() {
            int together = 0;
            for (int c = 0; c < scenes; c++) {
                together += lengths[c] * timesGiven(c);
            }
            return together;
        }

        int hottestGiven() {
            int best = NONE;
            int most = NONE;
            for (int c = 0; c < scenes; c++) {
                if (!isCut(c) && heats[c] > most) {
                    best = c;
                    most = heats[c];
                }
            }
            return best;
        }

        int emptySeats(int row) {
            int many = 0;
            for (int place = row * 10; place < row * 10 + 10; place++) {
                if (!isTaken(place)) {
                    many++;
                }
            }
            return many;
        }

        /** Somebody who COMES is on it. */
        private boolean isTaken(int place) {
            for (int s = 0; s < suspects; s++) {
                if (seats[s] == place && comes(s)) {
                    return true;
                }
            }
            return false;
        }

        int guiltyRows() {
            int rows = 0;
            for (int s = 0; s < suspects; s++) {
                if (isGuilty(s) && comes(s)) {
                    rows |= 1 << seats[s] / 10;
                }
            }
            return rows;
        }

        /** X as it is, behind which it is anew. */
        int draw() {
            int drawn = x;
            x = (x * 347 + 229) % 30403;
            return drawn;
        }

        void take(int paid) {
            takings = within(takings + paid, 0, MOST_TAKINGS);
        }

        void writeSign(int suspect, int scene) {
            int entry = (night * 8 + scene) * 8 + suspect;
            signBook[Math.floorMod(eldest + written, BOOK)] = entry;
            if (written < BOOK) {
                written++;
            } else {
                eldest = (eldest + 1) % BOOK;
            }
        }

        private int signAt(int i) {
            return signBook[Math.floorMod(eldest + i, BOOK)];
        }

        int nightOfSign(int i) {
            return signAt(i) / 64;
        }

        int sceneOfSign(int i) {
            return signAt(i) / 8 % 8;
        }

        int suspectOfSign(int i) {
            return signAt(i) % 8;
        }

        /** NONE for a suspect or a scene counts all. */
        int countSigns(int suspect, int scene) {
            int many = 0;
            for (int i = 0; i < written && i < BOOK; i++) {
                boolean ofSuspect = suspect == NONE || suspectOfSign(i) == suspect;
                if (ofSuspect && (scene == NONE || sceneOfSign(i) == scene)) {
                    many++;
                }
            }
            return many;
        }

        int countFalse() {
            int many = 0;
            for (int i = 0; i < written && i < BOOK; i++) {
                if (!isGuilty(suspectOfSign(i))) {
                    many++;
                }
            }
            return many;
        }

        int mostWritten() {
            int best = NONE;
            int most = 0;
            for (int s = 0; s < suspects; s++) {
                int many = countSigns(s, NONE);
                if (many > most) {
                    best = s;
                    most = many;
                }
            }
            return best;
        }

        void saveTo(int[] row) {
            if (row.length < ROW) {
                return;
            }
            row[0] = suspects;
            row[1] = cutOnes;
            row[2] = encoredOnes;
            row[3] = awayOnes;
            row[4] = night;
            row[5] = takings;
            row[6] = x;
            row[7] = eldest;
            row[8] = written;
            for (int s = 0; s < SUSPECTS; s++) {
                row[SEATS_AT + s] = seats[s];
                row[HABITS_AT + s] = habits[s];
            }
            for (int i = 0; i < BOOK; i++) {
                row[BOOK_AT + i] = signBook[i];
            }
        }

        /** SUSPECTS and SCENES told since the row was saved stay, as they were told. */
        void restoreFrom(int[] row) {
            if (row.length < ROW) {
                return;
            }
            cutOnes = row[1];
            encoredOnes = row[2];
            awayOnes = row[3];
            night = row[4];
            takings = row[5];
            x = row[6];
            eldest = row[7];
            written = row[8];
            for (int s = 0; s < SUSPECTS; s++) {
                boolean toldSince = s >= row[0];
                seats[s] = toldSince ? toldSeats[s] : row[SEATS_AT + s];
                habits[s] = toldSince ? 0 : row[HABITS_AT + s];
            }
            for (int i = 0; i < BOOK; i++) {
                signBook[i] = row[BOOK_AT + i];
            }
        }

        void copyFrom(Stage other) {
            suspects = other.suspects;
            guiltyOnes = other.guiltyOnes;
            awayOnes = other.awayOnes;
            copyRow(other.nerves, nerves);
            copyRow(other.seats, seats);
            copyRow(other.toldSeats, toldSeats);
            copyRow(other.habits, habits);
            scenes = other.scenes;
            cutOnes = other.cutOnes;
            encoredOnes = other.encoredOnes;
            copyRow(other.heats, heats);
            copyRow(other.lengths, lengths);
            night = other.night;
            takings = other.takings;
            x = other.x;
            copyRow(other.signBook, signBook);
            eldest = other.eldest;
            written = other.written;
        }
    }

    /** What was told: WEIGHTS, RISKS, and four lists of 8 at most. */
    private static final class Notes {
        static final int OBSERVED = 0;
        static final int AHEAD = 1;
        static final int TORN = 2;
        static final int SIGNS = 3;
        static final int LISTS = 4;
        static final int LISTED = 8;

        final int[] weights = new int[SUSPECTS];
        final int[] risks = new int[9];
        final int[] sizes = new int[LISTS];
        final int[][] lists = new int[LISTS][LISTED];

        Notes() {
            for (int s = 0; s < SUSPECTS; s++) {
                weights[s] = 1;
            }
        }

        int forget(int list) {
            sizes[list] = 0;
            return 0;
        }

        /** Answers how many there are then, or -2, if there is no room. */
        int write(int list, int one, int other, int what) {
            int size = sizes[list];
            if (size < 0 || size >= LISTED) {
                return OTHER;
            }
            lists[list][size] = (one * 16 + other) * 16 + what;
            sizes[list] = size + 1;
            return size + 1;
        }

        int oneOf(int list, int k) {
            return lists[list][k] / 256;
        }

        int otherOf(int list, int k) {
            return lists[list][k] / 16 % 16;
        }

        int whatOf(int list, int k) {
            return lists[list][k] % 16;
        }

        void copyFrom(Notes other) {
            copyRow(other.weights, weights);
            copyRow(other.risks, risks);
            copyRow(other.sizes, sizes);
            for (int list = 0; list < LISTS; list++) {
                copyRow(other.lists[list], lists[list]);
            }
        }
    }

    /** All that an IMAGE keeps; the latest STEPS by what the stage was ahead of each. */
    private static final class House {
        static final int STEPS = 30;

        final Stage stage = new Stage();
        final Notes notes = new Notes();
        final int[][] rows = new int[STEPS][Stage.ROW];
        int eldest;
        int steps;
        final Text[] shelf = new Text[TEXTS];
        int texts;
        int ruling;

        House() {
            ruling = NONE;
        }

        void noteStep() {
            if (steps < STEPS) {
                steps++;
            } else {
                eldest = (eldest + 1) % STEPS;
            }
            stage.saveTo(rows[latestStep()]);
        }

        boolean takeBack() {
            if (steps <= 0) {
                return false;
            }
            stage.restoreFrom(rows[latestStep()]);
            steps--;
            return true;
        }

        private int latestStep() {
            return Math.floorMod(eldest + steps - 1, STEPS);
        }

        boolean hasText(int text) {
            return text >= 0 && text < texts && text < TEXTS;
        }

        Text textOf(int text) {
            return hasText(text) ? shelf[text] : null;
        }

        int keepText(Text made) {
            if (made == null || texts < 0 || texts >= TEXTS) {
                return NONE;
            }
            shelf[texts] = made;
            texts++;
            return texts - 1;
        }

        void copyFrom(House other) {
            stage.copyFrom(other.stage);
            notes.copyFrom(other.notes);
            for (int i = 0; i < STEPS; i++) {
                copyRow(other.rows[i], rows[i]);
            }
            eldest = other.eldest;
            steps = other.steps;
            for (int i = 0; i < TEXTS; i++) {
                shelf[i] = other.shelf[i];
            }
            texts = other.texts;
            ruling = other.ruling;
        }
    }

    /** What THE TEXT, or what is so without it, says of odds and pays. */
    private static final class Laws {
        /** A number of the code is a deed times this and the deed's value. */
        static final int VALUES = 10000;

        static final int PUSH = 0;
        static final int NAME = 1;
        static final int ADD = 2;
        static final int LESS = 3;
        static final int TIMES = 4;
        static final int BY = 5;
        static final int MINUS = 6;
        static final int TOTAL = 7;
        static final int AGAIN = 8;

        /** A NAME is kept as its word's number less that of NIGHT, the first one. */
        static final int NAMES = 9;
        static final int I = Tape.I - Tape.NIGHT;
        static final int MOST = 1000000;
        /** Far above 300 deeds, 9 times each. */
        static final int DEEDS = 10000;
        /** A sum, a product and a number for each of 9 levels, and more. */
        static final int DEPTH = 40;

        private final House house;
        private final int[] names = new int[NAMES];
        private final int[] stack = new int[DEPTH];

        Laws(House house) {
            this.house = house;
        }

        int oddsNow(int suspect, int scene, boolean guilt) {
            return oddsBy(house.textOf(house.ruling), suspect, scene, guilt);
        }

        int oddsBy(Text text, int suspect, int scene, boolean guilt) {
            Stage stage = house.stage;
            if (!stage.hasBoth(suspect, scene)) {
                return 0;
            }
            int law = guilt ? GUILT : GRIEF;
            if (text != null && text.hasLaw(law)) {
                nameSuspect(suspect);
                names[Tape.HEAT - Tape.NIGHT] = stage.heats[scene];
                names[Tape.LENGTH - Tape.NIGHT] = stage.lengths[scene];
                names[Tape.NUMBER_WORD - Tape.NIGHT] = scene;
                return within(run(text, law), 0, 10);
            }
            return guilt ? within(stage.heats[scene] - stage.habits[suspect] / 2, 0, 10) : 1;
        }

        int paysNow(int suspect) {
            Stage stage = house.stage;
            if (!stage.hasSuspect(suspect)) {
                return 0;
            }
            Text text = house.textOf(house.ruling);
            if (text != null && text.hasLaw(PAYS)) {
                nameSuspect(suspect);
                return within(run(text, PAYS), 0, 999);
            }
            return 10 - stage.seats[suspect] / 10;
        }

        int paidByAll() {
            Stage stage = house.stage;
            int together = 0;
            for (int s = 0; s < stage.suspects; s++) {
                if (stage.comes(s)) {
                    together += paysNow(s);
                }
            }
            return together;
        }

        private void nameSuspect(int suspect) {
            Stage stage = house.stage;
            names[0] = stage.night;
            names[Tape.NERVES - Tape.NIGHT] = stage.nerves[suspect];
            names[Tape.HABIT - Tape.NIGHT] = stage.habits[suspect];
            names[Tape.ROW - Tape.NIGHT] = stage.seats[suspect] / 10;
            names[Tape.PLACE - Tape.NIGHT] = stage.seats[suspect] % 10;
        }

        private int run(Text text, int law) {
            int[] code = text.code;
            int at = text.lawFrom[law];
            int till = Math.min(text.lawTill[law], code.length);
            int again = at;
            int times = 0;
            int together = 0;
            int top = 0;
            for (int k = 0; k < DEEDS && at >= 0 && at < till && top < DEPTH; k++) {
                int deed = code[at] / VALUES;
                int value = code[at] % VALUES;
                at++;
                if (deed == PUSH) {
                    stack[top] = value;
                    top++;
                } else if (deed == NAME) {
                    stack[top] = value < NAMES ? names[value] : 0;
                    top++;
                } else if (deed == TOTAL) {
                    again = at;
                    times = value;
                    together = 0;
                    names[I] = 0;
                } else if (deed == AGAIN && top >= 1) {
                    together = counted(ADD, together, stack[top - 1]);
                    stack[top - 1] = together;
                    names[I]++;
                    if (names[I] < times) {
                        top--;
                        at = again;
                    }
                } else if (deed == MINUS && top >= 1) {
                    stack[top - 1] = -stack[top - 1];
                } else if (top >= 2) {
                    top--;
                    stack[top - 1] = counted(deed, stack[top - 1], stack[top]);
                }
            }
            return top > 0 ? stack[0] : 0;
        }

        private static int counted(int deed, long left, long right) {
            long value;
            if (deed == ADD) {
                value = left + right;
            } else if (deed == LESS) {
                value = left - right;
            } else if (deed == TIMES) {
                value = left * right;
            } else {
                value = right == 0 ? 0 : left / right;
            }
            if (value > MOST) {
                return MOST;
            }
            return value < -MOST ? -MOST : (int) value;
        }
    }

    /** NIGHTS and all else that is done to the stage, and what is foretold of it. */
    private static final class Play {
        private final House house;
        private final Stage stage;
        private final Laws laws;
        private final int[] chances = new int[SUSPECTS];
        private final int[] rowAhead = new int[Stage.ROW];
        /** Who showed a sign in the latest NIGHT (bits). */
        private int shownBy;

        Play(House house, Laws laws) {
            this.house = house;
            this.stage = house.stage;
            this.laws = laws;
        }

        boolean cutByHand(int scene) {
            if (!stage.hasScene(scene)) {
                return false;
            }
            house.noteStep();
            stage.cutOnes ^= 1 << scene;
            return true;
        }

        boolean encoreByHand(int scene) {
            if (!stage.canEncore(scene)) {
                return false;
            }
            house.noteStep();
            stage.encoredOnes |= 1 << scene;
            return true;
        }

        boolean sendByHand(int suspect) {
            if (!stage.hasSuspect(suspect)) {
                return false;
            }
            house.noteStep();
            stage.awayOnes ^= 1 << suspect;
            return true;
        }

        boolean seatByHand(int suspect, int place) {
            if (!stage.hasSuspect(suspect) || !stage.isFree(place)) {
                return false;
            }
            house.noteStep();
            stage.seats[suspect] = place;
            return true;
        }

        /** Answers how many signs there were, or NONE, if just some of the NIGHTS could pass. */
        int nightsByHand(int n) {
            int shown = 0;
            for (int k = 0; k < n; k++) {
                if (stage.night >= LAST_NIGHT) {
                    return NONE;
                }
                house.noteStep();
                shown += giveNight();
            }
            return shown;
        }

        private int giveNight() {
            shownBy = 0;
            int shown = 0;
            for (int c = 0; c < stage.scenes; c++) {
                shown += giveScene(c, stage.timesGiven(c));
            }
            stage.take(laws.paidByAll());
            for (int s = 0; s < stage.suspects; s++) {
                if (stage.comes(s)) {
                    stage.habits[s] = within(stage.habits[s] + 1, 0, 9);
                }
            }
            stage.encoredOnes = 0;
            stage.night++;
            return shown;
        }

        private int giveScene(int scene, int times) {
            Text text = house.textOf(house.ruling);
            for (int s = 0; s < stage.suspects && times > 0; s++) {
                if (stage.comes(s)) {
                    chances[s] = laws.oddsBy(text, s, scene, stage.isGuilty(s));
                }
            }
            int shown = 0;
            for (int k = 0; k < times; k++) {
                for (int s = 0; s < stage.suspects; s++) {
                    if (stage.comes(s) && stage.draw() % 10 < chances[s]) {
                        stage.writeSign(s, scene);
                        shownBy |= 1 << s;
                        shown++;
                    }
                }
            }
            return shown;
        }

        /** False for a CLAUSE that can't be. */
        boolean playClause(Text script, int k) {
            if (k < 0 || k >= script.clauses) {
                return false;
            }
            int first = script.firsts[k];
            int second = script.seconds[k];
            switch (script.kinds[k]) {
                case Tape.SUSPECT: return stage.tellSuspect(false, first, second) != NONE;
                case Tape.MURDERER: return stage.tellSuspect(true, first, second) != NONE;
                case Tape.SCENE: return stage.tellScene(first, second) != NONE;
                case Tape.CUT: return cutByHand(first);
                case Tape.ENCORE: return encoreByHand(first);
                case Tape.AWAY: return sendByHand(first);
                case Tape.SEAT: return seatByHand(first, second);
                case Tape.NIGHT: return nightsByHand(first) != NONE;
                default: return true;
            }
        }

        void drawSeasons(int seed, int n) {
            house.noteStep();
            stage.x = seed * 2 + FIRST_X;
            for (int k = 0; k < n; k++) {
                int drawn = stage.draw();
                int deed = drawn % 6;
                if (deed > 3) {
                    if (stage.night < LAST_NIGHT) {
                        giveNight();
                    }
                } else if (deed < 2) {
                    drawScene(deed, drawn);
                } else {
                    drawSuspect(deed, drawn);
                }
            }
        }

        private void drawScene(int deed, int drawn) {
            if (stage.scenes <= 0) {
                return;
            }
            int scene = drawn % stage.scenes;
            if (deed == 0) {
                stage.cutOnes ^= 1 << scene;
            } else if (stage.canEncore(scene)) {
                stage.encoredOnes |= 1 << scene;
            }
        }

        private void drawSuspect(int deed, int drawn) {
            if (stage.suspects <= 0) {
                return;
            }
            int suspect = drawn % stage.suspects;
            if (deed == 2) {
                stage.awayOnes ^= 1 << suspect;
            } else if (stage.hasSuspect(suspect) && stage.isFree(drawn % SEATS)) {
                stage.seats[suspect] = drawn % SEATS;
            }
        }

        int signsBehind(int n) {
            stage.saveTo(rowAhead);
            int shown = rehearse(n);
            stage.restoreFrom(rowAhead);
            return shown;
        }

        int takingsBehind(int n) {
            stage.saveTo(rowAhead);
            rehearse(n);
            int taken = stage.takings;
            stage.restoreFrom(rowAhead);
            return taken;
        }

        int habitBehind(int n, int suspect) {
            stage.saveTo(rowAhead);
            rehearse(n);
            int habit = stage.habits[suspect];
            stage.restoreFrom(rowAhead);
            return habit;
        }

        private int rehearse(int n) {
            int shown = 0;
            for (int k = 0; k < n && stage.night < LAST_NIGHT; k++) {
                shown += giveNight();
            }
            return shown;
        }

        int nightsToSign(int suspect) {
            stage.saveTo(rowAhead);
            int nights = NONE;
            for (int k = 1; k <= NIGHTS_AT_ONCE && nights == NONE; k++) {
                if (rehearse(1) > 0 && hasBit(shownBy, suspect)) {
                    nights = k;
                }
            }
            stage.restoreFrom(rowAhead);
            return nights;
        }
    }

    /** Whose guilt it is, by odds as they are now. */
    private static final class Belief {
        private final House house;
        private final Stage stage;
        private final Notes notes;
        private final Laws laws;

        Belief(House house, Laws laws) {
            this.house = house;
            this.stage = house.stage;
            this.notes = house.notes;
            this.laws = laws;
        }

        /** WEIGHTS times the odds (of 10) of all OBSERVED, if just those (bits) are guilty. */
        private long weightIf(int guiltyOnes) {
            long product = 1;
            for (int s = 0; s < stage.suspects; s++) {
                if (hasBit(guiltyOnes, s)) {
                    product *= notes.weights[s];
                }
            }
            for (int k = 0; k < notes.sizes[Notes.OBSERVED]; k++) {
                int one = notes.oneOf(Notes.OBSERVED, k);
                int scene = notes.otherOf(Notes.OBSERVED, k);
                int odds = laws.oddsNow(one, scene, hasBit(guiltyOnes, one));
                product *= notes.whatOf(Notes.OBSERVED, k) == 1 ? odds : 10 - odds;
            }
            return product;
        }

        long shareOf(int suspect, boolean low) {
            long together = 0;
            for (int s = 0; s < stage.suspects; s++) {
                together += weightIf(1 << s);
            }
            return lowestTerms(weightIf(1 << suspect), together, low);
        }

        long shareOfTwo(int one, int other, boolean low) {
            long together = 0;
            for (int a = 0; a < stage.suspects; a++) {
                for (int b = a + 1; b < stage.suspects; b++) {
                    together += weightIf(1 << a | 1 << b);
                }
            }
            return lowestTerms(weightIf(1 << one | 1 << other), together, low);
        }

        int likeliest() {
            int best = NONE;
            long most = 0;
            for (int s = 0; s < stage.suspects; s++) {
                long weight = weightIf(1 << s);
                if (weight > most) {
                    best = s;
                    most = weight;
                }
            }
            return best;
        }

        int mostTelling() {
            int best = NONE;
            int most = NONE;
            for (int c = 0; c < stage.scenes; c++) {
                int told = 0;
                for (int s = 0; s < stage.suspects; s++) {
                    int apart = laws.oddsNow(s, c, true) - laws.oddsNow(s, c, false);
                    told += notes.weights[s] * Math.abs(apart);
                }
                if (told > most) {
                    best = c;
                    most = told;
                }
            }
            return best;
        }

        long oddsUnseen(int suspect, boolean low) {
            long upper = 1;
            long lower = 1;
            for (int c = 0; c < stage.scenes; c++) {
                int times = stage.timesGiven(c);
                int hidden = 10 - laws.oddsNow(suspect, c, true);
                upper *= power(hidden, times);
                lower *= power(10, times);
            }
            return lowestTerms(upper, lower, low);
        }

        int textsThatFit() {
            int fit = 0;
            for (int t = 0; t < house.texts; t++) {
                if (fits(house.textOf(t))) {
                    fit |= 1 << t;
                }
            }
            return fit;
        }

        private boolean fits(Text text) {
            for (int k = 0; k < notes.sizes[Notes.SIGNS]; k++) {
                int suspect = notes.oneOf(Notes.SIGNS, k);
                int scene = notes.otherOf(Notes.SIGNS, k);
                if (laws.oddsBy(text, suspect, scene, true) != notes.whatOf(Notes.SIGNS, k)) {
                    return false;
                }
            }
            return true;
        }
    }

    /** What is best, of all that could be. */
    private static final class Plans {
        private final Stage stage;
        private final Notes notes;
        private final Laws laws;
        private final int[] chances = new int[SCENES];
        private final int[] row = new int[SCENES];
        private final int[] bestRow = new int[SCENES];
        private final int[] mustBeBehind = new int[SCENES];
        private final int[] ways = new int[1 << SCENES];

        Plans(House house, Laws laws) {
            this.stage = house.stage;
            this.notes = house.notes;
            this.laws = laws;
        }

        /** The sum (i NONE), or the i-th SCENE. */
        int bestOrder(int suspect, int scenes, int i) {
            int given = membersOf(scenes, row);
            for (int c = 0; c < stage.scenes; c++) {
                chances[c] = laws.oddsNow(suspect, c, true);
            }
            int most = NONE;
            boolean more = true;
            for (int turn = 0; turn < 120 && more; turn++) {
                int together = shownInOrder(given);
                if (together > most) {
                    most = together;
                    copyRow(row, bestRow);
                }
                more = nextOrder(row, given);
            }
            if (i == NONE) {
                return most;
            }
            return i >= 0 && i < bestRow.length ? bestRow[i] : OTHER;
        }

        private int shownInOrder(int given) {
            int together = 0;
            for (int k = 0; k < given && k < row.length; k++) {
                int scene = row[k];
                int shown = chances[scene];
                boolean cooler = k > 0 && stage.heats[scene] <= stage.heats[row[k - 1]];
                together += cooler && shown > 0 ? shown - 1 : shown;
            }
            return together;
        }

        /** Costs are counted in parts of 10 to the n-th, so that they are whole. */
        long cheapestNights(int n, int c, int p, int what) {
            long whole = power(10, n);
            int best = 0;
            long least = costOf(0, n, c, p);
            for (int set = 1; set < 1 << n; set++) {
                long cost = costOf(set, n, c, p);
                if (cost < least) {
                    best = set;
                    least = cost;
                }
            }
            return what == 0 ? best : lowestTerms(least, whole, what == 2);
        }

        private long costOf(int awayNights, int n, int c, int p) {
            long whole = 1;
            long hidden = 1;
            long away = 0;
            for (int k = 0; k < n && k < notes.risks.length; k++) {
                whole *= 10;
                if (hasBit(awayNights, k)) {
                    hidden *= 10;
                    away++;
                } else {
                    hidden *= 10 - notes.risks[k];
                }
            }
            return away * c * whole + p * (whole - hidden);
        }

        /** No NIGHT's mean is below 0, so the fewest is the last by which the mean still grows. */
        long bestRun(int t, int d, int q, int w, int what) {
            long whole = power(10, 10);
            long mean = 0;
            int nights = 0;
            for (int k = 0; k < 9; k++) {
                long takings = Math.max(t - d * k, 0);
                long reached = power(10 - q, k) * power(10, 9 - k);
                long more = reached * (10 * takings + (long) q * w);
                if (more > 0) {
                    mean += more;
                    nights = k + 1;
                }
            }
            return what == 0 ? nights : lowestTerms(mean, whole, what == 2);
        }

        int hottestSet(int m) {
            int best = 0;
            int most = 0;
            int shortest = 0;
            for (int set = 1; set < 1 << stage.scenes && set < 1 << SCENES; set++) {
                int heat = 0;
                int length = 0;
                for (int c = 0; c < stage.scenes; c++) {
                    heat += hasBit(set, c) ? stage.heats[c] : 0;
                    length += hasBit(set, c) ? stage.lengths[c] : 0;
                }
                if (length <= m && (heat > most || heat == most && length < shortest)) {
                    best = set;
                    most = heat;
                    shortest = length;
                }
            }
            return best;
        }

        /** Counts by sets: each set's orders are those of it less the one that comes last. */
        int howManyOrders() {
            int sets = 1 << within(stage.scenes, 0, SCENES);
            for (int c = 0; c < SCENES; c++) {
                mustBeBehind[c] = 0;
            }
            for (int k = 0; k < notes.sizes[Notes.AHEAD]; k++) {
                int behind = notes.otherOf(Notes.AHEAD, k);
                if (behind < SCENES) {
                    mustBeBehind[behind] |= 1 << notes.oneOf(Notes.AHEAD, k);
                }
            }
            ways[0] = 1;
            for (int set = 1; set < sets && set < ways.length; set++) {
                ways[set] = 0;
                for (int c = 0; c < SCENES; c++) {
                    int others = set & ~(1 << c);
                    if (others != set && (mustBeBehind[c] & ~others) == 0) {
                        ways[set] += ways[others];
                    }
                }
            }
            return ways[sets - 1];
        }

        long oddsOfMost(int n, int h, boolean low) {
            long bought = 0;
            long choices = 1;
            for (int k = 0; k <= n; k++) {
                if (k * 2 > n) {
                    bought += choices * power(h, k) * power(10 - h, n - k);
                }
                choices = choices * (n - k) / (k + 1);
            }
            return lowestTerms(bought, power(10, n), low);
        }
    }

    /** Who FACES whom on which SEATS, and who sat where. */
    private static final class Witnesses {
        private final Stage stage;
        private final Notes notes;
        private final int[] members = new int[SUSPECTS];
        private final int[] places = new int[SUSPECTS];
        private final int[] row = new int[SUSPECTS];
        private final int[] trial = new int[SUSPECTS];
        private final int[] kept = new int[SUSPECTS];

        Witnesses(House house) {
            this.stage = house.stage;
            this.notes = house.notes;
        }

        private static boolean faces(int one, int other) {
            int rows = Math.abs(one / 10 - other / 10);
            int apart = Math.abs(one % 10 - other % 10);
            return one != other && rows <= 1 && apart <= 2;
        }

        int pairsAsNow() {
            return pairsOn(stage.seats);
        }

        private int pairsOn(int[] seats) {
            int many = 0;
            for (int a = 0; a < stage.suspects && a < seats.length; a++) {
                for (int b = a + 1; b < stage.suspects && b < seats.length; b++) {
                    if (faces(seats[a], seats[b])) {
                        many++;
                    }
                }
            }
            return many;
        }

        /** How many others a SUSPECT would face from a SEAT. */
        private int facedFrom(int suspect, int place) {
            int many = 0;
            for (int s = 0; s < stage.suspects; s++) {
                if (s != suspect && faces(place, stage.seats[s])) {
                    many++;
                }
            }
            return many;
        }

        int lonelyOnes() {
            int ones = 0;
            for (int s = 0; s < stage.suspects; s++) {
                if (facedFrom(s, stage.seats[s]) == 0) {
                    ones |= 1 << s;
                }
            }
            return ones;
        }

        int seatFacingMost(int suspect, boolean faced) {
            int best = NONE;
            int most = NONE;
            for (int place = 0; place < SEATS; place++) {
                if (place == stage.seats[suspect] || stage.isFree(place)) {
                    int many = facedFrom(suspect, place);
                    if (many > most) {
                        best = place;
                        most = many;
                    }
                }
            }
            return faced ? most : best;
        }

        int seatInBestSeating(int suspects, int suspect) {
            pairsOfBestSeating(suspects);
            return suspect >= 0 && suspect < SUSPECTS ? kept[suspect] : OTHER;
        }

        /** Leaves the seating in kept. */
        int pairsOfBestSeating(int suspects) {
            int moved = membersOf(suspects, members);
            sortPlaces(moved);
            copyRow(stage.seats, trial);
            int most = NONE;
            boolean more = true;
            for (int turn = 0; turn < 120 && more; turn++) {
                for (int k = 0; k < moved; k++) {
                    trial[members[k]] = places[row[k]];
                }
                int pairs = pairsOn(trial);
                if (pairs > most) {
                    most = pairs;
                    copyRow(trial, kept);
                }
                more = nextOrder(row, moved);
            }
            return most;
        }

        /** The lowest SEATS first, so that of like seatings the one asked for comes first. */
        private void sortPlaces(int moved) {
            for (int k = 0; k < moved; k++) {
                row[k] = k;
                int place = stage.seats[members[k]];
                int at = k;
                while (at > 0 && places[at - 1] > place) {
                    places[at] = places[at - 1];
                    at--;
                }
                places[at] = place;
            }
        }

        /** How many, or who is on the same SEAT in all (bits). */
        int sittingsByTorn(boolean sure) {
            int sitting = within(stage.suspects, 0, SUSPECTS);
            for (int s = 0; s < sitting; s++) {
                row[s] = s;
            }
            int many = 0;
            int same = 0;
            boolean more = true;
            for (int turn = 0; turn < 120 && more; turn++) {
                for (int s = 0; s < sitting; s++) {
                    trial[s] = stage.seats[row[s]];
                }
                if (fitsTorn()) {
                    same = many == 0 ? (1 << sitting) - 1 : same & sameAsKept(sitting);
                    copyRow(trial, kept);
                    many++;
                }
                more = nextOrder(row, sitting);
            }
            return sure ? same : many;
        }

        private boolean fitsTorn() {
            for (int k = 0; k < notes.sizes[Notes.TORN]; k++) {
                int suspect = notes.oneOf(Notes.TORN, k);
                if (suspect < SUSPECTS) {
                    boolean sat = trial[suspect] / 10 == notes.otherOf(Notes.TORN, k);
                    if (sat != (notes.whatOf(Notes.TORN, k) == 1)) {
                        return false;
                    }
                }
            }
            return true;
        }

        private int sameAsKept(int sitting) {
            int same = 0;
            for (int s = 0; s < sitting; s++) {
                if (trial[s] == kept[s]) {
                    same |= 1 << s;
                }
            }
            return same;
        }
    }
}
