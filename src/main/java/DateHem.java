/**
 * A globe of cloth with a hemmed date line. The rules are told in DOC.md; this class is its public
 * face. What can be undone or saved is held by Globe, so that keeping a state is copying a Globe.
 */
public final class DateHem {
    public static final int NONE = -1;

    private static final int BANDS = 9;
    private static final int MERIDIANS = 360;
    private static final int EAST = 0;
    private static final int WEST = 1;
    private static final int MAX_STITCHES = 99;
    private static final int MAX_DEGREES = 359;
    private static final int MAX_HOURS = 240;
    private static final int MAX_FORESIGHT = 300;
    private static final int GROUP = 10;
    private static final int GROUPS = 36;

    /** Why a change is refused: scripts stop at a refusal, the public face throws for it. */
    private static final int ALLOWED = 0;
    private static final int BAD_INDEX = 1;
    private static final int BAD_ARGUMENT = 2;
    private static final int BAD_STATE = 3;

    private final Input input;
    private final Script script;
    private final Globe globe;
    /** Descriptions and predictions work here, so that the globe stays as it is if they fail. */
    private final Globe scratch;
    private final Globe saved;
    private boolean isSaved;
    private final History history;
    private final byte[] output;
    private int outputLength;

    public DateHem() {
        input = new Input();
        script = new Script();
        globe = new Globe();
        scratch = new Globe();
        saved = new Globe();
        isSaved = false;
        history = new History();
        output = new byte[GROUPS + 1];
        outputLength = 0;
        globe.clear();
        globe.cloth.addGore(MERIDIANS / 2);
        globe.cloth.addGore(MERIDIANS / 2);
    }

    // ---- input

    public int feed(int a, int b, int c, int d, int e) throws IllegalStateException {
        if (!input.hasRoom(20)) {
            throw new IllegalStateException("the input buffer would be too long");
        }
        input.append(a);
        input.append(b);
        input.append(c);
        input.append(d);
        input.append(e);
        return input.length;
    }

    public int truncate(int length) throws IllegalArgumentException {
        if (length < 0 || length > input.length) {
            throw new IllegalArgumentException("no such length");
        }
        input.length = length;
        return length;
    }

    public int readText() throws IllegalArgumentException {
        boolean good = Description.read(input, scratch);
        input.length = 0;
        if (!good) {
            throw new IllegalArgumentException("the description has an error");
        }
        globe.copyFrom(scratch);
        history.forget();
        return globe.spotCount;
    }

    public int runScript() throws IllegalArgumentException {
        boolean good = script.read(input);
        input.length = 0;
        if (!good) {
            throw new IllegalArgumentException("the script has an error");
        }
        history.remember(globe);
        return script.run(globe);
    }

    public int errorCode() {
        return input.errorCode;
    }

    public int errorOffset() {
        return input.errorOffset;
    }

    // ---- gores and seams

    public int goreCount() {
        return globe.cloth.gores;
    }

    public int widthOf(int gore) throws IndexOutOfBoundsException {
        needGore(gore);
        return globe.cloth.widths[gore];
    }

    public int beginOf(int gore) throws IndexOutOfBoundsException {
        needGore(gore);
        return globe.cloth.begins[gore];
    }

    public int goreAt(int meridian) throws IllegalArgumentException {
        if (!isMeridian(meridian)) {
            throw new IllegalArgumentException("no such meridian");
        }
        return globe.cloth.goreCovering(meridian);
    }

    public int stitchesOf(int seam) throws IndexOutOfBoundsException {
        needGore(seam);
        return globe.cloth.stitches[seam];
    }

    public int strainOf(int seam) throws IndexOutOfBoundsException {
        needGore(seam);
        return globe.cloth.strain(seam);
    }

    public int tornSeams() {
        return globe.cloth.countTorn();
    }

    public int thread() {
        return globe.thread;
    }

    // ---- the hem and local time

    public int hemAt(int band) throws IllegalArgumentException {
        needBand(band);
        return globe.hems[band];
    }

    public int longitude(int band, int meridian) throws IllegalArgumentException {
        needPlace(band, meridian);
        return globe.longitudeIn(band, meridian);
    }

    public int dayAt(int band, int meridian) throws IllegalArgumentException {
        needPlace(band, meridian);
        return globe.localDay(band, meridian);
    }

    public int hourAt(int band, int meridian) throws IllegalArgumentException {
        needPlace(band, meridian);
        return globe.localHour(band, meridian);
    }

    public int clock() {
        return globe.clock;
    }

    // ---- towns and travellers

    public int spotCount() {
        return globe.spotCount;
    }

    public int nameByte(int spot, int index) throws IndexOutOfBoundsException {
        needSpot(spot);
        return Words.letterAt(globe.spots[spot].name, index);
    }

    public int findSpot() {
        return globe.spotNamed(input.wholeWord());
    }

    public boolean isTraveller(int spot) throws IndexOutOfBoundsException {
        needSpot(spot);
        return globe.spots[spot].travels;
    }

    public int bandOf(int spot) throws IndexOutOfBoundsException {
        needSpot(spot);
        return globe.spots[spot].band;
    }

    public int meridianOf(int spot) throws IndexOutOfBoundsException {
        needSpot(spot);
        return globe.spots[spot].meridian;
    }

    public int dayOf(int spot) throws IndexOutOfBoundsException {
        needSpot(spot);
        Spot asked = globe.spots[spot];
        return asked.travels ? asked.diary : globe.localDay(asked.band, asked.meridian);
    }

    public int degreesLeft(int spot) throws IndexOutOfBoundsException {
        needSpot(spot);
        return globe.spots[spot].degrees;
    }

    public int crossingsOf(int spot) throws IndexOutOfBoundsException {
        needSpot(spot);
        return globe.spots[spot].crossings;
    }

    public int nextMidnight() {
        return globe.spotNextAtMidnight();
    }

    // ---- labels

    public int labelCount() {
        return globe.labelCount;
    }

    public int labelBand(int label) throws IndexOutOfBoundsException {
        needLabel(label);
        return globe.labels[label].band;
    }

    public int labelFirst(int label) throws IndexOutOfBoundsException {
        needLabel(label);
        return globe.labels[label].first;
    }

    public int labelLast(int label) throws IndexOutOfBoundsException {
        needLabel(label);
        return globe.labels[label].last;
    }

    public boolean isLabelTorn(int label) throws IndexOutOfBoundsException {
        needLabel(label);
        return globe.labels[label].torn;
    }

    public int labelAt(int band, int meridian) throws IllegalArgumentException {
        needPlace(band, meridian);
        return globe.labelMeeting(band, meridian, meridian);
    }

    // ---- explanations and predictions

    public int hemObstacle(int band, int meridian) throws IllegalArgumentException {
        needPlace(band, meridian);
        return globe.hemHindrance(band, meridian);
    }

    public int labelObstacle(int band, int meridian) throws IllegalArgumentException {
        needPlace(band, meridian);
        return globe.labelHindrance(Words.letterCount(input.wholeWord()), band, meridian);
    }

    public int stepObstacle(int spot, int direction)
            throws IndexOutOfBoundsException, IllegalArgumentException {
        needSpot(spot);
        if (!isDirection(direction)) {
            throw new IllegalArgumentException("no such direction");
        }
        return globe.stepHindrance(globe.spots[spot], direction);
    }

    public int hoursUntilTear(int seam) throws IndexOutOfBoundsException {
        needGore(seam);
        if (globe.cloth.isTorn(seam)) {
            return 0;
        }
        Cloth cloth = scratch.cloth;
        cloth.copyFrom(globe.cloth);
        for (int hours = 1; hours <= MAX_FORESIGHT; hours++) {
            if (Globe.isWearing(globe.clock + hours)) {
                cloth.wearAll();
                if (cloth.isTorn(seam)) {
                    return hours;
                }
            }
        }
        return NONE;
    }

    public int meridianAfter(int spot, int hours)
            throws IndexOutOfBoundsException, IllegalArgumentException {
        needSpot(spot);
        if (hours < 0 || hours > MAX_FORESIGHT) {
            throw new IllegalArgumentException("no such number of hours");
        }
        scratch.copyFrom(globe);
        scratch.letPass(hours);
        return scratch.spots[spot].meridian;
    }

    // ---- checks and measures

    public int violations() {
        return globe.countWrongDiaries() + globe.countWrongDays()
                + globe.countWrongLabels() + globe.countWideHems();
    }

    public double meanStitches() {
        Cloth cloth = globe.cloth;
        int sum = 0;
        for (int seam = 0; seam < cloth.gores; seam++) {
            sum += cloth.stitches[seam];
        }
        return (double) sum / (double) cloth.gores;
    }

    public float labelShare(int band) throws IllegalArgumentException {
        needBand(band);
        int covered = 0;
        for (int i = 0; i < globe.labelCount; i++) {
            covered += globe.labels[i].coveredIn(band);
        }
        return (float) covered / (float) MERIDIANS;
    }

    // ---- changes, all undoable

    public int addTown(int band, int meridian)
            throws IllegalArgumentException, IllegalStateException {
        return nameSpot(band, meridian, false);
    }

    public int addTraveller(int band, int meridian)
            throws IllegalArgumentException, IllegalStateException {
        return nameSpot(band, meridian, true);
    }

    public int addLabel(int band, int meridian)
            throws IllegalArgumentException, IllegalStateException {
        needPlace(band, meridian);
        int letters = Words.letterCount(input.wholeWord());
        if (!globe.hasRoomForLabel() || globe.labelHindrance(letters, band, meridian) != 0) {
            throw new IllegalStateException("the label cannot be added");
        }
        history.remember(globe);
        input.length = 0;
        return globe.sewLabelOn(letters, band, meridian);
    }

    public int moveHem(int band, int meridian)
            throws IllegalArgumentException, IllegalStateException {
        refuse(globe.hemRefusal(band, meridian));
        history.remember(globe);
        return globe.shiftHem(band, meridian);
    }

    public int sew(int seam, int stitches)
            throws IndexOutOfBoundsException, IllegalArgumentException, IllegalStateException {
        refuse(globe.sewRefusal(seam, stitches));
        history.remember(globe);
        return globe.addStitches(seam, stitches);
    }

    public int rip(int seam) throws IndexOutOfBoundsException, IllegalStateException {
        refuse(globe.ripRefusal(seam));
        history.remember(globe);
        return globe.openSeam(seam);
    }

    public int step(int spot, int direction)
            throws IndexOutOfBoundsException, IllegalArgumentException, IllegalStateException {
        refuse(globe.stepRefusal(spot, direction));
        history.remember(globe);
        globe.makeStep(globe.spots[spot], direction);
        return globe.spots[spot].meridian;
    }

    public int walk(int spot, int direction, int degrees)
            throws IndexOutOfBoundsException, IllegalArgumentException, IllegalStateException {
        refuse(globe.walkRefusal(spot, direction, degrees));
        history.remember(globe);
        return globe.spots[spot].setOut(direction, degrees);
    }

    public int pass(int hours) throws IllegalArgumentException {
        refuse(Globe.passRefusal(hours));
        history.remember(globe);
        return globe.letPass(hours);
    }

    // ---- undo, output, saved state

    public int undo() throws IllegalStateException {
        if (history.count == 0) {
            throw new IllegalStateException("nothing to undo");
        }
        history.recall(globe);
        return history.count;
    }

    public int printBand(int band) throws IllegalArgumentException {
        needBand(band);
        for (int group = 0; group < GROUPS; group++) {
            output[group] = (byte) globe.pictureOf(band, group * GROUP, group * GROUP + GROUP - 1);
        }
        output[GROUPS] = '\n';
        outputLength = GROUPS + 1;
        return outputLength;
    }

    public int outputByte(int index) throws IndexOutOfBoundsException {
        if (index < 0 || index >= outputLength) {
            throw new IndexOutOfBoundsException("no such byte of the output");
        }
        return output[index];
    }

    public int saveState() {
        saved.copyFrom(globe);
        isSaved = true;
        return globe.clock;
    }

    public int restoreState() throws IllegalStateException {
        if (!isSaved) {
            throw new IllegalStateException("no state is saved");
        }
        globe.copyFrom(saved);
        history.forget();
        return globe.clock;
    }

    // ---- what the public methods share

    private int nameSpot(int band, int meridian, boolean travels) {
        needPlace(band, meridian);
        long name = input.wholeWord();
        if (name == Words.NO_WORD || globe.spotNamed(name) != NONE || !globe.hasRoomForSpot()) {
            throw new IllegalStateException("the spot cannot be added");
        }
        history.remember(globe);
        input.length = 0;
        return globe.settle(name, band, meridian, travels);
    }

    private static void refuse(int refusal) {
        if (refusal == BAD_INDEX) {
            throw new IndexOutOfBoundsException("no such seam or spot");
        }
        if (refusal == BAD_ARGUMENT) {
            throw new IllegalArgumentException("an argument is out of range");
        }
        if (refusal == BAD_STATE) {
            throw new IllegalStateException("not possible now");
        }
    }

    /** Seams have the numbers of the gores. */
    private void needGore(int gore) {
        if (!globe.cloth.hasGore(gore)) {
            throw new IndexOutOfBoundsException("no such gore or seam");
        }
    }

    private void needSpot(int spot) {
        if (!globe.hasSpot(spot)) {
            throw new IndexOutOfBoundsException("no such spot");
        }
    }

    private void needLabel(int label) {
        if (label < 0 || label >= globe.labelCount) {
            throw new IndexOutOfBoundsException("no such label");
        }
    }

    private static void needBand(int band) {
        if (!isBand(band)) {
            throw new IllegalArgumentException("no such band");
        }
    }

    private static void needPlace(int band, int meridian) {
        if (!isBand(band) || !isMeridian(meridian)) {
            throw new IllegalArgumentException("no such band or meridian");
        }
    }

    private static boolean isBand(int band) {
        return band >= 0 && band < BANDS;
    }

    private static boolean isMeridian(int meridian) {
        return meridian >= 0 && meridian < MERIDIANS;
    }

    private static boolean isDirection(int direction) {
        return direction == EAST || direction == WEST;
    }

    /**
     * Words of 1 to 8 letters, packed into a long with the last letter lowest: so a word is copied
     * and compared as a number and makes no object.
     */
    private static final class Words {
        static final int MAX_LETTERS = 8;
        static final long NO_WORD = 0;

        static final long GLOBE = (long) 'g' << 32 | 'l' << 24 | 'o' << 16 | 'b' << 8 | 'e';
        static final long TOWN = 't' << 24 | 'o' << 16 | 'w' << 8 | 'n';
        static final long PERSON =
                (long) 'p' << 40 | (long) 'e' << 32 | 'r' << 24 | 's' << 16 | 'o' << 8 | 'n';
        static final long LABEL = (long) 'l' << 32 | 'a' << 24 | 'b' << 16 | 'e' << 8 | 'l';
        static final long HEM = 'h' << 16 | 'e' << 8 | 'm';
        static final long SEW = 's' << 16 | 'e' << 8 | 'w';
        static final long RIP = 'r' << 16 | 'i' << 8 | 'p';
        static final long WALK = 'w' << 24 | 'a' << 16 | 'l' << 8 | 'k';
        static final long EASTWARDS = 'e' << 24 | 'a' << 16 | 's' << 8 | 't';
        static final long WESTWARDS = 'w' << 24 | 'e' << 16 | 's' << 8 | 't';
        static final long THREAD =
                (long) 't' << 40 | (long) 'h' << 32 | 'r' << 24 | 'e' << 16 | 'a' << 8 | 'd';
        static final long PASS = 'p' << 24 | 'a' << 16 | 's' << 8 | 's';
        static final long STEP = 's' << 24 | 't' << 16 | 'e' << 8 | 'p';
        static final long REPEAT =
                (long) 'r' << 40 | (long) 'e' << 32 | 'p' << 24 | 'e' << 16 | 'a' << 8 | 't';

        static int letterCount(long word) {
            int count = 0;
            while (count < MAX_LETTERS && word >>> (8 * count) != 0) {
                count++;
            }
            return count;
        }

        static int letterAt(long word, int index) {
            int count = letterCount(word);
            if (index < 0 || index >= count) {
                return NONE;
            }
            return (int) (word >>> (8 * (count - 1 - index))) & 0xFF;
        }
    }

    /** The input buffer, the token of it that is looked at, and the error of the latest parsing. */
    private static final class Input {
        static final int CAPACITY = 600;
        static final int MAX_DIGITS = 4;

        static final int END = 0;
        static final int WORD = 1;
        static final int NUMBER = 2;
        static final int SIGN = 3;
        /** A byte of no token, or a word or number that is too long: allowed nowhere. */
        static final int ALIEN = 4;

        private final byte[] bytes;
        int length;
        private int position;
        private int offset;
        int kind;
        long word;
        int number;
        private int sign;
        int errorCode;
        int errorOffset;

        Input() {
            bytes = new byte[CAPACITY];
            errorOffset = NONE;
        }

        boolean hasRoom(int count) {
            return length + count <= CAPACITY;
        }

        /** Appends the four bytes of a number if there is room for them. */
        void append(int four) {
            for (int shift = 24; shift >= 0 && length < CAPACITY; shift -= 8) {
                bytes[length] = (byte) (four >>> shift);
                length++;
            }
        }

        /** The whole buffer as a word; NO_WORD if it is none. */
        long wholeWord() {
            if (length > Words.MAX_LETTERS) {
                return Words.NO_WORD;
            }
            long packed = Words.NO_WORD;
            for (int i = 0; i < length; i++) {
                if (!isLetter(bytes[i])) {
                    return Words.NO_WORD;
                }
                packed = packed << 8 | bytes[i];
            }
            return packed;
        }

        void start() {
            position = 0;
            errorCode = 0;
            errorOffset = NONE;
        }

        /** Notes an error at the token; answers false for the parser to hand on. */
        boolean fail(int code) {
            errorCode = code;
            errorOffset = offset;
            return false;
        }

        boolean isSign(char wanted) {
            return kind == SIGN && sign == wanted;
        }

        void next() {
            while (position < length && isBlank(bytes[position])) {
                position++;
            }
            offset = position;
            word = Words.NO_WORD;
            if (position >= length) {
                kind = END;
            } else if (isLetter(bytes[position])) {
                takeWord();
            } else if (isDigit(bytes[position])) {
                takeNumber();
            } else {
                takeSign();
            }
        }

        private void takeWord() {
            long packed = Words.NO_WORD;
            while (position < length && isLetter(bytes[position])) {
                packed = packed << 8 | bytes[position];
                position++;
            }
            boolean fits = position - offset <= Words.MAX_LETTERS;
            kind = fits ? WORD : ALIEN;
            word = fits ? packed : Words.NO_WORD;
        }

        private void takeNumber() {
            int value = 0;
            while (position < length && isDigit(bytes[position])) {
                value = value * 10 + bytes[position] - '0';
                position++;
            }
            kind = position - offset <= MAX_DIGITS ? NUMBER : ALIEN;
            number = value;
        }

        private void takeSign() {
            sign = bytes[position];
            kind = sign == ';' || sign == '(' || sign == ')' ? SIGN : ALIEN;
            position++;
        }

        /** Goes on to a word; NO_WORD, with the error noted, if it is none. */
        long expectWord() {
            next();
            if (kind != WORD) {
                fail(1);
                return Words.NO_WORD;
            }
            return word;
        }

        /** Goes on to a number from low to high; NONE, with the error noted, if it is none. */
        int expectNumber(int low, int high) {
            next();
            if (kind != NUMBER) {
                fail(1);
                return NONE;
            }
            if (number < low || number > high) {
                fail(2);
                return NONE;
            }
            return number;
        }

        boolean expectSign(char wanted) {
            next();
            return isSign(wanted) || fail(1);
        }

        private static boolean isBlank(byte b) {
            return b == ' ' || b == '\n';
        }

        private static boolean isLetter(byte b) {
            return b >= 'a' && b <= 'z';
        }

        private static boolean isDigit(byte b) {
            return b >= '0' && b <= '9';
        }
    }

    /** A town, or a traveller with a diary. */
    private static final class Spot {
        long name;
        boolean travels;
        int band;
        int meridian;
        int diary;
        int direction;
        int degrees;
        int crossings;

        void copyFrom(Spot other) {
            name = other.name;
            travels = other.travels;
            band = other.band;
            meridian = other.meridian;
            diary = other.diary;
            direction = other.direction;
            degrees = other.degrees;
            crossings = other.crossings;
        }

        /** Answers the degrees that were left before. */
        int setOut(int newDirection, int newDegrees) {
            int before = degrees;
            direction = newDirection;
            degrees = newDegrees;
            return before;
        }
    }

    /** A label is asked only for its place, so its word is kept as that. */
    private static final class Label {
        int band;
        int first;
        int last;
        boolean torn;

        void copyFrom(Label other) {
            band = other.band;
            first = other.first;
            last = other.last;
            torn = other.torn;
        }

        boolean meets(int inBand, int low, int high) {
            return !torn && band == inBand && first <= high && low <= last;
        }

        boolean crosses(int meridian) {
            return !torn && first < meridian && meridian <= last;
        }

        int coveredIn(int inBand) {
            return torn || band != inBand ? 0 : last - first + 1;
        }
    }

    /** The gores and the seams before them. */
    private static final class Cloth {
        static final int MAX_GORES = 12;
        static final int FIRST_STITCHES = 20;

        int gores;
        final int[] widths;
        final int[] begins;
        final int[] stitches;

        Cloth() {
            widths = new int[MAX_GORES];
            begins = new int[MAX_GORES];
            stitches = new int[MAX_GORES];
        }

        void copyFrom(Cloth other) {
            gores = other.gores;
            System.arraycopy(other.widths, 0, widths, 0, MAX_GORES);
            System.arraycopy(other.begins, 0, begins, 0, MAX_GORES);
            System.arraycopy(other.stitches, 0, stitches, 0, MAX_GORES);
        }

        void addGore(int width) {
            if (gores >= MAX_GORES) {
                return;
            }
            begins[gores] = gores == 0 ? 0 : begins[gores - 1] + widths[gores - 1];
            widths[gores] = width;
            stitches[gores] = FIRST_STITCHES;
            gores++;
        }

        boolean hasGore(int gore) {
            return gore >= 0 && gore < gores;
        }

        int goreCovering(int meridian) {
            int covering = 0;
            for (int gore = 0; gore < gores; gore++) {
                if (begins[gore] <= meridian) {
                    covering = gore;
                }
            }
            return covering;
        }

        boolean isTorn(int seam) {
            return stitches[seam] == 0;
        }

        boolean isTornAt(int meridian) {
            for (int seam = 0; seam < gores; seam++) {
                if (begins[seam] == meridian && stitches[seam] == 0) {
                    return true;
                }
            }
            return false;
        }

        int countTorn() {
            int count = 0;
            for (int seam = 0; seam < gores; seam++) {
                if (stitches[seam] == 0) {
                    count++;
                }
            }
            return count;
        }

        int strain(int seam) {
            int before = seam == 0 ? gores - 1 : seam - 1;
            int after = seam == gores - 1 ? 0 : seam + 1;
            int tornBeside = (stitches[before] == 0 ? 1 : 0) + (stitches[after] == 0 ? 1 : 0);
            return (widths[before] + widths[seam]) / 60 + tornBeside;
        }

        /** Answers whether the seam tears by this. */
        boolean wear(int seam) {
            if (stitches[seam] == 0) {
                return false;
            }
            stitches[seam] = Math.max(0, stitches[seam] - strain(seam));
            return stitches[seam] == 0;
        }

        void wearAll() {
            for (int seam = 0; seam < gores; seam++) {
                wear(seam);
            }
        }
    }

    /** Everything that undo and the saved state bring back, with the rules of its changes. */
    private static final class Globe {
        static final int MAX_SPOTS = 10;
        static final int MAX_LABELS = 8;
        static final int FIRST_THREAD = 500;
        static final int FIRST_HEM = 180;
        static final int MAX_HEM_STEP = 60;
        static final int STEPS_AN_HOUR = 10;

        final Cloth cloth;
        final int[] hems;
        int clock;
        int thread;
        int spotCount;
        final Spot[] spots;
        int labelCount;
        final Label[] labels;

        Globe() {
            cloth = new Cloth();
            hems = new int[BANDS];
            spots = new Spot[MAX_SPOTS];
            for (int i = 0; i < MAX_SPOTS; i++) {
                spots[i] = new Spot();
            }
            labels = new Label[MAX_LABELS];
            for (int i = 0; i < MAX_LABELS; i++) {
                labels[i] = new Label();
            }
        }

        /** Makes it as new, but for the gores, which the caller then adds. */
        void clear() {
            cloth.gores = 0;
            for (int band = 0; band < BANDS; band++) {
                hems[band] = FIRST_HEM;
            }
            clock = 0;
            thread = FIRST_THREAD;
            spotCount = 0;
            labelCount = 0;
        }

        void copyFrom(Globe other) {
            cloth.copyFrom(other.cloth);
            System.arraycopy(other.hems, 0, hems, 0, BANDS);
            clock = other.clock;
            thread = other.thread;
            spotCount = other.spotCount;
            for (int i = 0; i < spotCount; i++) {
                spots[i].copyFrom(other.spots[i]);
            }
            labelCount = other.labelCount;
            for (int i = 0; i < labelCount; i++) {
                labels[i].copyFrom(other.labels[i]);
            }
        }

        // -- the hem and local time

        int longitudeIn(int band, int meridian) {
            return meridian < hems[band] ? meridian : meridian - MERIDIANS;
        }

        int localHours(int band, int meridian) {
            return clock + Math.floorDiv(longitudeIn(band, meridian), 15);
        }

        int localDay(int band, int meridian) {
            return Math.floorDiv(localHours(band, meridian), 24);
        }

        int localHour(int band, int meridian) {
            return Math.floorMod(localHours(band, meridian), 24);
        }

        int hemHindrance(int band, int meridian) {
            if (meridian == hems[band] || meridian == 0) {
                return 1;
            }
            if (band > 0 && isWide(hems[band - 1], meridian)
                    || band < BANDS - 1 && isWide(hems[band + 1], meridian)) {
                return 2;
            }
            for (int i = 0; i < labelCount; i++) {
                if (labels[i].band == band && labels[i].crosses(meridian)) {
                    return 3;
                }
            }
            return thread < hemPrice(band, meridian) ? 4 : 0;
        }

        private static boolean isWide(int hem, int nextHem) {
            return Math.abs(hem - nextHem) > MAX_HEM_STEP;
        }

        private int hemPrice(int band, int meridian) {
            return (Math.abs(meridian - hems[band]) + 4) / 5;
        }

        int hemRefusal(int band, int meridian) {
            if (!isBand(band) || !isMeridian(meridian)) {
                return BAD_ARGUMENT;
            }
            return hemHindrance(band, meridian) == 0 ? ALLOWED : BAD_STATE;
        }

        /** Answers how many diaries change. */
        int shiftHem(int band, int meridian) {
            int low = Math.min(hems[band], meridian);
            int high = Math.max(hems[band], meridian);
            int change = meridian > hems[band] ? 1 : -1;
            int changed = 0;
            for (int i = 0; i < spotCount; i++) {
                Spot spot = spots[i];
                if (spot.travels && spot.band == band
                        && spot.meridian >= low && spot.meridian < high) {
                    spot.diary += change;
                    changed++;
                }
            }
            thread -= hemPrice(band, meridian);
            hems[band] = meridian;
            return changed;
        }

        // -- seams

        int sewRefusal(int seam, int stitches) {
            if (!cloth.hasGore(seam)) {
                return BAD_INDEX;
            }
            if (stitches < 1 || stitches > MAX_STITCHES) {
                return BAD_ARGUMENT;
            }
            return canSew(seam, stitches) ? ALLOWED : BAD_STATE;
        }

        boolean canSew(int seam, int stitches) {
            return cloth.stitches[seam] + stitches <= MAX_STITCHES && stitches <= thread;
        }

        /** Answers the stitches of the seam afterwards. */
        int addStitches(int seam, int stitches) {
            thread -= stitches;
            cloth.stitches[seam] += stitches;
            return cloth.stitches[seam];
        }

        int ripRefusal(int seam) {
            if (!cloth.hasGore(seam)) {
                return BAD_INDEX;
            }
            return cloth.isTorn(seam) ? BAD_STATE : ALLOWED;
        }

        /** Answers how many labels become torn. */
        int openSeam(int seam) {
            thread += cloth.stitches[seam] / 2;
            cloth.stitches[seam] = 0;
            return tearLabels(cloth.begins[seam]);
        }

        private int tearLabels(int meridian) {
            int count = 0;
            for (int i = 0; i < labelCount; i++) {
                if (labels[i].crosses(meridian)) {
                    labels[i].torn = true;
                    count++;
                }
            }
            return count;
        }

        // -- towns and travellers

        boolean hasSpot(int spot) {
            return spot >= 0 && spot < spotCount;
        }

        boolean hasRoomForSpot() {
            return spotCount < MAX_SPOTS;
        }

        int spotNamed(long name) {
            for (int i = 0; i < spotCount; i++) {
                if (spots[i].name == name) {
                    return i;
                }
            }
            return NONE;
        }

        /** Adds a spot and answers its number; the caller has looked for room and for the name. */
        int settle(long name, int band, int meridian, boolean travels) {
            if (!hasRoomForSpot()) {
                return NONE;
            }
            Spot spot = spots[spotCount];
            spot.name = name;
            spot.travels = travels;
            spot.band = band;
            spot.meridian = meridian;
            spot.diary = localDay(band, meridian);
            spot.direction = EAST;
            spot.degrees = 0;
            spot.crossings = 0;
            spotCount++;
            return spotCount - 1;
        }

        int spotNextAtMidnight() {
            int nearest = NONE;
            int fewest = 0;
            for (int i = 0; i < spotCount; i++) {
                // At the hour 0 this is a whole day, so that such a spot comes last.
                int hours = 24 - localHour(spots[i].band, spots[i].meridian);
                if (nearest == NONE || hours < fewest) {
                    nearest = i;
                    fewest = hours;
                }
            }
            return nearest;
        }

        int stepHindrance(Spot spot, int direction) {
            if (!spot.travels) {
                return 1;
            }
            int border = direction == EAST ? meridianBeside(spot.meridian, EAST) : spot.meridian;
            return cloth.isTornAt(border) ? 2 : 0;
        }

        private static int meridianBeside(int meridian, int direction) {
            return (meridian + (direction == EAST ? 1 : MERIDIANS - 1)) % MERIDIANS;
        }

        int stepRefusal(int spot, int direction) {
            if (!hasSpot(spot)) {
                return BAD_INDEX;
            }
            if (!isDirection(direction)) {
                return BAD_ARGUMENT;
            }
            return stepHindrance(spots[spot], direction) == 0 ? ALLOWED : BAD_STATE;
        }

        void makeStep(Spot spot, int direction) {
            int from = spot.meridian;
            int to = meridianBeside(from, direction);
            int hourFrom = Math.floorMod(localHours(spot.band, from), 24);
            int hourTo = Math.floorMod(localHours(spot.band, to), 24);
            int hem = hems[spot.band];
            if (direction == EAST) {
                spot.diary += (hourFrom == 23 && hourTo == 0 ? 1 : 0) - (to == hem ? 1 : 0);
                spot.crossings += to == hem ? 1 : 0;
            } else {
                spot.diary += (from == hem ? 1 : 0) - (hourFrom == 0 && hourTo == 23 ? 1 : 0);
                spot.crossings += from == hem ? 1 : 0;
            }
            spot.meridian = to;
        }

        int walkRefusal(int spot, int direction, int degrees) {
            if (!hasSpot(spot)) {
                return BAD_INDEX;
            }
            if (!isDirection(direction) || degrees < 0 || degrees > MAX_DEGREES) {
                return BAD_ARGUMENT;
            }
            return spots[spot].travels ? ALLOWED : BAD_STATE;
        }

        // -- labels

        boolean hasRoomForLabel() {
            return labelCount < MAX_LABELS;
        }

        int labelMeeting(int band, int low, int high) {
            for (int i = 0; i < labelCount; i++) {
                if (labels[i].meets(band, low, high)) {
                    return i;
                }
            }
            return NONE;
        }

        private static int lastOf(int letters, int band, int first) {
            return first + letters * (3 + Math.abs(band - 4)) - 1;
        }

        int labelHindrance(int letters, int band, int first) {
            int last = lastOf(letters, band, first);
            if (letters == 0) {
                return 1;
            }
            if (last >= MERIDIANS) {
                return 2;
            }
            if (labelMeeting(band, first, last) != NONE) {
                return 3;
            }
            if (first < hems[band] && hems[band] <= last) {
                return 4;
            }
            for (int meridian = first + 1; meridian <= last; meridian++) {
                if (cloth.isTornAt(meridian)) {
                    return 5;
                }
            }
            return 0;
        }

        /** Adds a label and answers its number; the caller has looked for room and hindrances. */
        int sewLabelOn(int letters, int band, int first) {
            if (!hasRoomForLabel()) {
                return NONE;
            }
            Label label = labels[labelCount];
            label.band = band;
            label.first = first;
            label.last = lastOf(letters, band, first);
            label.torn = false;
            labelCount++;
            return labelCount - 1;
        }

        // -- hours

        static int passRefusal(int hours) {
            return hours < 1 || hours > MAX_HOURS ? BAD_ARGUMENT : ALLOWED;
        }

        static boolean isWearing(int clock) {
            return clock % 6 == 0;
        }

        /** Answers how many seams tear. */
        int letPass(int hours) {
            int torn = 0;
            for (int i = 0; i < hours; i++) {
                clock++;
                turnDiaries();
                walkAll();
                if (isWearing(clock)) {
                    torn += wearSeams();
                }
            }
            return torn;
        }

        private void turnDiaries() {
            for (int i = 0; i < spotCount; i++) {
                Spot spot = spots[i];
                if (spot.travels && localHour(spot.band, spot.meridian) == 0) {
                    spot.diary++;
                }
            }
        }

        private void walkAll() {
            for (int i = 0; i < spotCount; i++) {
                Spot spot = spots[i];
                for (int made = 0; made < STEPS_AN_HOUR && spot.degrees > 0; made++) {
                    if (stepHindrance(spot, spot.direction) == 0) {
                        makeStep(spot, spot.direction);
                        spot.degrees--;
                    } else {
                        spot.degrees = 0;
                    }
                }
            }
        }

        private int wearSeams() {
            int torn = 0;
            for (int seam = 0; seam < cloth.gores; seam++) {
                if (cloth.wear(seam)) {
                    tearLabels(cloth.begins[seam]);
                    torn++;
                }
            }
            return torn;
        }

        // -- checks and the picture

        int countWrongDiaries() {
            int count = 0;
            for (int i = 0; i < spotCount; i++) {
                Spot spot = spots[i];
                if (spot.travels && spot.diary != localDay(spot.band, spot.meridian)) {
                    count++;
                }
            }
            return count;
        }

        int countWrongDays() {
            int count = 0;
            for (int band = 0; band < BANDS; band++) {
                int dayWithoutHem = Math.floorDiv(clock + Math.floorDiv(hems[band], 15), 24);
                if (localDay(band, hems[band]) != dayWithoutHem - 1) {
                    count++;
                }
            }
            return count;
        }

        int countWrongLabels() {
            int count = 0;
            for (int i = 0; i < labelCount; i++) {
                boolean wrong = labels[i].crosses(hems[labels[i].band]);
                for (int seam = 0; seam < cloth.gores; seam++) {
                    wrong = wrong || cloth.isTorn(seam) && labels[i].crosses(cloth.begins[seam]);
                }
                if (wrong) {
                    count++;
                }
            }
            return count;
        }

        int countWideHems() {
            int count = 0;
            for (int band = 0; band < BANDS - 1; band++) {
                if (isWide(hems[band], hems[band + 1])) {
                    count++;
                }
            }
            return count;
        }

        char pictureOf(int band, int low, int high) {
            if (hems[band] >= low && hems[band] <= high) {
                return 'H';
            }
            boolean sewn = false;
            for (int seam = 0; seam < cloth.gores; seam++) {
                if (cloth.begins[seam] >= low && cloth.begins[seam] <= high) {
                    if (cloth.isTorn(seam)) {
                        return 'x';
                    }
                    sewn = true;
                }
            }
            if (sewn) {
                return '+';
            }
            return labelMeeting(band, low, high) == NONE ? '.' : 'a';
        }
    }

    /** The states before the latest undoable calls, in a ring. */
    private static final class History {
        static final int MAX_CALLS = 6;

        int count;
        private int latest;
        private final Globe[] before;

        History() {
            before = new Globe[MAX_CALLS];
            for (int i = 0; i < MAX_CALLS; i++) {
                before[i] = new Globe();
            }
        }

        void remember(Globe globe) {
            latest = (latest + 1) % MAX_CALLS;
            before[latest].copyFrom(globe);
            count = Math.min(count + 1, MAX_CALLS);
        }

        void recall(Globe globe) {
            globe.copyFrom(before[latest]);
            latest = (latest + MAX_CALLS - 1) % MAX_CALLS;
            count--;
        }

        void forget() {
            count = 0;
        }
    }

    /** Reads a description; each part answers whether it is without error. */
    private static final class Description {
        static final int MIN_WIDTH = 10;
        static final int MAX_WIDTH = 350;
        static final int MAX_THREAD = 9999;

        static boolean read(Input in, Globe globe) {
            globe.clear();
            in.start();
            if (!readWidths(in, globe.cloth)) {
                return false;
            }
            for (int i = 0; i <= Input.CAPACITY; i++) {
                in.next();
                if (in.kind == Input.END) {
                    return true;
                }
                if (!readStatement(in, globe) || !in.expectSign(';')) {
                    return false;
                }
            }
            return in.fail(1);
        }

        private static boolean readWidths(Input in, Cloth cloth) {
            if (in.expectWord() != Words.GLOBE) {
                return in.fail(1);
            }
            int sum = 0;
            for (int gore = 0; gore <= Cloth.MAX_GORES; gore++) {
                in.next();
                if (gore > 0 && in.isSign(';')) {
                    return sum == MERIDIANS || in.fail(3);
                }
                if (in.kind != Input.NUMBER) {
                    return in.fail(1);
                }
                sum += in.number;
                if (in.number < MIN_WIDTH || in.number > MAX_WIDTH || sum > MERIDIANS) {
                    return in.fail(2);
                }
                cloth.addGore(in.number);
            }
            return in.fail(4);
        }

        private static boolean readStatement(Input in, Globe globe) {
            long word = in.word;
            if (word == Words.TOWN) {
                return readSpot(in, globe, false);
            }
            if (word == Words.PERSON) {
                return readSpot(in, globe, true);
            }
            if (word == Words.LABEL) {
                return readLabel(in, globe);
            }
            if (word == Words.HEM) {
                return readHem(in, globe);
            }
            if (word == Words.SEW) {
                return readSew(in, globe);
            }
            if (word == Words.RIP) {
                return readRip(in, globe);
            }
            if (word == Words.WALK) {
                return readWalk(in, globe);
            }
            if (word == Words.THREAD) {
                return readThread(in, globe);
            }
            if (word == Words.PASS) {
                // Not in a method of its own: from here on, an hour's calls stand deepest of all.
                int hours = in.expectNumber(1, MAX_HOURS);
                if (hours != NONE) {
                    globe.letPass(hours);
                }
                return hours != NONE;
            }
            return in.fail(1);
        }

        private static boolean readSpot(Input in, Globe globe, boolean travels) {
            if (!globe.hasRoomForSpot()) {
                return in.fail(4);
            }
            long name = in.expectWord();
            if (name == Words.NO_WORD) {
                return false;
            }
            if (globe.spotNamed(name) != NONE) {
                return in.fail(3);
            }
            int band = in.expectNumber(0, BANDS - 1);
            if (band == NONE) {
                return false;
            }
            int meridian = in.expectNumber(0, MERIDIANS - 1);
            if (meridian == NONE) {
                return false;
            }
            globe.settle(name, band, meridian, travels);
            return true;
        }

        private static boolean readLabel(Input in, Globe globe) {
            if (!globe.hasRoomForLabel()) {
                return in.fail(4);
            }
            int letters = Words.letterCount(in.expectWord());
            if (letters == 0) {
                return false;
            }
            int band = in.expectNumber(0, BANDS - 1);
            if (band == NONE) {
                return false;
            }
            int first = in.expectNumber(0, MERIDIANS - 1);
            if (first == NONE) {
                return false;
            }
            if (globe.labelHindrance(letters, band, first) != 0) {
                return in.fail(5);
            }
            globe.sewLabelOn(letters, band, first);
            return true;
        }

        private static boolean readHem(Input in, Globe globe) {
            int band = in.expectNumber(0, BANDS - 1);
            if (band == NONE) {
                return false;
            }
            int meridian = in.expectNumber(0, MERIDIANS - 1);
            if (meridian == NONE) {
                return false;
            }
            if (globe.hemHindrance(band, meridian) != 0) {
                return in.fail(5);
            }
            globe.shiftHem(band, meridian);
            return true;
        }

        private static boolean readSew(Input in, Globe globe) {
            int seam = in.expectNumber(0, globe.cloth.gores - 1);
            if (seam == NONE) {
                return false;
            }
            int stitches = in.expectNumber(1, MAX_STITCHES);
            if (stitches == NONE) {
                return false;
            }
            if (!globe.canSew(seam, stitches)) {
                return in.fail(5);
            }
            globe.addStitches(seam, stitches);
            return true;
        }

        private static boolean readRip(Input in, Globe globe) {
            int seam = in.expectNumber(0, globe.cloth.gores - 1);
            if (seam == NONE) {
                return false;
            }
            if (globe.cloth.isTorn(seam)) {
                return in.fail(5);
            }
            globe.openSeam(seam);
            return true;
        }

        private static boolean readWalk(Input in, Globe globe) {
            long name = in.expectWord();
            if (name == Words.NO_WORD) {
                return false;
            }
            int spot = globe.spotNamed(name);
            if (spot == NONE) {
                return in.fail(4);
            }
            if (!globe.spots[spot].travels) {
                return in.fail(5);
            }
            long way = in.expectWord();
            if (way != Words.EASTWARDS && way != Words.WESTWARDS) {
                return in.fail(1);
            }
            int degrees = in.expectNumber(0, MAX_DEGREES);
            if (degrees == NONE) {
                return false;
            }
            globe.spots[spot].setOut(way == Words.EASTWARDS ? EAST : WEST, degrees);
            return true;
        }

        private static boolean readThread(Input in, Globe globe) {
            int thread = in.expectNumber(0, MAX_THREAD);
            if (thread == NONE) {
                return false;
            }
            globe.thread = thread;
            return true;
        }
    }

    /**
     * A script, kept as the plan of the commands that it executes, with its repeats written out: as
     * no more than 40 are executed, what a repeat would add beyond that is left out.
     */
    private static final class Script {
        static final int MAX_COMMANDS = 30;
        static final int MAX_PLANNED = 40;
        static final int MAX_OPEN = 2;
        static final int MAX_TIMES = 20;
        static final int MAX_NUMBER = 9999;

        static final int UNKNOWN = 0;
        static final int HEM = 1;
        static final int SEW = 2;
        static final int STEP = 3;
        static final int WALK = 4;
        static final int RIP = 5;
        static final int PASS = 6;
        static final int REPEAT = 7;

        private int commands;
        private int planned;
        private final int[] kinds;
        private final int[] firsts;
        private final int[] seconds;
        private final int[] thirds;
        private int open;
        private final int[] openAt;
        private final int[] openTimes;

        Script() {
            kinds = new int[MAX_PLANNED];
            firsts = new int[MAX_PLANNED];
            seconds = new int[MAX_PLANNED];
            thirds = new int[MAX_PLANNED];
            openAt = new int[MAX_OPEN];
            openTimes = new int[MAX_OPEN];
        }

        /** Answers whether the text is a script. */
        boolean read(Input in) {
            commands = 0;
            planned = 0;
            open = 0;
            in.start();
            for (int i = 0; i <= Input.CAPACITY; i++) {
                in.next();
                if (in.kind == Input.END && open == 0) {
                    return true;
                }
                boolean good = in.isSign(')') && open > 0 ? closeRepeat(in) : readCommand(in);
                if (!good) {
                    return false;
                }
            }
            return in.fail(1);
        }

        private boolean readCommand(Input in) {
            int kind = kindOf(in.word);
            if (kind == UNKNOWN) {
                return in.fail(1);
            }
            if (kind == REPEAT && open >= MAX_OPEN) {
                return in.fail(3);
            }
            if (commands >= MAX_COMMANDS) {
                return in.fail(5);
            }
            commands++;
            return kind == REPEAT ? openRepeat(in) : readNumbers(in, kind);
        }

        private static int kindOf(long word) {
            if (word == Words.HEM) {
                return HEM;
            }
            if (word == Words.SEW) {
                return SEW;
            }
            if (word == Words.STEP) {
                return STEP;
            }
            if (word == Words.WALK) {
                return WALK;
            }
            if (word == Words.RIP) {
                return RIP;
            }
            if (word == Words.PASS) {
                return PASS;
            }
            return word == Words.REPEAT ? REPEAT : UNKNOWN;
        }

        private boolean readNumbers(Input in, int kind) {
            int first = in.expectNumber(0, MAX_NUMBER);
            if (first == NONE) {
                return false;
            }
            boolean hasOne = kind == RIP || kind == PASS;
            int second = hasOne ? 0 : in.expectNumber(0, MAX_NUMBER);
            if (second == NONE) {
                return false;
            }
            int third = kind == WALK ? in.expectNumber(0, MAX_NUMBER) : 0;
            if (third == NONE) {
                return false;
            }
            plan(kind, first, second, third);
            return in.expectSign(';');
        }

        private boolean openRepeat(Input in) {
            int times = in.expectNumber(1, MAX_TIMES);
            if (times == NONE) {
                return false;
            }
            openAt[open] = planned;
            openTimes[open] = times;
            open++;
            return in.expectSign('(');
        }

        private boolean closeRepeat(Input in) {
            open--;
            int size = planned - openAt[open];
            for (int i = size; i < size * openTimes[open] && planned < MAX_PLANNED; i++) {
                int again = planned - size;
                plan(kinds[again], firsts[again], seconds[again], thirds[again]);
            }
            return in.expectSign(';');
        }

        private void plan(int kind, int first, int second, int third) {
            if (planned >= MAX_PLANNED) {
                return;
            }
            kinds[planned] = kind;
            firsts[planned] = first;
            seconds[planned] = second;
            thirds[planned] = third;
            planned++;
        }

        /** Executes until a command is refused; answers how many were executed. */
        int run(Globe globe) {
            int done = 0;
            while (done < planned && execute(globe, done)) {
                done++;
            }
            return done;
        }

        private boolean execute(Globe globe, int index) {
            int first = firsts[index];
            int second = seconds[index];
            int third = thirds[index];
            if (refusalOf(globe, index) != ALLOWED) {
                return false;
            }
            switch (kinds[index]) {
                case HEM:
                    globe.shiftHem(first, second);
                    break;
                case SEW:
                    globe.addStitches(first, second);
                    break;
                case STEP:
                    globe.makeStep(globe.spots[first], second);
                    break;
                case WALK:
                    globe.spots[first].setOut(second, third);
                    break;
                case RIP:
                    globe.openSeam(first);
                    break;
                default:
                    globe.letPass(first);
                    break;
            }
            return true;
        }

        private int refusalOf(Globe globe, int index) {
            int first = firsts[index];
            int second = seconds[index];
            switch (kinds[index]) {
                case HEM:
                    return globe.hemRefusal(first, second);
                case SEW:
                    return globe.sewRefusal(first, second);
                case STEP:
                    return globe.stepRefusal(first, second);
                case WALK:
                    return globe.walkRefusal(first, second, thirds[index]);
                case RIP:
                    return globe.ripRefusal(first);
                default:
                    return Globe.passRefusal(first);
            }
        }
    }
}
