/** Texts that are searched with slips by columns of bits. */
public final class SlipSearch {
    public static final int UNKNOWN = -1;
    public static final int BAD_VALUE = -2;
    public static final int FULL = -3;
    public static final int NOT_POSSIBLE = -4;
    public static final int NONE = -5;

    private static final int MOST_CHARACTERS = 120;
    private static final int MOST_PATTERNS = 6;
    private static final int MOST_PLACES = 60;
    private static final int MOST_SLIPS = 4;
    private static final int PAD_ROOM = 60;
    private static final int HISTORY_ROOM = 4;

    private static final int LETTERS = 26;
    private static final int SIGNS = LETTERS + 1;
    private static final int ALL_LETTERS = (1 << LETTERS) - 1;
    private static final int BLANK_BIT = 1 << LETTERS;
    private static final int ALL_SIGNS = ALL_LETTERS | BLANK_BIT;

    private static final int NO_FAULT = -1;
    private static final int FAULT_BASE = -100;
    private static final int NO_END = -1;

    private static final int FLOAT_BIAS = 127;
    private static final int FLOAT_SHIFT = 23;
    private static final int FLOAT_UNITS = 1 << FLOAT_SHIFT;

    private final State now;
    private final State snapshot;
    private boolean hasSnapshot;
    private final History history;
    private final Pad pad;
    private final PatternReader reader;
    private final Search search;
    private final Way way;

    public SlipSearch() {
        now = new State();
        snapshot = new State();
        hasSnapshot = false;
        history = new History();
        pad = new Pad();
        reader = new PatternReader();
        search = new Search();
        way = new Way();
    }

    // ---- the text

    public int write(char character) {
        if (!isSign(character)) {
            return BAD_VALUE;
        }
        if (now.length >= MOST_CHARACTERS) {
            return FULL;
        }
        history.record(now);
        now.append(character);
        return now.length;
    }

    public int writePad() {
        if (!pad.canBeWritten()) {
            return BAD_VALUE;
        }
        if (now.length + pad.length > MOST_CHARACTERS) {
            return FULL;
        }
        history.record(now);
        for (int index = 0; index < pad.length; index++) {
            char typed = pad.signAt(index);
            now.append(typed == '_' ? ' ' : typed);
        }
        return now.length;
    }

    public int cut(int many) {
        if (many < 1 || many > MOST_CHARACTERS) {
            return BAD_VALUE;
        }
        if (many > now.length) {
            return NOT_POSSIBLE;
        }
        history.record(now);
        now.length -= many;
        return now.length;
    }

    public int replace(int pattern, char letter) {
        Pattern found = now.patternOrNull(pattern);
        if (found == null) {
            return UNKNOWN;
        }
        if (!isLetter(letter)) {
            return BAD_VALUE;
        }
        search.findAlone(now, found);
        if (search.listed == 0) {
            return NONE;
        }
        if (search.lengthWithParts(now.length) > MOST_CHARACTERS) {
            return FULL;
        }
        history.record(now);
        search.putLetterForParts(now, letter);
        return search.listed;
    }

    // ---- patterns, slips

    public int addPattern() {
        int fault = reader.readFault(pad);
        if (fault != NO_FAULT) {
            return FAULT_BASE - fault;
        }
        if (now.patternCount >= MOST_PATTERNS) {
            return FULL;
        }
        history.record(now);
        now.addLast(reader.makePattern());
        return now.patternCount - 1;
    }

    public int removePattern(int pattern) {
        if (now.patternOrNull(pattern) == null) {
            return UNKNOWN;
        }
        history.record(now);
        now.removeNumber(pattern);
        return now.patternCount;
    }

    public int setSlips(int slips) {
        if (slips < 0 || slips > MOST_SLIPS) {
            return BAD_VALUE;
        }
        int previous = now.mostSlips;
        if (slips == previous) {
            return NONE;
        }
        history.record(now);
        now.mostSlips = slips;
        return previous;
    }

    // ---- the pad

    public int type(char character) {
        if (pad.length >= PAD_ROOM) {
            return FULL;
        }
        pad.append(character);
        return pad.length;
    }

    public int clearPad() {
        int had = pad.length;
        pad.length = 0;
        return had;
    }

    // ---- history

    public int undo() {
        if (history.count == 0) {
            return NONE;
        }
        history.takeLatestInto(now);
        return history.count;
    }

    public int keep() {
        snapshot.copyFrom(now);
        hasSnapshot = true;
        return now.length;
    }

    public int restore() {
        if (!hasSnapshot) {
            return NONE;
        }
        history.record(now);
        now.copyFrom(snapshot);
        return now.length;
    }

    // ---- what is told

    public int at(int place) {
        if (place < 0 || place >= now.length) {
            return UNKNOWN;
        }
        return now.signAt(place);
    }

    public int pattern(int pattern, int what) {
        Pattern asked = now.patternOrNull(pattern);
        if (asked == null) {
            return UNKNOWN;
        }
        switch (what) {
            case 0:
                return asked.placeCount;
            case 1:
                return asked.bound ? 1 : 0;
            case 2:
                search.findEnds(now, asked);
                return search.listed;
            case 3:
                search.findAlone(now, asked);
                return search.listed;
            case 4:
                search.findEnds(now, asked);
                return search.fewestSlips();
            case 5:
                search.findEnds(now, asked);
                return search.firstWithFewest();
            case 6:
                return asked.countWild();
            case 7:
                return asked.isPlain() ? 1 : 0;
            default:
                return BAD_VALUE;
        }
    }

    public int takes(int pattern, int place) {
        Pattern asked = now.patternOrNull(pattern);
        if (asked == null || place < 0 || place >= asked.placeCount) {
            return UNKNOWN;
        }
        return asked.signsOf(place);
    }

    public int end(int pattern, int rank, boolean alone, int what) {
        Pattern asked = now.patternOrNull(pattern);
        if (asked == null) {
            return UNKNOWN;
        }
        if (rank < 0 || what < 0 || what > 2) {
            return BAD_VALUE;
        }
        if (alone) {
            search.findAlone(now, asked);
        } else {
            search.findEnds(now, asked);
        }
        if (rank >= search.listed) {
            return NONE;
        }
        if (what == 2 && !alone) {
            search.findBeginnings(now, asked);
        }
        return search.tell(rank, what);
    }

    public long column(int pattern, int slips, int place) {
        Pattern asked = now.patternOrNull(pattern);
        if (asked == null) {
            return UNKNOWN;
        }
        if (slips < 0 || slips > now.mostSlips || place < 0 || place > now.length) {
            return BAD_VALUE;
        }
        return search.columnAt(now, asked, slips, place);
    }

    public int slips(int pattern, int from, int to, int what) {
        Pattern asked = now.patternOrNull(pattern);
        if (asked == null) {
            return UNKNOWN;
        }
        if (from < 0 || to < from || to > now.length || what < 0 || what > 3) {
            return BAD_VALUE;
        }
        return way.countSlips(now, asked, from, to, what);
    }

    public double density(int pattern) {
        Pattern asked = now.patternOrNull(pattern);
        if (asked == null) {
            return -1.0;
        }
        return densityOf(asked);
    }

    public int densityBits(int pattern) {
        Pattern asked = now.patternOrNull(pattern);
        if (asked == null) {
            return UNKNOWN;
        }
        return bitsOfFloat((float) densityOf(asked));
    }

    public int count(int what) {
        switch (what) {
            case 0:
                return now.length;
            case 1:
                return now.patternCount;
            case 2:
                return now.mostSlips;
            case 3:
                return countAllEnds();
            case 4:
                return countPlacesWithEnds();
            case 5:
                return now.countBlanks();
            case 6:
                return history.count;
            case 7:
                return pad.length;
            default:
                return BAD_VALUE;
        }
    }

    private double densityOf(Pattern asked) {
        search.findEnds(now, asked);
        int places = now.length + 1;
        return places > 0 ? search.sumOfShares() / places : 0.0;
    }

    private int countAllEnds() {
        int ends = 0;
        for (int number = 0; number < MOST_PATTERNS; number++) {
            Pattern each = now.patternOrNull(number);
            if (each != null) {
                search.findEnds(now, each);
                ends += search.listed;
            }
        }
        return ends;
    }

    private int countPlacesWithEnds() {
        search.clearMarks();
        for (int number = 0; number < MOST_PATTERNS; number++) {
            Pattern each = now.patternOrNull(number);
            if (each != null) {
                search.findEnds(now, each);
                search.markEnds();
            }
        }
        return search.countMarks();
    }

    private static boolean isLetter(char character) {
        return character >= 'a' && character <= 'z';
    }

    private static boolean isSign(char character) {
        return isLetter(character) || character == ' ';
    }

    /** The bits of a float from 0 to 1, by hand: the library that may be used has nothing for it. */
    private static int bitsOfFloat(float value) {
        if (value <= 0f) {
            return 0;
        }
        float scaled = value;
        int exponent = FLOAT_BIAS;
        while (scaled < 1f && exponent > 1) {
            scaled = scaled * 2f;
            exponent--;
        }
        return (exponent << FLOAT_SHIFT) + (int) ((scaled - 1f) * FLOAT_UNITS);
    }

    /** What undo, keep and restore bring back: the text, the patterns and the most slips. */
    private static final class State {
        private final char[] text = new char[MOST_CHARACTERS];
        private int length = 0;
        // A pattern never changes once it is made, so states share them.
        private final Pattern[] patterns = new Pattern[MOST_PATTERNS];
        private int patternCount = 0;
        private int mostSlips = 1;

        void copyFrom(State other) {
            System.arraycopy(other.text, 0, text, 0, MOST_CHARACTERS);
            length = other.length;
            for (int number = 0; number < MOST_PATTERNS; number++) {
                patterns[number] = other.patterns[number];
            }
            patternCount = other.patternCount;
            mostSlips = other.mostSlips;
        }

        char signAt(int place) {
            return place >= 0 && place < MOST_CHARACTERS ? text[place] : ' ';
        }

        void append(char sign) {
            if (length >= 0 && length < MOST_CHARACTERS) {
                text[length] = sign;
                length++;
            }
        }

        int countBlanks() {
            int blanks = 0;
            for (int place = 0; place < length; place++) {
                if (signAt(place) == ' ') {
                    blanks++;
                }
            }
            return blanks;
        }

        Pattern patternOrNull(int number) {
            if (number < 0 || number >= patternCount || number >= MOST_PATTERNS) {
                return null;
            }
            return patterns[number];
        }

        void addLast(Pattern added) {
            if (patternCount >= 0 && patternCount < MOST_PATTERNS) {
                patterns[patternCount] = added;
                patternCount++;
            }
        }

        void removeNumber(int removed) {
            for (int number = 0; number + 1 < MOST_PATTERNS; number++) {
                if (number >= removed) {
                    patterns[number] = patterns[number + 1];
                }
            }
            patterns[MOST_PATTERNS - 1] = null;
            patternCount--;
        }

        boolean mayBegin(Pattern asked, int place) {
            return !asked.bound || place == 0 || signAt(place - 1) == ' ';
        }
    }

    /** The states before the latest acts, the oldest one first. */
    private static final class History {
        private final State[] states = new State[HISTORY_ROOM];
        private int count = 0;

        History() {
            for (int index = 0; index < HISTORY_ROOM; index++) {
                states[index] = new State();
            }
        }

        void record(State state) {
            if (count >= HISTORY_ROOM) {
                dropOldest();
            }
            State room = stateOrNull(count);
            if (room != null) {
                room.copyFrom(state);
                count++;
            }
        }

        private void dropOldest() {
            State oldest = states[0];
            for (int index = 0; index + 1 < HISTORY_ROOM; index++) {
                states[index] = states[index + 1];
            }
            states[HISTORY_ROOM - 1] = oldest;
            count = HISTORY_ROOM - 1;
        }

        void takeLatestInto(State state) {
            State latest = stateOrNull(count - 1);
            if (latest != null) {
                state.copyFrom(latest);
                count--;
            }
        }

        private State stateOrNull(int index) {
            return index >= 0 && index < HISTORY_ROOM ? states[index] : null;
        }
    }

    /** What is typed. */
    private static final class Pad {
        private final char[] typed = new char[PAD_ROOM];
        private int length = 0;

        void append(char character) {
            if (length >= 0 && length < PAD_ROOM) {
                typed[length] = character;
                length++;
            }
        }

        char signAt(int index) {
            return index >= 0 && index < PAD_ROOM ? typed[index] : ' ';
        }

        boolean canBeWritten() {
            for (int index = 0; index < length; index++) {
                if (!isLetter(signAt(index)) && signAt(index) != '_') {
                    return false;
                }
            }
            return length > 0;
        }
    }

    /** Reads a pattern, one character of the pad after the other. */
    private static final class PatternReader {
        private static final int AT_BEGINNING = 0;
        private static final int AT_PLACE = 1;
        private static final int SET_OPENED = 2;
        private static final int SET_TURNED = 3;
        private static final int IN_SET = 4;

        private final int[] places = new int[MOST_PLACES];
        private int placeCount = 0;
        private boolean bound = false;
        private int mode = AT_BEGINNING;
        private boolean turned = false;
        private int set = 0;
        private char lastOfSet = 'a';

        int readFault(Pad pad) {
            placeCount = 0;
            bound = false;
            mode = AT_BEGINNING;
            for (int index = 0; index < pad.length; index++) {
                if (!accepts(pad.signAt(index))) {
                    return index;
                }
            }
            return mode == AT_PLACE && placeCount > 0 ? NO_FAULT : pad.length;
        }

        Pattern makePattern() {
            return new Pattern(places, placeCount, bound);
        }

        private boolean accepts(char sign) {
            switch (mode) {
                case AT_BEGINNING:
                    return acceptsBeginning(sign);
                case AT_PLACE:
                    return acceptsPlace(sign);
                case SET_OPENED:
                    return acceptsFirstOfSet(sign);
                case SET_TURNED:
                    return acceptsLetterOfSet(sign);
                default:
                    return acceptsRestOfSet(sign);
            }
        }

        private boolean acceptsBeginning(char sign) {
            if (sign != '^') {
                return acceptsPlace(sign);
            }
            bound = true;
            mode = AT_PLACE;
            return true;
        }

        private boolean acceptsPlace(char sign) {
            if (sign == '[') {
                set = 0;
                turned = false;
                mode = SET_OPENED;
                return true;
            }
            if (isLetter(sign)) {
                addPlace(1 << (sign - 'a'));
                return true;
            }
            if (sign == '.') {
                addPlace(ALL_SIGNS);
                return true;
            }
            if (sign == '_') {
                addPlace(BLANK_BIT);
                return true;
            }
            return false;
        }

        private boolean acceptsFirstOfSet(char sign) {
            if (sign != '-') {
                return acceptsLetterOfSet(sign);
            }
            turned = true;
            mode = SET_TURNED;
            return true;
        }

        private boolean acceptsLetterOfSet(char sign) {
            if (!isLetter(sign) || (set != 0 && sign <= lastOfSet)) {
                return false;
            }
            set |= 1 << (sign - 'a');
            lastOfSet = sign;
            mode = IN_SET;
            return true;
        }

        private boolean acceptsRestOfSet(char sign) {
            if (sign != ']') {
                return acceptsLetterOfSet(sign);
            }
            addPlace(turned ? ALL_LETTERS & ~set : set);
            return true;
        }

        private void addPlace(int signs) {
            if (placeCount >= 0 && placeCount < MOST_PLACES) {
                places[placeCount] = signs;
                placeCount++;
            }
            mode = AT_PLACE;
        }
    }

    /** A pattern, held both by places and by characters. */
    private static final class Pattern {
        private final int[] places = new int[MOST_PLACES];
        private final int placeCount;
        private final boolean bound;
        // For each character a bit for each place that takes it: what a step of a column needs.
        private final long[] placesTaking = new long[SIGNS];

        Pattern(int[] read, int readCount, boolean readBound) {
            int many = 0;
            for (int place = 0; place < MOST_PLACES && place < readCount && place < read.length; place++) {
                places[place] = read[place];
                for (int sign = 0; sign < SIGNS; sign++) {
                    placesTaking[sign] |= (long) (read[place] >> sign & 1) << place;
                }
                many++;
            }
            placeCount = many;
            bound = readBound;
        }

        int signsOf(int place) {
            return place >= 0 && place < MOST_PLACES ? places[place] : 0;
        }

        long placesThatTake(char character) {
            int sign = character == ' ' ? LETTERS : character - 'a';
            return sign >= 0 && sign < SIGNS ? placesTaking[sign] : 0L;
        }

        int countWild() {
            int wild = 0;
            for (int place = 0; place < placeCount; place++) {
                if (signsOf(place) == ALL_SIGNS) {
                    wild++;
                }
            }
            return wild;
        }

        boolean isPlain() {
            for (int place = 0; place < placeCount; place++) {
                if (Integer.bitCount(signsOf(place)) != 1) {
                    return false;
                }
            }
            return true;
        }
    }

    /** Finds the ends of a pattern in a text; its rows are made once, for all calls. */
    private static final class Search {
        // A key is the slips of a way, times KEY_SLIP, plus how far its beginning lies ahead of
        // KEY_ROOM: the least key has the fewest slips and, among those, the greatest beginning.
        private static final int KEY_SLIP = 128;
        private static final int KEY_ROOM = 127;

        // The bit i of a column here stands for the first i places, so the bit 0 for none of them.
        private final long[] columns = new long[MOST_SLIPS + 1];
        private final int[] keys = new int[MOST_PLACES + 1];
        private final int[] slipsAt = new int[MOST_CHARACTERS + 1];
        private final int[] beginningAt = new int[MOST_CHARACTERS + 1];
        private final boolean[] marked = new boolean[MOST_CHARACTERS + 1];
        private final char[] oldText = new char[MOST_CHARACTERS];
        private final int[] ends = new int[MOST_CHARACTERS + 1];
        private int listed = 0;

        void findEnds(State state, Pattern asked) {
            listed = 0;
            openColumns(state, asked);
            noteEnd(state, asked, 0);
            for (int place = 1; place <= state.length && place <= MOST_CHARACTERS; place++) {
                stepColumns(state, asked, place);
                noteEnd(state, asked, place);
            }
        }

        void findAlone(State state, Pattern asked) {
            findEnds(state, asked);
            findBeginnings(state, asked);
            int alone = 0;
            int lastEnd = 0;
            for (int rank = 0; rank < listed; rank++) {
                int place = tell(rank, 0);
                if (tell(rank, 2) >= lastEnd && alone <= MOST_CHARACTERS) {
                    ends[alone] = place;
                    alone++;
                    lastEnd = place;
                }
            }
            listed = alone;
        }

        long columnAt(State state, Pattern asked, int slips, int place) {
            openColumns(state, asked);
            for (int step = 1; step <= place && step <= MOST_CHARACTERS; step++) {
                stepColumns(state, asked, step);
            }
            return slips >= 0 && slips <= MOST_SLIPS ? columns[slips] >>> 1 : 0L;
        }

        private static long columnMask(Pattern asked) {
            return (2L << asked.placeCount) - 1L;
        }

        /** At the place 0 the first places fit as far as they may be left out. */
        private void openColumns(State state, Pattern asked) {
            long column = 1L;
            for (int slips = 0; slips <= MOST_SLIPS && slips <= state.mostSlips; slips++) {
                columns[slips] = column & columnMask(asked);
                column = column << 1 | 1L;
            }
        }

        private void stepColumns(State state, Pattern asked, int place) {
            long taking = asked.placesThatTake(state.signAt(place - 1));
            long begun = state.mayBegin(asked, place) ? 1L : 0L;
            long mask = columnMask(asked);
            long fewerBefore = 0L;
            long fewerNow = 0L;
            for (int slips = 0; slips <= MOST_SLIPS && slips <= state.mostSlips; slips++) {
                long before = columns[slips];
                long taken = (before & taking) << 1;
                long exchanged = fewerBefore << 1;
                long leftOut = fewerNow << 1;
                columns[slips] = (begun | taken | exchanged | fewerBefore | leftOut) & mask;
                fewerBefore = before;
                fewerNow = columns[slips];
            }
        }

        private void noteEnd(State state, Pattern asked, int place) {
            if (place < 0 || place > MOST_CHARACTERS) {
                return;
            }
            slipsAt[place] = fewestInColumns(state, asked);
            if (slipsAt[place] != NO_END && listed >= 0 && listed <= MOST_CHARACTERS) {
                ends[listed] = place;
                listed++;
            }
        }

        private int fewestInColumns(State state, Pattern asked) {
            for (int slips = 0; slips <= MOST_SLIPS && slips <= state.mostSlips; slips++) {
                if ((columns[slips] >>> asked.placeCount & 1L) != 0L) {
                    return slips;
                }
            }
            return NO_END;
        }

        /** A way with the fewest slips has the fewest at each of its steps, so the least key suffices. */
        void findBeginnings(State state, Pattern asked) {
            keys[0] = KEY_ROOM;
            for (int many = 1; many <= MOST_PLACES; many++) {
                keys[many] = keys[many - 1] + KEY_SLIP;
            }
            noteBeginning(asked, 0);
            for (int place = 1; place <= state.length && place <= MOST_CHARACTERS; place++) {
                stepKeys(state, asked, place);
                noteBeginning(asked, place);
            }
        }

        private void stepKeys(State state, Pattern asked, int place) {
            long taking = asked.placesThatTake(state.signAt(place - 1));
            int aslant = keys[0];
            keys[0] = state.mayBegin(asked, place) ? KEY_ROOM - place : keys[0] + KEY_SLIP;
            for (int many = 1; many <= MOST_PLACES && many <= asked.placeCount; many++) {
                boolean taken = (taking >>> (many - 1) & 1L) != 0L;
                int putIn = keys[many] + KEY_SLIP;
                int leftOut = keys[many - 1] + KEY_SLIP;
                int stood = taken ? aslant : aslant + KEY_SLIP;
                aslant = keys[many];
                keys[many] = Math.min(stood, Math.min(putIn, leftOut));
            }
        }

        private void noteBeginning(Pattern asked, int place) {
            int many = asked.placeCount;
            if (many >= 0 && many <= MOST_PLACES && place >= 0 && place <= MOST_CHARACTERS) {
                beginningAt[place] = KEY_ROOM - keys[many] % KEY_SLIP;
            }
        }

        /** The end of a rank (what 0), its slips (1) or its beginning (2). */
        int tell(int rank, int what) {
            if (rank < 0 || rank >= listed || rank > MOST_CHARACTERS) {
                return NONE;
            }
            int place = ends[rank];
            if (what == 0 || place < 0 || place > MOST_CHARACTERS) {
                return place;
            }
            return what == 1 ? slipsAt[place] : beginningAt[place];
        }

        int fewestSlips() {
            int fewest = NONE;
            for (int rank = 0; rank < listed; rank++) {
                int slips = tell(rank, 1);
                if (fewest == NONE || slips < fewest) {
                    fewest = slips;
                }
            }
            return fewest;
        }

        int firstWithFewest() {
            int fewest = fewestSlips();
            for (int rank = 0; rank < listed; rank++) {
                if (tell(rank, 1) == fewest) {
                    return tell(rank, 0);
                }
            }
            return NONE;
        }

        double sumOfShares() {
            double sum = 0.0;
            for (int rank = 0; rank < listed; rank++) {
                int parts = 1 + tell(rank, 1);
                if (parts > 0) {
                    sum += 1.0 / parts;
                }
            }
            return sum;
        }

        int lengthWithParts(int length) {
            int changed = length;
            for (int rank = 0; rank < listed; rank++) {
                changed += 1 - (tell(rank, 0) - tell(rank, 2));
            }
            return changed;
        }

        /** Needs parts that stand alone, and a text that has room for what it becomes. */
        void putLetterForParts(State state, char letter) {
            System.arraycopy(state.text, 0, oldText, 0, MOST_CHARACTERS);
            int oldLength = state.length;
            int copied = 0;
            state.length = 0;
            for (int rank = 0; rank <= listed; rank++) {
                boolean isPart = rank < listed;
                int stop = isPart ? tell(rank, 2) : oldLength;
                for (int place = copied; place >= 0 && place < stop && place < MOST_CHARACTERS; place++) {
                    state.append(oldText[place]);
                }
                if (isPart) {
                    state.append(letter);
                    copied = tell(rank, 0);
                }
            }
        }

        void clearMarks() {
            for (int place = 0; place <= MOST_CHARACTERS; place++) {
                marked[place] = false;
            }
        }

        void markEnds() {
            for (int rank = 0; rank < listed; rank++) {
                int place = tell(rank, 0);
                if (place >= 0 && place <= MOST_CHARACTERS) {
                    marked[place] = true;
                }
            }
        }

        int countMarks() {
            int marks = 0;
            for (int place = 0; place <= MOST_CHARACTERS; place++) {
                if (marked[place]) {
                    marks++;
                }
            }
            return marks;
        }
    }

    /** How a part of a text fits a pattern. */
    private static final class Way {
        // A way is one number: its slips in the highest bits, then those of each kind. None of
        // them exceeds the 120 characters of a text, so that seven bits hold each.
        private static final int FIELD = 7;
        private static final int FIELD_MASK = (1 << FIELD) - 1;
        private static final int ALL_SHIFT = 3 * FIELD;
        private static final int PUT_IN = (1 << ALL_SHIFT) + (1 << 2 * FIELD);
        private static final int LEFT_OUT = (1 << ALL_SHIFT) + (1 << FIELD);
        private static final int EXCHANGED = (1 << ALL_SHIFT) + 1;

        private final int[] ways = new int[MOST_PLACES + 1];

        /** All slips (what 0), characters put in (1), places left out (2) or exchanges (3). */
        int countSlips(State state, Pattern asked, int from, int to, int what) {
            ways[0] = 0;
            for (int many = 1; many <= MOST_PLACES; many++) {
                ways[many] = ways[many - 1] + LEFT_OUT;
            }
            for (int place = from + 1; place <= to && place <= MOST_CHARACTERS; place++) {
                stepWays(state, asked, place);
            }
            int many = asked.placeCount;
            int found = many >= 0 && many <= MOST_PLACES ? ways[many] : 0;
            return found >> (3 - what) * FIELD & FIELD_MASK;
        }

        /** What a way takes last depends on its own end alone, so the counts can go forward. */
        private void stepWays(State state, Pattern asked, int place) {
            long taking = asked.placesThatTake(state.signAt(place - 1));
            int aslant = ways[0];
            ways[0] = ways[0] + PUT_IN;
            for (int many = 1; many <= MOST_PLACES && many <= asked.placeCount; many++) {
                boolean taken = (taking >>> (many - 1) & 1L) != 0L;
                int stood = taken ? aslant : aslant + EXCHANGED;
                int putIn = ways[many] + PUT_IN;
                int leftOut = ways[many - 1] + LEFT_OUT;
                aslant = ways[many];
                ways[many] = firstOfFewest(firstOfFewest(stood, putIn), leftOut);
            }
        }

        private static int firstOfFewest(int preferred, int other) {
            return other >> ALL_SHIFT < preferred >> ALL_SHIFT ? other : preferred;
        }
    }
}
