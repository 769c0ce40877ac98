import java.util.Arrays;

/**
 * A house for stories. A SOURCE is fed to the tape and built into a story for a small machine (a tree
 * of objects, a dictionary, packed text, routines); then the story is played, a LINE at a time.
 */
public final class StoryHouse {
    public static final int NONE = -1;

    private static final int TAPE_LIMIT = 16000;
    private static final int LINE_LIMIT = 120;
    private static final int OUT_LIMIT = 3000;
    private static final int STRING_LIMIT = 200;
    private static final int NAME_LIMIT = 12;
    private static final int TERM_LIMIT = 9;
    private static final int TERMS = 12;
    private static final int PLACES = 4;
    private static final int UNDOS = 5;

    private static final int PLAYER = 1;
    private static final int OBJECTS = 120;
    private static final int VERBS = 60;
    private static final int VARS = 100;
    private static final int ARRAYS = 20;
    private static final int ARRAY_CELLS = 400;
    private static final int CELLS = 1000;
    private static final int DEFS = 100;
    private static final int LIST = 6;
    private static final int LOCALS = 14;
    private static final int ROUTINE_BYTES = 4000;
    private static final int ONS = 200;
    private static final int EACHS = 20;
    private static final int OWN_WORDS = 10;
    private static final int NEST = 30;
    private static final int CALLS = 30;
    private static final int WORK = 20000;

    // What told() counts, and where a story keeps its counts.
    private static final int COUNT_OBJECTS = 0;
    private static final int COUNT_VERBS = 1;
    private static final int COUNT_VARS = 2;
    private static final int COUNT_ARRAYS = 3;
    private static final int COUNT_DEFS = 4;
    private static final int COUNT_ONS = 5;
    private static final int COUNT_EACHS = 6;
    private static final int COUNTS = 7;

    // Kinds of words. A sign of one byte has that byte as its kind, a key KEY and its place in the four lists.
    private static final int END = 0;
    private static final int BAD = 1;
    private static final int NAME = 2;
    private static final int NUMBER = 3;
    private static final int STRING = 4;
    private static final int SAME = 5;
    private static final int OTHER = 6;
    private static final int AT_MOST = 7;
    private static final int AT_LEAST = 8;
    private static final int KEY = 200;
    private static final String WORLD_KEYS =
            "north south east west up down container fixed hidden light open supporter dark alone one two ";
    private static final String VALUE_KEYS = "and or not in has holder first next random here noun second player name ";
    private static final String ITEM_KEYS = "room thing verb var array def on each text exit word ";
    private static final String STATEMENT_KEYS =
            "say let move to remove set clear if else while return done win lose any all ";
    private static final int KEY_COUNT = 57;
    private static final int NORTH = KEY;
    private static final int DOWN = KEY + 5;
    private static final int CONTAINER = KEY + 6;
    private static final int SUPPORTER = KEY + 11;
    private static final int DARK = KEY + 12;
    private static final int ALONE = KEY + 13;
    private static final int ONE = KEY + 14;
    private static final int TWO = KEY + 15;
    private static final int AND = KEY + 16;
    private static final int OR = KEY + 17;
    private static final int NOT = KEY + 18;
    private static final int IN = KEY + 19;
    private static final int HAS = KEY + 20;
    private static final int HOLDER = KEY + 21;
    private static final int FIRST = KEY + 22;
    private static final int NEXT = KEY + 23;
    private static final int RANDOM = KEY + 24;
    private static final int HERE = KEY + 25;
    private static final int NOUN = KEY + 26;
    private static final int SECOND = KEY + 27;
    private static final int PLAYER_KEY = KEY + 28;
    private static final int NAME_KEY = KEY + 29;
    private static final int ROOM = KEY + 30;
    private static final int THING = KEY + 31;
    private static final int VERB = KEY + 32;
    private static final int VAR = KEY + 33;
    private static final int ARRAY = KEY + 34;
    private static final int DEF = KEY + 35;
    private static final int ON = KEY + 36;
    private static final int EACH = KEY + 37;
    private static final int TEXT = KEY + 38;
    private static final int EXIT = KEY + 39;
    private static final int WORD = KEY + 40;
    private static final int SAY = KEY + 41;
    private static final int LET = KEY + 42;
    private static final int MOVE = KEY + 43;
    private static final int TO = KEY + 44;
    private static final int REMOVE = KEY + 45;
    private static final int SET = KEY + 46;
    private static final int CLEAR = KEY + 47;
    private static final int IF = KEY + 48;
    private static final int ELSE = KEY + 49;
    private static final int WHILE = KEY + 50;
    private static final int RETURN = KEY + 51;
    private static final int DONE = KEY + 52;
    private static final int WIN = KEY + 53;
    private static final int LOSE = KEY + 54;
    private static final int ANY = KEY + 55;

    // Attributes, as has() numbers them.
    private static final int IS_CONTAINER = 0;
    private static final int IS_FIXED = 1;
    private static final int IS_HIDDEN = 2;
    private static final int IS_LIGHT = 3;
    private static final int IS_OPEN = 4;
    private static final int IS_SUPPORTER = 5;
    private static final int IS_DARK = 6;

    // The verbs that every story has.
    private static final String VERB_NAMES = "look inventory wait take drop examine open close putin puton go ";
    private static final int LOOK_VERB = 1;
    private static final int INVENTORY_VERB = 2;
    private static final int WAIT_VERB = 3;
    private static final int TAKE_VERB = 4;
    private static final int DROP_VERB = 5;
    private static final int EXAMINE_VERB = 6;
    private static final int OPEN_VERB = 7;
    private static final int CLOSE_VERB = 8;
    private static final int PUTIN_VERB = 9;
    private static final int PUTON_VERB = 10;
    private static final int GO_VERB = 11;
    private static final int FORM_ALONE = 0;
    private static final int FORM_ONE = 1;
    private static final int FORM_TWO = 2;

    // Words that every dictionary learns first, so that their numbers are these.
    private static final String FIXED_WORDS =
            "again g it all the a an me go north south east west up down n s e w u d ";
    private static final int WORD_AGAIN = 0;
    private static final int WORD_G = 1;
    private static final int WORD_IT = 2;
    private static final int WORD_ALL = 3;
    private static final int WORD_THE = 4;
    private static final int WORD_AN = 6;
    private static final int WORD_GO = 8;
    private static final int WORD_NORTH = 9;
    private static final int DIRECTIONS = 6;

    // Instructions of one byte.
    private static final int OP_END = 0;
    private static final int OP_DROP = 1;
    private static final int OP_RETURN = 2;
    private static final int OP_PASS = 3;
    private static final int OP_DONE = 4;
    private static final int OP_WIN = 5;
    private static final int OP_LOSE = 6;
    private static final int OP_TRUTH = 7;
    private static final int OP_NOT = 8;
    private static final int OP_NEGATE = 9;
    private static final int OP_ADD = 10;
    private static final int OP_SUBTRACT = 11;
    private static final int OP_MULTIPLY = 12;
    private static final int OP_DIVIDE = 13;
    private static final int OP_REST = 14;
    private static final int OP_SAME = 15;
    private static final int OP_OTHER = 16;
    private static final int OP_LESS = 17;
    private static final int OP_AT_MOST = 18;
    private static final int OP_MORE = 19;
    private static final int OP_AT_LEAST = 20;
    private static final int OP_SAY_NAME = 21;
    private static final int OP_REMOVE = 22;
    private static final int OP_IN = 23;
    private static final int OP_HOLDER = 24;
    private static final int OP_FIRST = 25;
    private static final int OP_NEXT = 26;
    private static final int OP_RANDOM = 27;
    private static final int OP_HERE = 28;
    private static final int OP_NOUN = 29;
    private static final int OP_SECOND = 30;
    private static final int OP_SAY_NUMBER = 31;
    private static final int OP_MOVE = 32;
    // Instructions with two bytes behind.
    private static final int OP_PUSH = 33;
    private static final int OP_VAR = 34;
    private static final int OP_LOCAL = 35;
    private static final int OP_CELL = 36;
    private static final int OP_SET_VAR = 37;
    private static final int OP_SET_LOCAL = 38;
    private static final int OP_SET_CELL = 39;
    private static final int OP_CALL = 40;
    private static final int OP_JUMP = 41;
    private static final int OP_JUMP_FALSE = 42;
    private static final int OP_AND = 43;
    private static final int OP_OR = 44;
    private static final int OP_SAY_TEXT = 45;
    private static final int OP_HAS = 46;
    private static final int OP_SET = 47;
    private static final int OP_CLEAR = 48;
    // These stand only until the names in the code have got their meanings.
    private static final int OP_LOAD = 49;
    private static final int OP_STORE = 50;

    // What a NAME means.
    private static final int SORT_ROOM = 1;
    private static final int SORT_THING = 2;
    private static final int SORT_VERB = 3;
    private static final int SORT_VAR = 4;
    private static final int SORT_ARRAY = 5;
    private static final int SORT_DEF = 6;
    private static final int SORT_LOCAL = 7;

    // How a routine came to its end.
    private static final int GOES_ON = 0;
    private static final int FINISHED = 1;
    private static final int WAS_DONE = 2;
    private static final int ENDED = 3;
    private static final int BROKEN = 4;

    // What enter() answers.
    private static final int NO_COMMAND = 0;
    private static final int COMMAND = 1;
    private static final int BREAKS = 2;
    private static final int OVER = 3;

    private final byte[] tape = new byte[TAPE_LIMIT];
    private int tapeLength;
    private final Words words = new Words();
    private final Grammar grammar = new Grammar(words);
    private final Meanings meanings = new Meanings(words);
    private Story story = new Story();
    // A story is made here, so that the built one stays if there is a fault.
    private Story draft = new Story();
    private boolean built;
    private boolean playing;
    private int faultPlace = NONE;
    private final Out told = new Out();
    private final Play play = new Play();
    private final Machine machine = new Machine(play, told);
    private final Teller teller = new Teller(play, told, machine);
    private final Play[] saved = new Play[PLACES];
    private final boolean[] isSaved = new boolean[PLACES];
    // One more than can be undone: the play ahead of the command that goes on stands there.
    private final Play[] past = new Play[UNDOS + 1];
    private int newestPast;
    private int undoable;

    public StoryHouse() {
        for (int i = 0; i < PLACES; i++) {
            saved[i] = new Play();
        }
        for (int i = 0; i < UNDOS + 1; i++) {
            past[i] = new Play();
        }
        machine.story = story;
        teller.story = story;
    }

    public int feed(long row, int n) throws IllegalArgumentException, IllegalStateException {
        if (n < 1 || n > 8) {
            throw new IllegalArgumentException("n is not 1 .. 8");
        }
        for (int i = 0; i < n; i++) {
            if (!isTapeByte(byteOf(row, i))) {
                throw new IllegalArgumentException("a byte is none of the tape's");
            }
        }
        if (tapeLength + n > TAPE_LIMIT) {
            throw new IllegalStateException("the tape is full");
        }
        for (int i = 0; i < n; i++) {
            tape[tapeLength] = (byte) byteOf(row, i);
            tapeLength++;
        }
        return tapeLength;
    }

    public int build() {
        words.cut(tape, tapeLength);
        tapeLength = 0;
        faultPlace = NONE;
        draft.clear();
        int fault = grammar.readAll(draft.code);
        if (fault != 0) {
            faultPlace = grammar.faultPlace;
            return -fault;
        }
        fault = meanings.giveAll(draft);
        if (fault != 0) {
            faultPlace = meanings.faultPlace;
            return -fault;
        }
        draft.code.link(words);
        draft.texts.packAll(words);
        openHouse();
        return story.counts[COUNT_OBJECTS];
    }

    public int place() {
        return faultPlace;
    }

    public void begin(int seed) throws IllegalStateException {
        if (!built) {
            throw new IllegalStateException("nothing is built");
        }
        told.wipe();
        undoable = 0;
        play.start(story, seed);
        playing = true;
        teller.look();
    }

    public int enter() throws IllegalStateException {
        needPlay();
        told.wipe();
        int length = tapeLength;
        tapeLength = 0;
        if (!teller.listen(tape, length) || !teller.understand()) {
            return play.ended != 0 ? OVER : NO_COMMAND;
        }
        int slot = (newestPast + 1) % (UNDOS + 1);
        past[slot].copy(play);
        teller.act();
        if (machine.broke != 0) {
            play.copy(past[slot]);
            teller.tellBreak();
            return BREAKS;
        }
        newestPast = slot;
        undoable = Math.min(UNDOS, undoable + 1);
        return play.ended != 0 ? OVER : COMMAND;
    }

    public int size() {
        return told.length;
    }

    public int out(int i) throws IndexOutOfBoundsException {
        if (i < 0 || i >= told.length) {
            throw new IndexOutOfBoundsException("there is no such byte");
        }
        return told.bytes[i];
    }

    public void save(int place) throws IndexOutOfBoundsException, IllegalStateException {
        needPlace(place);
        needPlay();
        saved[place].copy(play);
        isSaved[place] = true;
    }

    public void restore(int place) throws IndexOutOfBoundsException, IllegalStateException {
        needPlace(place);
        if (!isSaved[place]) {
            throw new IllegalStateException("nothing was saved there");
        }
        told.wipe();
        undoable = 0;
        play.copy(saved[place]);
        playing = true;
    }

    public boolean undo() throws IllegalStateException {
        needPlay();
        told.wipe();
        if (undoable == 0) {
            return false;
        }
        play.copy(past[newestPast]);
        newestPast = (newestPast + UNDOS) % (UNDOS + 1);
        undoable--;
        return true;
    }

    public int holder(int object) throws IndexOutOfBoundsException, IllegalStateException {
        needObject(object);
        needPlay();
        return at(play.parents, object);
    }

    public int first(int object, boolean next) throws IndexOutOfBoundsException, IllegalStateException {
        needObject(object);
        needPlay();
        return next ? at(play.nexts, object) : at(play.firsts, object);
    }

    public boolean has(int object, int attribute)
            throws IndexOutOfBoundsException, IllegalArgumentException, IllegalStateException {
        needObject(object);
        if (attribute < IS_CONTAINER || attribute > IS_DARK) {
            throw new IllegalArgumentException("there is no such attribute");
        }
        needPlay();
        return play.bears(object, attribute);
    }

    public int value(int k) throws IndexOutOfBoundsException, IllegalStateException {
        if (!built || k < 0 || k >= story.counts[COUNT_VARS]) {
            throw new IndexOutOfBoundsException("there is no such var");
        }
        needPlay();
        return at(play.vars, k);
    }

    public int cell(int k, int i) throws IndexOutOfBoundsException, IllegalStateException {
        if (!built || k < 0 || k >= story.counts[COUNT_ARRAYS] || story.cellOf(k, i) == NONE) {
            throw new IndexOutOfBoundsException("there is no such cell");
        }
        needPlay();
        return at(play.cells, story.cellOf(k, i));
    }

    public int told(int what) throws IllegalArgumentException {
        if (what < 0 || what > 11) {
            throw new IllegalArgumentException("what is not 0 .. 11");
        }
        if (!built) {
            return 0;
        }
        if (what < COUNTS) {
            return at(story.counts, what);
        }
        if (!playing) {
            return 0;
        }
        switch (what) {
            case 7:
                return play.turns;
            case 8:
                return play.ended;
            case 9:
                return play.it;
            case 10:
                return undoable;
            default:
                return play.seed;
        }
    }

    public boolean sound() {
        if (!built) {
            return true;
        }
        if (!story.dictionary.isInOrder() || !story.code.isWhole(story.counts) || !story.texts.isFaithful()) {
            return false;
        }
        if (!playing) {
            return true;
        }
        return play.isTree(story.counts[COUNT_OBJECTS]) && (play.ended != 0 || machine.waits());
    }

    /** The draft becomes the story, and what belonged to the one before is gone. */
    private void openHouse() {
        Story old = story;
        story = draft;
        draft = old;
        built = true;
        playing = false;
        undoable = 0;
        for (int i = 0; i < PLACES; i++) {
            isSaved[i] = false;
        }
        machine.story = story;
        teller.story = story;
    }

    private void needPlay() {
        if (!playing) {
            throw new IllegalStateException("nothing is played");
        }
    }

    private void needPlace(int place) {
        if (place < 0 || place >= PLACES) {
            throw new IndexOutOfBoundsException("there is no such place");
        }
    }

    private void needObject(int object) {
        if (!built || object < 1 || object > story.counts[COUNT_OBJECTS]) {
            throw new IndexOutOfBoundsException("there is no such object");
        }
    }

    private static int byteOf(long row, int i) {
        return (int) (row >>> (8 * i)) & 255;
    }

    private static boolean isTapeByte(int c) {
        return c == 10 || c >= 32 && c <= 126;
    }

    private static boolean isLetter(int c) {
        return c >= 'a' && c <= 'z';
    }

    private static boolean isFigure(int c) {
        return c >= '0' && c <= '9';
    }

    /** A letter's or figure's number in a packed name: 1 .. 36; 0 stands behind the name. */
    private static int nameSign(int c) {
        return isLetter(c) ? c - 'a' + 1 : c - '0' + 27;
    }

    /** A text of letters from one place to another, packed as a NAME of so many signs. */
    private static long packed(String text, int from, int to, int width) {
        long name = 0;
        for (int i = 0; i < width; i++) {
            int at = from + i;
            boolean isThere = at >= 0 && at < to && at < text.length();
            name = name * 37 + (isThere ? nameSign(text.charAt(at)) : 0);
        }
        return name;
    }

    /** Where the word of a list that begins there ends: at the next blank. */
    private static int wordEnd(String list, int from) {
        for (int i = Math.max(0, from); i < list.length(); i++) {
            if (list.charAt(i) == ' ') {
                return i;
            }
        }
        return list.length();
    }

    private static int at(int[] row, int i) {
        return i >= 0 && i < row.length ? row[i] : 0;
    }

    private static void put(int[] row, int i, int number) {
        if (i >= 0 && i < row.length) {
            row[i] = number;
        }
    }

    /** What is told since the latest call that tells; what is beyond the limit is lost. */
    private static final class Out {
        final byte[] bytes = new byte[OUT_LIMIT];
        int length;

        void wipe() {
            length = 0;
        }

        void sign(int c) {
            if (length >= 0 && length < bytes.length) {
                bytes[length] = (byte) c;
                length++;
            }
        }

        void text(String text) {
            for (int i = 0; i < text.length(); i++) {
                sign(text.charAt(i));
            }
        }

        void line(String text) {
            text(text);
            sign('\n');
        }

        void row(byte[] row, int n) {
            int count = Math.min(Math.min(n, row.length), bytes.length - length);
            if (count > 0 && length >= 0) {
                System.arraycopy(row, 0, bytes, length, count);
                length += count;
            }
        }

        void number(int n) {
            if (n < 0) {
                sign('-');
            }
            int left = Math.abs(n);
            for (int unit = 10000; unit > 0; unit /= 10) {
                if (left >= unit || unit == 1) {
                    sign('0' + left / unit % 10);
                }
            }
        }
    }

    /** The words of a SOURCE, one behind the other; each NAME has a number. */
    private static final class Words {
        // A source of 16000 bytes has room for fewer different names than these, with the keys.
        static final int NAMES = 4500;
        private static final int SLOTS = 8192;

        final byte[] source = new byte[TAPE_LIMIT];
        int length;
        int count;
        private final int[] kinds = new int[TAPE_LIMIT + 1];
        private final int[] places = new int[TAPE_LIMIT + 1];
        private final int[] values = new int[TAPE_LIMIT + 1];
        // What the grammar has seen of a word: how many stand in the list behind it, or its last }.
        final int[] notes = new int[TAPE_LIMIT + 1];
        // What a NAME in a block means: its sort * 65536 and its number.
        final int[] meanings = new int[TAPE_LIMIT + 1];
        private final long[] names = new long[NAMES];
        private final int[] slots = new int[SLOTS];
        private int named;
        private int strings;

        /** Cuts a source into words; the first word that can't be is BAD, and the last but END. */
        void cut(byte[] tape, int bytes) {
            length = Math.max(0, Math.min(bytes, Math.min(tape.length, source.length)));
            System.arraycopy(tape, 0, source, 0, length);
            count = 0;
            strings = 0;
            named = 0;
            Arrays.fill(slots, 0);
            learn(WORLD_KEYS);
            learn(VALUE_KEYS);
            learn(ITEM_KEYS);
            learn(STATEMENT_KEYS);
            learn(VERB_NAMES);
            int at = skip(0);
            for (int n = 0; n < length && at < length; n++) {
                at = skip(word(at));
            }
            add(END, length, 0);
        }

        int kindOf(int i) {
            return i >= 0 && i < count && i < kinds.length ? kinds[i] : END;
        }

        int placeOf(int i) {
            return i >= 0 && i < count ? at(places, i) : length;
        }

        /** A NAME's number, a NUMBER itself, which STRING it is (from 0). */
        int worthOf(int i) {
            return i >= 0 && i < count ? at(values, i) : 0;
        }

        /** The NAME with a number as a dictionary has it: nine signs of it count. */
        long termOf(int name) {
            long packed = name >= 0 && name < named && name < names.length ? names[name] : 0;
            return packed / (37 * 37 * 37);
        }

        /** The number of a packed NAME, a new one if it was not there. */
        int numberOf(long packed) {
            int slot = (int) (packed * 0x9E3779B97F4A7C15L >>> 40) & (SLOTS - 1);
            for (int n = 0; n < SLOTS; n++) {
                int i = (slot + n) & (SLOTS - 1);
                int number = at(slots, i) - 1;
                if (number < 0) {
                    return rememberName(i, packed);
                }
                if (number < names.length && names[number] == packed) {
                    return number;
                }
            }
            return 0;
        }

        private int rememberName(int slot, long packed) {
            if (named >= names.length) {
                return 0;
            }
            names[named] = packed;
            named++;
            put(slots, slot, named);
            return named - 1;
        }

        /** The keys come first of all names, so that a name's number tells if it is a key. */
        private void learn(String list) {
            int from = 0;
            for (int n = 0; n < list.length() && from < list.length(); n++) {
                int to = wordEnd(list, from);
                numberOf(packed(list, from, to, NAME_LIMIT));
                from = to + 1;
            }
        }

        /** The first byte of a word, from a place on. */
        private int skip(int from) {
            boolean remark = false;
            for (int i = Math.max(0, from); i < length && i < source.length; i++) {
                int c = source[i];
                if (c == '\n') {
                    remark = false;
                } else if (c == '#') {
                    remark = true;
                } else if (c != ' ' && !remark) {
                    return i;
                }
            }
            return length;
        }

        private int signAt(int i) {
            return i >= 0 && i < length && i < source.length ? source[i] : 0;
        }

        /** Takes the word that begins there; answers where it ends. */
        private int word(int at) {
            int c = signAt(at);
            if (isLetter(c)) {
                return name(at);
            }
            if (isFigure(c)) {
                return number(at);
            }
            return c == '"' ? string(at) : sign(at);
        }

        private int name(int at) {
            int end = at;
            long packed = 0;
            for (; end < length && (isLetter(signAt(end)) || isFigure(signAt(end))); end++) {
                packed = packed * 37 + nameSign(signAt(end));
            }
            if (end - at > NAME_LIMIT) {
                return bad(at);
            }
            for (int i = end - at; i < NAME_LIMIT; i++) {
                packed *= 37;
            }
            int number = numberOf(packed);
            return add(number < KEY_COUNT ? KEY + number : NAME, at, number) + end - at;
        }

        private int number(int at) {
            int end = at;
            int number = 0;
            for (; end < length && isFigure(signAt(end)); end++) {
                number = Math.min(32768, number * 10 + signAt(end) - '0');
            }
            return number > 32767 ? bad(at) : add(NUMBER, at, number) + end - at;
        }

        private int string(int at) {
            int end = at + 1;
            for (; end < length && signAt(end) != '"' && signAt(end) != '\n'; end++) {
                if (end - at > STRING_LIMIT) {
                    return bad(at);
                }
            }
            if (signAt(end) != '"') {
                return bad(at);
            }
            strings++;
            return add(STRING, at, strings - 1) + end + 1 - at;
        }

        private int sign(int at) {
            int c = signAt(at);
            if (signAt(at + 1) == '=') {
                int twin = c == '=' ? SAME : c == '!' ? OTHER : c == '<' ? AT_MOST : c == '>' ? AT_LEAST : NONE;
                if (twin != NONE) {
                    return add(twin, at, 0) + 2;
                }
            }
            return "{}()[];,=<>+-*/%".indexOf((char) c) >= 0 ? add(c, at, 0) + 1 : bad(at);
        }

        private int bad(int at) {
            add(BAD, at, 0);
            return length;
        }

        private int add(int kind, int place, int value) {
            if (count >= 0 && count < kinds.length) {
                kinds[count] = kind;
                put(places, count, place);
                put(values, count, value);
                put(notes, count, 0);
                put(meanings, count, 0);
                count++;
            }
            return place;
        }
    }

    /** The first going through: whether each word fits where it stands; the blocks become code. */
    private static final class Grammar {
        private final Words words;
        private Code code;
        // The word that is looked at, and its kind.
        private int at;
        private int kind;
        private int nest;
        private int fault;
        private int faultWord;
        int faultPlace;

        Grammar(Words words) {
            this.words = words;
        }

        /** Reads all words; answers the fault's number, 0 for none. */
        int readAll(Code into) {
            code = into;
            at = 0;
            kind = words.kindOf(0);
            nest = 0;
            fault = 0;
            for (int n = 0; n < words.count && kind != END; n++) {
                item();
            }
            // A word that can't be fits nowhere, so it is found where it stands, but by its own number.
            if (fault != 0 && words.kindOf(faultWord) == BAD) {
                fault = 1;
            }
            faultPlace = fault != 0 ? words.placeOf(faultWord) : NONE;
            return fault;
        }

        private void item() {
            int word = at;
            int key = kind;
            needFrom(ROOM, EACH);
            switch (key) {
                case ROOM:
                    roomItem();
                    break;
                case THING:
                    thingItem();
                    break;
                case VERB:
                    verbItem();
                    break;
                case VAR:
                    varItem();
                    break;
                case ARRAY:
                    arrayItem();
                    break;
                case DEF:
                    defHead();
                    break;
                case ON:
                    onHead();
                    break;
                case EACH:
                    code.openEach();
                    break;
                default:
                    break;
            }
            if (key >= DEF && key <= EACH) {
                block();
                endRoutine(word);
            }
        }

        private void endRoutine(int word) {
            code.add(OP_END);
            code.shutRoutine();
            put(words.notes, word, at - 1);
        }

        private boolean isFrom(int low, int high) {
            return kind >= low && kind <= high;
        }

        private void pass() {
            if (at >= 0 && at < words.count - 1 && at + 1 < words.kinds.length) {
                at++;
                kind = words.kinds[at];
            }
        }

        private boolean accept(int wanted) {
            if (kind != wanted) {
                return false;
            }
            pass();
            return true;
        }

        private void need(int wanted) {
            if (kind == wanted) {
                pass();
            } else {
                fail(2);
            }
        }

        private void needFrom(int low, int high) {
            if (isFrom(low, high)) {
                pass();
            } else {
                fail(2);
            }
        }

        /** Only the first fault counts. At the END nothing more is read, so that all readers come back. */
        private void fail(int number) {
            if (fault == 0) {
                fault = number;
                faultWord = at;
            }
            at = words.count - 1;
            kind = END;
        }

        /** Passes a word, or a bracket, behind which one more stands open. */
        private void deepen() {
            nest++;
            if (nest > NEST) {
                fail(5);
            } else {
                pass();
            }
        }

        private void open(int bracket) {
            if (kind == bracket) {
                deepen();
            } else {
                fail(2);
            }
        }

        private void shut(int bracket) {
            nest--;
            need(bracket);
        }

        private void roomItem() {
            need(NAME);
            need(STRING);
            open('{');
            for (int n = 0; n < words.count && kind != '}' && kind != END; n++) {
                if (accept(TEXT)) {
                    need(STRING);
                } else if (accept(EXIT)) {
                    needFrom(NORTH, DOWN);
                    need(NAME);
                } else {
                    need(DARK);
                }
                need(';');
            }
            shut('}');
        }

        private void thingItem() {
            need(NAME);
            need(STRING);
            open('{');
            for (int n = 0; n < words.count && kind != '}' && kind != END; n++) {
                if (accept(TEXT)) {
                    need(STRING);
                } else if (accept(IN)) {
                    need(kind == PLAYER_KEY ? PLAYER_KEY : NAME);
                } else if (accept(WORD)) {
                    names();
                } else {
                    needFrom(CONTAINER, SUPPORTER);
                }
                need(';');
            }
            shut('}');
        }

        /** NAMES parted by commas; answers how many. */
        private int names() {
            need(NAME);
            int count = 1;
            for (; count < words.count && accept(','); count++) {
                need(NAME);
            }
            return count;
        }

        private void verbItem() {
            need(NAME);
            names();
            if (accept(TWO)) {
                need(NAME);
            } else {
                needFrom(ALONE, ONE);
            }
            need(';');
        }

        private void varItem() {
            need(NAME);
            need('=');
            accept('-');
            need(NUMBER);
            need(';');
        }

        private void arrayItem() {
            need(NAME);
            open('[');
            need(NUMBER);
            shut(']');
            need(';');
        }

        private void defHead() {
            need(NAME);
            open('(');
            int count = kind == ')' ? 0 : names();
            shut(')');
            code.openDef(count);
        }

        private void onHead() {
            need(NAME);
            for (int n = 0; n < 2 && (kind == ANY || kind == NAME || kind == PLAYER_KEY || isFrom(NORTH, DOWN)); n++) {
                pass();
            }
            code.openOn();
        }

        private void block() {
            open('{');
            for (int n = 0; n < words.count && kind != '}' && kind != END; n++) {
                statement();
            }
            shut('}');
        }

        private void statement() {
            int op = plainOp(kind);
            if (kind == IF) {
                pass();
                ifStatement();
                return;
            }
            if (kind == WHILE) {
                pass();
                whileStatement();
                return;
            }
            if (op != NONE) {
                pass();
                plainStatement(op);
            } else if (accept(SAY)) {
                say();
            } else if (accept(LET)) {
                let();
            } else if (kind == NAME) {
                named();
            } else {
                fail(2);
            }
            need(';');
        }

        private static int plainOp(int key) {
            switch (key) {
                case MOVE:
                    return OP_MOVE;
                case REMOVE:
                    return OP_REMOVE;
                case SET:
                    return OP_SET;
                case CLEAR:
                    return OP_CLEAR;
                case RETURN:
                    return OP_RETURN;
                case DONE:
                    return OP_DONE;
                case WIN:
                    return OP_WIN;
                case LOSE:
                    return OP_LOSE;
                default:
                    return NONE;
            }
        }

        /** A statement of a key, at most two expressions, and an instruction. */
        private void plainStatement(int op) {
            if (op != OP_DONE && op != OP_WIN && op != OP_LOSE) {
                expression();
            }
            if (op == OP_MOVE) {
                need(TO);
                expression();
            }
            if (op == OP_SET || op == OP_CLEAR) {
                attribute(op);
            } else {
                code.add(op);
            }
        }

        private void say() {
            boolean more = true;
            for (int n = 0; n < words.count && more; n++) {
                if (kind == STRING) {
                    code.add(OP_SAY_TEXT, words.worthOf(at));
                    pass();
                } else if (accept(NAME_KEY)) {
                    primary();
                    code.add(OP_SAY_NAME);
                } else {
                    expression();
                    code.add(OP_SAY_NUMBER);
                }
                more = accept(',');
            }
        }

        private void let() {
            int name = at;
            need(NAME);
            need('=');
            expression();
            code.add(OP_STORE, name);
        }

        /** A statement that begins with a NAME: a call, a cell or a var that gets a number. */
        private void named() {
            int name = at;
            pass();
            if (kind == '(') {
                arguments(name);
                code.add(OP_DROP);
            } else if (kind == '[') {
                index();
                need('=');
                expression();
                code.add(OP_SET_CELL, name);
            } else {
                need('=');
                expression();
                code.add(OP_STORE, name);
            }
        }

        private void attribute(int op) {
            code.add(op, kind - CONTAINER);
            if (isFrom(CONTAINER, SUPPORTER)) {
                pass();
            } else {
                fail(2);
            }
        }

        /** What is behind an if. */
        private void ifStatement() {
            expression();
            int otherwise = code.add(OP_JUMP_FALSE, 0);
            block();
            if (!accept(ELSE)) {
                code.aim(otherwise);
                return;
            }
            int over = code.add(OP_JUMP, 0);
            code.aim(otherwise);
            if (kind == IF) {
                deepen();
                ifStatement();
                nest--;
            } else {
                block();
            }
            code.aim(over);
        }

        private void whileStatement() {
            int again = code.length;
            expression();
            int over = code.add(OP_JUMP_FALSE, 0);
            code.add(OP_PASS);
            block();
            code.add(OP_JUMP, again);
            code.aim(over);
        }

        private void expression() {
            both();
            for (int n = 0; n < words.count && accept(OR); n++) {
                int over = code.add(OP_OR, 0);
                both();
                code.add(OP_TRUTH);
                code.aim(over);
            }
        }

        private void both() {
            step();
            for (int n = 0; n < words.count && accept(AND); n++) {
                int over = code.add(OP_AND, 0);
                step();
                code.add(OP_TRUTH);
                code.aim(over);
            }
        }

        private void step() {
            if (kind == NOT) {
                deepen();
                step();
                nest--;
                code.add(OP_NOT);
                return;
            }
            sum();
            int op = comparing(kind);
            if (op == OP_HAS) {
                pass();
                attribute(op);
            } else if (op != NONE) {
                pass();
                sum();
                code.add(op);
            }
        }

        private static int comparing(int sign) {
            switch (sign) {
                case SAME:
                    return OP_SAME;
                case OTHER:
                    return OP_OTHER;
                case '<':
                    return OP_LESS;
                case AT_MOST:
                    return OP_AT_MOST;
                case '>':
                    return OP_MORE;
                case AT_LEAST:
                    return OP_AT_LEAST;
                case IN:
                    return OP_IN;
                case HAS:
                    return OP_HAS;
                default:
                    return NONE;
            }
        }

        private void sum() {
            term();
            for (int n = 0; n < words.count && (kind == '+' || kind == '-'); n++) {
                int op = kind == '+' ? OP_ADD : OP_SUBTRACT;
                pass();
                term();
                code.add(op);
            }
        }

        private void term() {
            factor();
            for (int n = 0; n < words.count && (kind == '*' || kind == '/' || kind == '%'); n++) {
                int op = kind == '*' ? OP_MULTIPLY : kind == '/' ? OP_DIVIDE : OP_REST;
                pass();
                factor();
                code.add(op);
            }
        }

        private void factor() {
            if (kind == '-') {
                deepen();
                factor();
                nest--;
                code.add(OP_NEGATE);
            } else {
                primary();
            }
        }

        private void primary() {
            int key = kind;
            int word = at;
            switch (key) {
                case NUMBER:
                    pass();
                    code.add(OP_PUSH, words.worthOf(word));
                    break;
                case NAME:
                    pass();
                    if (kind == '(') {
                        arguments(word);
                    } else if (kind == '[') {
                        index();
                        code.add(OP_CELL, word);
                    } else {
                        code.add(OP_LOAD, word);
                    }
                    break;
                case '(':
                    deepen();
                    expression();
                    nest--;
                    need(')');
                    break;
                case PLAYER_KEY:
                    pass();
                    code.add(OP_PUSH, PLAYER);
                    break;
                case HERE:
                case NOUN:
                case SECOND:
                    pass();
                    code.add(OP_HERE + key - HERE);
                    break;
                case HOLDER:
                case FIRST:
                case NEXT:
                case RANDOM:
                    deepen();
                    primary();
                    nest--;
                    code.add(OP_HOLDER + key - HOLDER);
                    break;
                default:
                    fail(2);
            }
        }

        private void arguments(int name) {
            int count = 0;
            deepen();
            if (kind != ')') {
                expression();
                for (count = 1; count < words.count && accept(','); count++) {
                    expression();
                }
            }
            nest--;
            need(')');
            put(words.notes, name, count);
            code.add(OP_CALL, name);
        }

        private void index() {
            deepen();
            expression();
            nest--;
            need(']');
        }
    }

    /** The second going, which counts what is told, and the third, which gives each NAME its meaning. */
    private static final class Meanings {
        private static final int BEFORE_ALL = 0;
        private static final int TOLD_NOWHERE = TAPE_LIMIT + 1;

        private final Words words;
        private Story story;
        // Of each name: the word with which an item first tells it, what it is, and its number.
        private final int[] toldAt = new int[Words.NAMES];
        private final int[] sorts = new int[Words.NAMES];
        private final int[] numbers = new int[Words.NAMES];
        // Of each name that is seen in a block: 1 and its number in the routine.
        private final int[] seen = new int[Words.NAMES];
        private final int[] seenNames = new int[LOCALS];
        private int seenCount;
        private int slots;
        private int pendingLet;
        private final int[] marks = new int[NEST + 1];
        private int depth;
        private int routine;
        private int object;
        private int owned;
        private int ons;
        private int fault;
        int faultPlace;

        Meanings(Words words) {
            this.words = words;
        }

        /** Goes through all words twice, and fills the story; answers the fault's number, 0 for none. */
        int giveAll(Story draft) {
            story = draft;
            fault = 0;
            faultPlace = NONE;
            gatherItems();
            startGoing();
            for (int i = 0; i < words.count && fault == 0; i++) {
                tellWord(i);
                followScope(i);
            }
            startGoing();
            for (int i = 0; i < words.count && fault == 0; i++) {
                if (routine != 0 && depth > 0) {
                    bodyWord(i);
                } else {
                    itemWord(i);
                }
                followScope(i);
            }
            if (fault == 0 && (!story.hasRoom() || story.hasCircle())) {
                fail(6, words.count - 1);
            }
            return fault;
        }

        private void fail(int number, int word) {
            if (fault == 0) {
                fault = number;
                faultPlace = words.placeOf(word);
            }
        }

        /** A let may not bear the name of an item that is told behind it, so all are gathered first. */
        private void gatherItems() {
            Arrays.fill(toldAt, TOLD_NOWHERE);
            Arrays.fill(sorts, 0);
            Arrays.fill(seen, 0);
            int from = 0;
            for (int verb = 1; verb <= GO_VERB; verb++) {
                int to = wordEnd(VERB_NAMES, from);
                int name = words.numberOf(packed(VERB_NAMES, from, to, NAME_LIMIT));
                put(toldAt, name, BEFORE_ALL);
                put(sorts, name, SORT_VERB);
                put(numbers, name, verb);
                from = to + 1;
            }
            for (int i = 0; i < words.count; i++) {
                int kind = words.kindOf(i);
                int name = words.worthOf(i + 1);
                if (kind >= ROOM && kind <= DEF && at(toldAt, name) == TOLD_NOWHERE) {
                    put(toldAt, name, i + 1);
                }
            }
        }

        private void startGoing() {
            seenCount = 0;
            slots = 0;
            pendingLet = NONE;
            depth = 0;
            routine = 0;
            ons = 0;
        }

        private void tellWord(int i) {
            switch (words.kindOf(i)) {
                case ROOM:
                    tellItem(i + 1, SORT_ROOM, COUNT_OBJECTS, OBJECTS);
                    break;
                case THING:
                    tellItem(i + 1, SORT_THING, COUNT_OBJECTS, OBJECTS);
                    owned = 0;
                    break;
                case WORD:
                    countOwned(i + 1);
                    break;
                case VERB:
                    tellVerb(i);
                    break;
                case VAR:
                    tellItem(i + 1, SORT_VAR, COUNT_VARS, VARS);
                    break;
                case ARRAY:
                    tellArray(i);
                    break;
                case DEF:
                    tellDef(i);
                    break;
                case ON:
                    tellRule(i, COUNT_ONS, ONS);
                    break;
                case EACH:
                    tellRule(i, COUNT_EACHS, EACHS);
                    break;
                case LET:
                    tellLocal(i + 1, slots < LOCALS);
                    break;
                default:
                    break;
            }
        }

        /** An item's NAME: objects and verbs are numbered from 1, all others from 0. */
        private void tellItem(int word, int sort, int what, int limit) {
            int name = words.worthOf(word);
            if (at(toldAt, name) < word) {
                fail(4, word);
            } else if (at(story.counts, what) >= limit) {
                fail(5, word);
            } else {
                put(story.counts, what, at(story.counts, what) + 1);
                put(sorts, name, sort);
                put(numbers, name, at(story.counts, what) - (sort <= SORT_VERB ? 0 : 1));
            }
        }

        /** The words of a thing or verb from a place on; answers what stands behind them. */
        private int countOwned(int from) {
            int i = from;
            for (; i < words.count && (words.kindOf(i) == NAME || words.kindOf(i) == ','); i++) {
                owned += words.kindOf(i) == NAME ? 1 : 0;
                if (owned > OWN_WORDS) {
                    fail(5, i);
                    return i;
                }
            }
            return i;
        }

        private void tellVerb(int i) {
            tellItem(i + 1, SORT_VERB, COUNT_VERBS, VERBS);
            if (fault == 0) {
                owned = 0;
                int form = countOwned(i + 2);
                // An on may stand ahead of its verb, so the form is known already in the third going.
                put(story.forms, at(story.counts, COUNT_VERBS), words.kindOf(form) - ALONE);
            }
        }

        private void tellArray(int i) {
            tellItem(i + 1, SORT_ARRAY, COUNT_ARRAYS, ARRAYS);
            int size = words.worthOf(i + 3);
            int number = at(story.counts, COUNT_ARRAYS) - 1;
            int sum = number > 0 ? at(story.cellEnds, number - 1) : 0;
            if (size < 1 || size > ARRAY_CELLS || sum + size > CELLS) {
                fail(5, i + 3);
            }
            put(story.cellEnds, number, sum + size);
        }

        private void tellDef(int i) {
            tellItem(i + 1, SORT_DEF, COUNT_DEFS, DEFS);
            if (isTooLong(i)) {
                fail(5, i + 1);
            }
            slots = 0;
            for (int j = i + 3; j < words.count && words.kindOf(j) == NAME; j += 2) {
                tellLocal(j, slots < LIST);
                see(words.worthOf(j));
            }
        }

        private void tellRule(int i, int what, int limit) {
            if (at(story.counts, what) >= limit || isTooLong(i)) {
                fail(5, i);
            }
            put(story.counts, what, at(story.counts, what) + 1);
        }

        private boolean isTooLong(int word) {
            return words.placeOf(at(words.notes, word)) + 1 - words.placeOf(word) > ROUTINE_BYTES;
        }

        private void tellLocal(int word, boolean hasPlace) {
            int name = words.worthOf(word);
            if (at(toldAt, name) != TOLD_NOWHERE || at(seen, name) != 0) {
                fail(4, word);
            } else if (!hasPlace) {
                fail(5, word);
            }
        }

        /** Follows, in both goings, which names are seen: a let's from behind its ; to its block's end. */
        private void followScope(int i) {
            switch (words.kindOf(i)) {
                case DEF:
                case ON:
                case EACH:
                    routine = words.kindOf(i);
                    break;
                case LET:
                    pendingLet = words.worthOf(i + 1);
                    break;
                case ';':
                    if (pendingLet != NONE) {
                        see(pendingLet);
                    }
                    pendingLet = NONE;
                    break;
                case '{':
                    put(marks, depth, seenCount);
                    depth++;
                    break;
                case '}':
                    shutBlock();
                    break;
                default:
                    break;
            }
        }

        private void see(int name) {
            slots++;
            put(seen, name, slots);
            put(seenNames, seenCount, name);
            seenCount++;
        }

        private void shutBlock() {
            depth--;
            int left = depth > 0 ? at(marks, depth) : 0;
            for (int i = left; i < seenCount; i++) {
                put(seen, at(seenNames, i), 0);
            }
            seenCount = left;
            if (depth == 0) {
                routine = 0;
                slots = 0;
            }
        }

        private int sortOf(int word) {
            int name = words.worthOf(word);
            if (words.kindOf(word) != NAME) {
                return 0;
            }
            return at(seen, name) != 0 ? SORT_LOCAL : at(sorts, name);
        }

        private int numberOf(int word) {
            int name = words.worthOf(word);
            return at(seen, name) != 0 ? at(seen, name) - 1 : at(numbers, name);
        }

        private void itemWord(int i) {
            int kind = words.kindOf(i);
            if (kind >= CONTAINER && kind <= DARK) {
                put(story.traits, object, at(story.traits, object) | 1 << (kind - CONTAINER));
                return;
            }
            switch (kind) {
                case ROOM:
                case THING:
                    object = numberOf(i + 1);
                    story.addObject(object, kind == ROOM, words.worthOf(i + 2));
                    break;
                case TEXT:
                    put(story.described, object, words.worthOf(i + 1));
                    break;
                case EXIT:
                    exitPart(i);
                    break;
                case IN:
                    inPart(i + 1);
                    break;
                case WORD:
                    ownWords(object, i + 1);
                    break;
                case VERB:
                    verbItem(i);
                    break;
                case VAR:
                    varItem(i);
                    break;
                case DEF:
                    for (int j = i + 3; j < words.count && words.kindOf(j) == NAME; j += 2) {
                        see(words.worthOf(j));
                    }
                    break;
                case ON:
                    onItem(i);
                    break;
                default:
                    break;
            }
        }

        private void exitPart(int i) {
            if (sortOf(i + 2) != SORT_ROOM) {
                fail(3, i + 2);
            }
            put(story.exits, object * DIRECTIONS + words.kindOf(i + 1) - NORTH, numberOf(i + 2));
        }

        private void inPart(int word) {
            int sort = sortOf(word);
            boolean player = words.kindOf(word) == PLAYER_KEY;
            if (!player && sort != SORT_ROOM && sort != SORT_THING) {
                fail(3, word);
            }
            put(story.starts, object, player ? PLAYER : numberOf(word));
        }

        /** Gives words to an object or verb; answers what stands behind them. */
        private int ownWords(int owner, int from) {
            int i = from;
            for (; i < words.count && (words.kindOf(i) == NAME || words.kindOf(i) == ','); i++) {
                if (words.kindOf(i) == NAME) {
                    story.addWord(owner, words.termOf(words.worthOf(i)));
                }
            }
            return i;
        }

        private void verbItem(int i) {
            int verb = numberOf(i + 1);
            int form = ownWords(OBJECTS + verb, i + 2);
            if (words.kindOf(form) == TWO) {
                put(story.joints, verb, story.dictionary.learn(words.termOf(words.worthOf(form + 1))));
            }
        }

        private void varItem(int i) {
            boolean minus = words.kindOf(i + 3) == '-';
            int number = words.worthOf(minus ? i + 4 : i + 3);
            put(story.initials, numberOf(i + 1), minus ? -number : number);
        }

        private void onItem(int i) {
            if (sortOf(i + 1) != SORT_VERB) {
                fail(3, i + 1);
                return;
            }
            int verb = numberOf(i + 1);
            put(story.onVerbs, ons, verb);
            put(story.onFirsts, ons, whatOf(verb, i + 2, 1));
            put(story.onSeconds, ons, words.kindOf(i + 2) == '{' ? NONE : whatOf(verb, i + 3, 2));
            ons++;
        }

        /** What a WHAT stands for: 0 for any, NONE if there is none. */
        private int whatOf(int verb, int word, int which) {
            int kind = words.kindOf(word);
            if (kind == '{') {
                return NONE;
            }
            if (which > at(story.forms, verb)) {
                fail(3, word);
            }
            if (kind == ANY) {
                return 0;
            }
            if (verb == GO_VERB && kind >= NORTH && kind <= DOWN) {
                return kind - NORTH + 1;
            }
            if (verb != GO_VERB && kind == PLAYER_KEY) {
                return PLAYER;
            }
            if (verb == GO_VERB || sortOf(word) != SORT_THING) {
                fail(3, word);
            }
            return numberOf(word);
        }

        private void bodyWord(int i) {
            int kind = words.kindOf(i);
            if (kind == NAME) {
                nameInBody(i);
            } else if (kind == RETURN && routine != DEF || kind == DONE && routine == DEF) {
                fail(3, i);
            }
        }

        private void nameInBody(int i) {
            if (words.kindOf(i - 1) == LET) {
                put(words.meanings, i, SORT_LOCAL << 16 | slots);
                return;
            }
            int sort = sortOf(i);
            int number = numberOf(i);
            boolean isWanted;
            switch (words.kindOf(i + 1)) {
                case '(':
                    isWanted = sort == SORT_DEF && at(words.notes, i) == at(story.code.lists, number);
                    break;
                case '[':
                    isWanted = sort == SORT_ARRAY;
                    break;
                case '=':
                    isWanted = sort == SORT_VAR || sort == SORT_LOCAL;
                    break;
                default:
                    isWanted = sort == SORT_ROOM || sort == SORT_THING || sort == SORT_VAR || sort == SORT_LOCAL;
            }
            if (!isWanted) {
                fail(3, i);
            }
            put(words.meanings, i, sort << 16 | number);
        }
    }

    /** A story as it was built: what never changes while it is played. */
    private static final class Story {
        final int[] counts = new int[COUNTS];
        final boolean[] rooms = new boolean[OBJECTS + 1];
        // Which texts: what an object is called, and how it is described (NONE if it is not).
        final int[] called = new int[OBJECTS + 1];
        final int[] described = new int[OBJECTS + 1];
        final int[] starts = new int[OBJECTS + 1];
        final int[] traits = new int[OBJECTS + 1];
        final int[] exits = new int[(OBJECTS + 1) * DIRECTIONS];
        final int[] forms = new int[VERBS + 1];
        final int[] joints = new int[VERBS + 1];
        // The words of objects, then of verbs, by their numbers in the dictionary.
        private final int[] owned = new int[(OBJECTS + VERBS + 1) * OWN_WORDS];
        private final int[] ownedCounts = new int[OBJECTS + VERBS + 1];
        final int[] initials = new int[VARS];
        final int[] cellEnds = new int[ARRAYS];
        final int[] onVerbs = new int[ONS];
        final int[] onFirsts = new int[ONS];
        final int[] onSeconds = new int[ONS];
        final Code code = new Code();
        final Texts texts = new Texts();
        final Dictionary dictionary = new Dictionary();

        /** Makes it a story with nothing of its own: the player, and the verbs that each story has. */
        void clear() {
            Arrays.fill(counts, 0);
            counts[COUNT_OBJECTS] = PLAYER;
            counts[COUNT_VERBS] = GO_VERB;
            Arrays.fill(called, NONE);
            Arrays.fill(described, NONE);
            Arrays.fill(starts, 0);
            Arrays.fill(traits, 0);
            Arrays.fill(exits, 0);
            Arrays.fill(ownedCounts, 0);
            for (int i = 0; i < rooms.length; i++) {
                rooms[i] = false;
            }
            code.wipe();
            texts.wipe();
            dictionary.wipe();
            learnOwned(0, FIXED_WORDS);
            addWord(PLAYER, packed("me", 0, 2, TERM_LIMIT));
            addVerb(LOOK_VERB, FORM_ALONE, "look l ");
            addVerb(INVENTORY_VERB, FORM_ALONE, "inventory i ");
            addVerb(WAIT_VERB, FORM_ALONE, "wait z ");
            addVerb(TAKE_VERB, FORM_ONE, "take get ");
            addVerb(DROP_VERB, FORM_ONE, "drop ");
            addVerb(EXAMINE_VERB, FORM_ONE, "examine x ");
            addVerb(OPEN_VERB, FORM_ONE, "open ");
            addVerb(CLOSE_VERB, FORM_ONE, "close ");
            addVerb(PUTIN_VERB, FORM_TWO, "put ");
            addVerb(PUTON_VERB, FORM_TWO, "put ");
            joints[PUTIN_VERB] = dictionary.learn(packed("in", 0, 2, TERM_LIMIT));
            joints[PUTON_VERB] = dictionary.learn(packed("on", 0, 2, TERM_LIMIT));
            // A go is understood by itself, so it has no words; its direction counts as its noun.
            addVerb(GO_VERB, FORM_ONE, "");
        }

        void addObject(int object, boolean room, int text) {
            if (object >= 0 && object < rooms.length) {
                rooms[object] = room;
            }
            put(called, object, text);
        }

        private void addVerb(int verb, int form, String list) {
            put(forms, verb, form);
            learnOwned(OBJECTS + verb, list);
        }

        /** Learns the words of a list, for the owner with that number; nobody owns them if it is 0. */
        private void learnOwned(int owner, String list) {
            int from = 0;
            for (int n = 0; n < list.length() && from < list.length(); n++) {
                int to = wordEnd(list, from);
                addWord(owner, packed(list, from, to, TERM_LIMIT));
                from = to + 1;
            }
        }

        void addWord(int owner, long term) {
            int number = dictionary.learn(term);
            int count = at(ownedCounts, owner);
            if (owner > 0 && count < OWN_WORDS) {
                put(owned, owner * OWN_WORDS + count, number);
                put(ownedCounts, owner, count + 1);
            }
        }

        boolean owns(int owner, int word) {
            int count = at(ownedCounts, owner);
            for (int i = 0; i < count && i < OWN_WORDS; i++) {
                if (at(owned, owner * OWN_WORDS + i) == word) {
                    return true;
                }
            }
            return false;
        }

        boolean isObject(int number) {
            return number >= 1 && number <= counts[COUNT_OBJECTS];
        }

        boolean isRoom(int object) {
            return object >= 0 && object < rooms.length && rooms[object];
        }

        int exitOf(int room, int direction) {
            return direction >= 1 && direction <= DIRECTIONS ? at(exits, room * DIRECTIONS + direction - 1) : 0;
        }

        /** Where a cell of an array stands among all cells; NONE if the array has no such cell. */
        int cellOf(int array, int i) {
            int begin = array > 0 ? at(cellEnds, array - 1) : 0;
            int size = at(cellEnds, array) - begin;
            return i >= 0 && i < size ? begin + i : NONE;
        }

        boolean hasRoom() {
            return firstRoom() != 0;
        }

        int firstRoom() {
            for (int i = 1; i <= OBJECTS && i <= counts[COUNT_OBJECTS]; i++) {
                if (isRoom(i)) {
                    return i;
                }
            }
            return 0;
        }

        /** Whether some thing is told to be in itself, or in what is in it. */
        boolean hasCircle() {
            for (int i = 1; i <= OBJECTS && i <= counts[COUNT_OBJECTS]; i++) {
                int up = i;
                for (int n = 0; n <= OBJECTS && up != 0; n++) {
                    up = at(starts, up);
                }
                if (up != 0) {
                    return true;
                }
            }
            return false;
        }
    }

    /** The routines of a story: defs, ons and eachs. An operand is two bytes, the higher one first. */
    private static final class Code {
        // No source of 16000 bytes has more code: a byte of it makes less than two and a half.
        private static final int BYTES = 40000;
        static final int FIRST_ON = DEFS;
        static final int FIRST_EACH = DEFS + ONS;
        private static final int ROUTINES = DEFS + ONS + EACHS;

        private final byte[] bytes = new byte[BYTES];
        int length;
        private final int[] begins = new int[ROUTINES];
        private final int[] ends = new int[ROUTINES];
        // How many numbers a def gets.
        final int[] lists = new int[DEFS];
        private int defs;
        private int ons;
        private int eachs;
        private int current;

        void wipe() {
            length = 0;
            defs = 0;
            ons = 0;
            eachs = 0;
            current = NONE;
        }

        void openDef(int list) {
            put(lists, defs, list);
            open(defs < DEFS ? defs : NONE);
            defs++;
        }

        void openOn() {
            open(ons < ONS ? FIRST_ON + ons : NONE);
            ons++;
        }

        void openEach() {
            open(eachs < EACHS ? FIRST_EACH + eachs : NONE);
            eachs++;
        }

        private void open(int routine) {
            current = routine;
            put(begins, current, length);
        }

        void shutRoutine() {
            put(ends, current, length);
        }

        int beginOf(int routine) {
            return at(begins, routine);
        }

        void add(int op) {
            if (length >= 0 && length < bytes.length) {
                bytes[length] = (byte) op;
                length++;
            }
        }

        /** Adds an instruction with an operand; answers where the operand stands. */
        int add(int op, int operand) {
            if (length >= 0 && length + 2 < bytes.length) {
                bytes[length] = (byte) op;
                bytes[length + 1] = (byte) (operand >> 8);
                bytes[length + 2] = (byte) operand;
                length += 3;
            }
            return length - 2;
        }

        /** The jump whose operand stands there leads to what comes next. */
        void aim(int place) {
            setPair(place, length);
        }

        int byteAt(int i) {
            return i >= 0 && i < length && i < bytes.length ? bytes[i] & 255 : 0;
        }

        int pairAt(int i) {
            return byteAt(i) << 8 | byteAt(i + 1);
        }

        private void setByte(int i, int number) {
            if (i >= 0 && i < bytes.length) {
                bytes[i] = (byte) number;
            }
        }

        private void setPair(int i, int pair) {
            if (i >= 0 && i + 1 < bytes.length) {
                bytes[i] = (byte) (pair >> 8);
                bytes[i + 1] = (byte) pair;
            }
        }

        private static int widthOf(int op) {
            return op >= OP_PUSH ? 3 : 1;
        }

        /** Puts what the names mean where the code has had only which words they are. */
        void link(Words words) {
            int i = 0;
            for (int n = 0; n < BYTES && i < length; n++) {
                int op = byteAt(i);
                if (op == OP_LOAD || op == OP_STORE || op == OP_CELL || op == OP_SET_CELL || op == OP_CALL) {
                    int meaning = at(words.meanings, pairAt(i + 1));
                    setByte(i, linked(op, meaning >> 16));
                    setPair(i + 1, meaning);
                }
                i += widthOf(op);
            }
        }

        private static int linked(int op, int sort) {
            if (op == OP_STORE) {
                return sort == SORT_VAR ? OP_SET_VAR : OP_SET_LOCAL;
            }
            if (op == OP_LOAD) {
                return sort == SORT_VAR ? OP_VAR : sort == SORT_LOCAL ? OP_LOCAL : OP_PUSH;
            }
            return op;
        }

        /** Whether each routine is read from its first byte to its last, and jumps within itself. */
        boolean isWhole(int[] counts) {
            return areRead(0, at(counts, COUNT_DEFS)) && areRead(FIRST_ON, at(counts, COUNT_ONS))
                    && areRead(FIRST_EACH, at(counts, COUNT_EACHS));
        }

        private boolean areRead(int first, int count) {
            for (int r = first; r < first + count && r < ROUTINES; r++) {
                int end = at(ends, r);
                int i = at(begins, r);
                for (int n = 0; n < BYTES && i < end; n++) {
                    int op = byteAt(i);
                    boolean jumps = op >= OP_JUMP && op <= OP_OR;
                    if (op > OP_CLEAR || jumps && (pairAt(i + 1) < at(begins, r) || pairAt(i + 1) >= end)) {
                        return false;
                    }
                    i += widthOf(op);
                }
                if (i != end) {
                    return false;
                }
            }
            return true;
        }
    }

    /**
     * The STRINGS of a story, packed: a sign is one code of five bits, or two; three codes stand in a
     * unit, whose highest bit tells a text's end.
     */
    private static final class Texts {
        // The signs by their codes: of those from the 30th on, a shift stands ahead.
        private static final String SIGNS = " \nabcdefghijklmnopqrstuvwxyz.!#$%&'()*+,-/0123456789:;<=>?@ABCDEFGHIJKLMNOPQRSTUVWXYZ[\\]_`{|}~";
        private static final int SINGLES = 29;
        private static final int LAST_SHIFT = 31;
        private static final int LAST_UNIT = 1 << 15;
        // A text has fewer units than it has bytes in the source, its quotes with them.
        private static final int UNITS = TAPE_LIMIT;
        private static final int STRINGS = TAPE_LIMIT / 2;

        private final char[] units = new char[UNITS];
        private int unitCount;
        private int gathered;
        private int gatheredCodes;
        private final int[] begins = new int[STRINGS];
        private final int[] toldPlaces = new int[STRINGS];
        private int count;
        // The source, against which sound() holds what is unpacked.
        private final byte[] source = new byte[TAPE_LIMIT];
        private final byte[] row = new byte[STRING_LIMIT];

        void wipe() {
            unitCount = 0;
            count = 0;
        }

        void packAll(Words words) {
            System.arraycopy(words.source, 0, source, 0, Math.min(words.length, source.length));
            for (int i = 0; i < words.count; i++) {
                if (words.kindOf(i) == STRING) {
                    pack(words.placeOf(i) + 1);
                }
            }
        }

        private void pack(int from) {
            put(begins, count, unitCount);
            put(toldPlaces, count, from);
            count++;
            gathered = 0;
            gatheredCodes = 0;
            for (int i = from; i < source.length && source[i] != '"'; i++) {
                int index = SIGNS.indexOf((char) signOf(i));
                if (index >= SINGLES) {
                    gather(SINGLES + (index - SINGLES) / 32);
                    gather((index - SINGLES) % 32);
                } else {
                    gather(index);
                }
            }
            shutText();
        }

        /** A byte of the source as it is told: ^ is a new line. */
        private int signOf(int i) {
            int c = i >= 0 && i < source.length ? source[i] : 0;
            return c == '^' ? '\n' : c;
        }

        /** A unit is put down only when it is known that more codes come, so that the last one is marked. */
        private void gather(int code) {
            if (gatheredCodes == 3) {
                putUnit(gathered);
                gathered = 0;
                gatheredCodes = 0;
            }
            gathered = gathered << 5 | code;
            gatheredCodes++;
        }

        /** Behind a text stand shifts without a sign, which tell nothing. */
        private void shutText() {
            for (int n = gatheredCodes; n < 3; n++) {
                gathered = gathered << 5 | LAST_SHIFT;
            }
            putUnit(gathered | LAST_UNIT);
        }

        private void putUnit(int unit) {
            if (unitCount >= 0 && unitCount < units.length) {
                units[unitCount] = (char) unit;
                unitCount++;
            }
        }

        /** Unpacks a text into a row of at least 200 bytes; answers how many it has. */
        int unpack(int text, byte[] into) {
            int begin = text >= 0 && text < count && text < begins.length ? begins[text] : unitCount;
            int length = 0;
            int shift = NONE;
            for (int i = begin; i < unitCount && i < units.length; i++) {
                for (int bits = 10; bits >= 0; bits -= 5) {
                    int code = units[i] >> bits & 31;
                    if (shift == NONE && code >= SINGLES) {
                        shift = code - SINGLES;
                        continue;
                    }
                    int index = shift == NONE ? code : SINGLES + shift * 32 + code;
                    shift = NONE;
                    if (index < SIGNS.length() && length < into.length) {
                        into[length] = (byte) SIGNS.charAt(index);
                        length++;
                    }
                }
                if ((units[i] & LAST_UNIT) != 0) {
                    return length;
                }
            }
            return length;
        }

        /** Whether each text unpacks to what was told. */
        boolean isFaithful() {
            for (int t = 0; t < count; t++) {
                int length = unpack(t, row);
                int from = at(toldPlaces, t);
                for (int i = 0; i < length && i < row.length; i++) {
                    if (row[i] != signOf(from + i)) {
                        return false;
                    }
                }
                if (signOf(from + length) != '"') {
                    return false;
                }
            }
            return true;
        }
    }

    /** The words that can be understood, in order; each keeps the number with which it was learned. */
    private static final class Dictionary {
        // More than the words that all objects and verbs, and all forms, can have together.
        private static final int WORDS = 2000;

        private final long[] terms = new long[WORDS];
        private final int[] numbers = new int[WORDS];
        private int count;

        void wipe() {
            count = 0;
        }

        /** Where a term stands, or where it would stand. */
        private int placeOf(long term) {
            int low = 0;
            int high = count;
            for (int n = 0; n < WORDS && low < high; n++) {
                int middle = (low + high) / 2;
                if (middle >= 0 && middle < terms.length && terms[middle] < term) {
                    low = middle + 1;
                } else {
                    high = middle;
                }
            }
            return low;
        }

        private long termAt(int i) {
            return i >= 0 && i < count && i < terms.length ? terms[i] : 0;
        }

        /** A term's number; NONE if it is not there. */
        int find(long term) {
            int place = placeOf(term);
            return place < count && termAt(place) == term ? at(numbers, place) : NONE;
        }

        /** A term's number, a new one if it was not there. */
        int learn(long term) {
            int place = placeOf(term);
            if (place < count && termAt(place) == term) {
                return at(numbers, place);
            }
            if (place < 0 || count < place || count + 1 >= terms.length) {
                return NONE;
            }
            System.arraycopy(terms, place, terms, place + 1, count - place);
            System.arraycopy(numbers, place, numbers, place + 1, count - place);
            terms[place] = term;
            numbers[place] = count;
            count++;
            return count - 1;
        }

        /** Whether the words stand in order, each once. */
        boolean isInOrder() {
            for (int i = 1; i < count; i++) {
                if (termAt(i - 1) >= termAt(i)) {
                    return false;
                }
            }
            return true;
        }
    }

    /** A play as it stands between two commands: all that is saved, taken up again, and undone. */
    private static final class Play {
        final int[] parents = new int[OBJECTS + 1];
        final int[] firsts = new int[OBJECTS + 1];
        final int[] nexts = new int[OBJECTS + 1];
        private final int[] traits = new int[OBJECTS + 1];
        final int[] vars = new int[VARS];
        final int[] cells = new int[CELLS];
        // The latest line that was a command.
        final byte[] line = new byte[LINE_LIMIT];
        int lineLength;
        int seed;
        int turns;
        int ended;
        int it;

        void copy(Play other) {
            System.arraycopy(other.parents, 0, parents, 0, parents.length);
            System.arraycopy(other.firsts, 0, firsts, 0, firsts.length);
            System.arraycopy(other.nexts, 0, nexts, 0, nexts.length);
            System.arraycopy(other.traits, 0, traits, 0, traits.length);
            System.arraycopy(other.vars, 0, vars, 0, vars.length);
            System.arraycopy(other.cells, 0, cells, 0, cells.length);
            System.arraycopy(other.line, 0, line, 0, line.length);
            lineLength = other.lineLength;
            seed = other.seed;
            turns = other.turns;
            ended = other.ended;
            it = other.it;
        }

        void start(Story story, int newSeed) {
            Arrays.fill(parents, 0);
            Arrays.fill(firsts, 0);
            Arrays.fill(nexts, 0);
            System.arraycopy(story.traits, 0, traits, 0, traits.length);
            System.arraycopy(story.initials, 0, vars, 0, vars.length);
            Arrays.fill(cells, 0);
            lineLength = 0;
            seed = newSeed;
            turns = 0;
            ended = 0;
            it = 0;
            moveInto(PLAYER, story.firstRoom());
            for (int i = PLAYER + 1; i <= OBJECTS && story.isObject(i); i++) {
                if (at(story.starts, i) != 0) {
                    moveInto(i, at(story.starts, i));
                }
            }
        }

        int here() {
            return parents[PLAYER];
        }

        void moveInto(int object, int holder) {
            takeOut(object);
            put(nexts, object, at(firsts, holder));
            put(firsts, holder, object);
            put(parents, object, holder);
        }

        void takeOut(int object) {
            int holder = at(parents, object);
            if (holder == 0) {
                return;
            }
            if (at(firsts, holder) == object) {
                put(firsts, holder, at(nexts, object));
            } else {
                int left = at(firsts, holder);
                for (int n = 0; n < OBJECTS && left != 0 && at(nexts, left) != object; n++) {
                    left = at(nexts, left);
                }
                put(nexts, left, at(nexts, object));
            }
            put(nexts, object, 0);
            put(parents, object, 0);
        }

        /** Whether the first is the second, or in it, by however many. */
        boolean isWithin(int object, int other) {
            int up = object;
            for (int n = 0; n <= OBJECTS && up != 0; n++) {
                if (up == other) {
                    return true;
                }
                up = at(parents, up);
            }
            return false;
        }

        boolean bears(int object, int trait) {
            return (at(traits, object) >> trait & 1) != 0;
        }

        void give(int object, int trait, boolean yes) {
            int bit = 1 << trait;
            put(traits, object, yes ? at(traits, object) | bit : at(traits, object) & ~bit);
        }

        boolean showsInside(int object) {
            int openContainer = 1 << IS_CONTAINER | 1 << IS_OPEN;
            int has = at(traits, object);
            return (has & 1 << IS_SUPPORTER) != 0 || (has & openContainer) == openContainer;
        }

        /** By way of what a thing is seen: the player or the room; 0 if it is not seen. */
        int sightOf(int thing) {
            int up = thing;
            for (int n = 0; n <= OBJECTS && up != 0; n++) {
                if (bears(up, IS_HIDDEN)) {
                    return 0;
                }
                up = at(parents, up);
                if (up == PLAYER || up == here()) {
                    return up;
                }
                if (!showsInside(up)) {
                    return 0;
                }
            }
            return 0;
        }

        boolean isLight() {
            if (!bears(here(), IS_DARK)) {
                return true;
            }
            for (int i = 1; i <= OBJECTS; i++) {
                if (bears(i, IS_LIGHT) && sightOf(i) != 0) {
                    return true;
                }
            }
            return false;
        }

        boolean isInScope(int thing, boolean light) {
            int sight = sightOf(thing);
            return thing == PLAYER || sight == PLAYER || light && sight != 0;
        }

        /** Whether each object stands in the tree just once: in nothing, or once in what it is in. */
        boolean isTree(int objects) {
            int inSomething = 0;
            int listed = 0;
            for (int i = 1; i <= objects && i <= OBJECTS; i++) {
                inSomething += at(parents, i) != 0 ? 1 : 0;
                if (at(parents, i) > objects || !endsAbove(i)) {
                    return false;
                }
                int child = at(firsts, i);
                for (int n = 0; n < objects && child != 0; n++) {
                    if (at(parents, child) != i) {
                        return false;
                    }
                    listed++;
                    child = at(nexts, child);
                }
                if (child != 0) {
                    return false;
                }
            }
            return listed == inSomething;
        }

        private boolean endsAbove(int object) {
            int up = object;
            for (int n = 0; n <= OBJECTS && up != 0; n++) {
                up = at(parents, up);
            }
            return up == 0;
        }
    }

    /** The machine that runs a story's routines, on a stack of its own. */
    private static final class Machine {
        // Far above what 20000 passes and calls can need.
        private static final int STEPS = 1000000000;
        // Thirty-one routines, each with its locals and what thirty open brackets can leave waiting.
        private static final int STACK = 9000;

        private final Play play;
        private final Out told;
        Story story;
        int noun;
        int second;
        // The number of the break, 0 for none.
        int broke;
        private final int[] stack = new int[STACK];
        private int top;
        private int base;
        private int pc;
        private final int[] returns = new int[CALLS];
        private final int[] bases = new int[CALLS];
        private int depth;
        private int work;
        private int how = FINISHED;
        private final byte[] row = new byte[STRING_LIMIT];

        Machine(Play play, Out told) {
            this.play = play;
            this.told = told;
        }

        /** A turn begins. */
        void ready() {
            broke = 0;
            work = 0;
        }

        /** Whether no routine is under way. */
        boolean waits() {
            return how != GOES_ON && depth == 0 && base == 0 && top == 0;
        }

        /** Runs a routine that is no def; answers how it came to its end. */
        int run(int routine) {
            pc = story.code.beginOf(routine);
            base = 0;
            top = LOCALS;
            depth = 0;
            how = GOES_ON;
            for (int n = 0; n < STEPS && how == GOES_ON; n++) {
                int op = story.code.byteAt(pc);
                pc++;
                if (op >= OP_PUSH) {
                    int operand = story.code.pairAt(pc);
                    pc += 2;
                    wideOp(op, operand);
                } else if (op == OP_MOVE) {
                    moveOp();
                } else if (op >= OP_RANDOM) {
                    worldOp(op);
                } else if (op >= OP_SAY_NAME) {
                    objectOp(op);
                } else if (op >= OP_ADD) {
                    numberOp(op);
                } else {
                    flowOp(op);
                }
            }
            base = 0;
            top = 0;
            depth = 0;
            return how;
        }

        private void push(int number) {
            if (top >= 0 && top < stack.length) {
                stack[top] = number;
                top++;
            }
        }

        private int pop() {
            if (top <= 0) {
                return 0;
            }
            top--;
            return at(stack, top);
        }

        private void stop(int number) {
            broke = number;
            how = BROKEN;
        }

        private void numberOp(int op) {
            int right = pop();
            int left = pop();
            if ((op == OP_DIVIDE || op == OP_REST) && right == 0) {
                stop(1);
            } else {
                push(worth(op, left, right));
            }
        }

        private static int worth(int op, int left, int right) {
            switch (op) {
                case OP_ADD:
                    return (short) (left + right);
                case OP_SUBTRACT:
                    return (short) (left - right);
                case OP_MULTIPLY:
                    return (short) (left * right);
                case OP_DIVIDE:
                    return right == 0 ? 0 : (short) (left / right);
                case OP_REST:
                    return right == 0 ? 0 : (short) (left % right);
                case OP_SAME:
                    return left == right ? 1 : 0;
                case OP_OTHER:
                    return left != right ? 1 : 0;
                case OP_LESS:
                    return left < right ? 1 : 0;
                case OP_AT_MOST:
                    return left <= right ? 1 : 0;
                case OP_MORE:
                    return left > right ? 1 : 0;
                default:
                    return left >= right ? 1 : 0;
            }
        }

        private void flowOp(int op) {
            switch (op) {
                case OP_END:
                    leave(0);
                    break;
                case OP_DROP:
                    pop();
                    break;
                case OP_RETURN:
                    leave(pop());
                    break;
                case OP_PASS:
                    if (isTooMuch()) {
                        stop(6);
                    }
                    break;
                case OP_DONE:
                    how = WAS_DONE;
                    break;
                case OP_WIN:
                case OP_LOSE:
                    told.line(op == OP_WIN ? "\n*** You have won ***" : "\n*** You have lost ***");
                    play.ended = op == OP_WIN ? 1 : 2;
                    how = ENDED;
                    break;
                case OP_TRUTH:
                    push(pop() != 0 ? 1 : 0);
                    break;
                case OP_NOT:
                    push(pop() == 0 ? 1 : 0);
                    break;
                default:
                    push((short) -pop());
            }
        }

        /** One more pass or call. */
        private boolean isTooMuch() {
            work++;
            return work > WORK;
        }

        private void call(int def) {
            if (isTooMuch()) {
                stop(6);
            } else if (depth >= CALLS) {
                stop(5);
            } else {
                put(returns, depth, pc);
                put(bases, depth, base);
                depth++;
                base = top - at(story.code.lists, def);
                top = base + LOCALS;
                pc = story.code.beginOf(def);
            }
        }

        private void leave(int number) {
            if (depth == 0) {
                how = FINISHED;
            } else {
                top = base;
                depth--;
                base = at(bases, depth);
                pc = at(returns, depth);
                push(number);
            }
        }

        private void wideOp(int op, int operand) {
            switch (op) {
                case OP_PUSH:
                    push(operand);
                    break;
                case OP_VAR:
                    push(at(play.vars, operand));
                    break;
                case OP_LOCAL:
                    push(at(stack, base + operand));
                    break;
                case OP_SET_VAR:
                    put(play.vars, operand, pop());
                    break;
                case OP_SET_LOCAL:
                    put(stack, base + operand, pop());
                    break;
                case OP_CELL:
                case OP_SET_CELL:
                    cellOp(op == OP_SET_CELL, operand);
                    break;
                case OP_CALL:
                    call(operand);
                    break;
                case OP_JUMP:
                    pc = operand;
                    break;
                case OP_JUMP_FALSE:
                    pc = pop() == 0 ? operand : pc;
                    break;
                case OP_AND:
                case OP_OR:
                    pairOp(op == OP_OR, operand);
                    break;
                case OP_SAY_TEXT:
                    sayText(operand);
                    break;
                default:
                    traitOp(op, operand);
            }
        }

        private void cellOp(boolean sets, int array) {
            int number = sets ? pop() : 0;
            int cell = story.cellOf(array, pop());
            if (cell == NONE) {
                stop(4);
            } else if (sets) {
                put(play.cells, cell, number);
            } else {
                push(at(play.cells, cell));
            }
        }

        /** The left side of an and, an or: if it tells, its truth stays and the right side is passed by. */
        private void pairOp(boolean truth, int over) {
            boolean left = pop() != 0;
            if (left == truth) {
                push(left ? 1 : 0);
                pc = over;
            }
        }

        private void traitOp(int op, int trait) {
            int object = pop();
            if (!story.isObject(object)) {
                stop(2);
            } else if (op == OP_HAS) {
                push(play.bears(object, trait) ? 1 : 0);
            } else {
                play.give(object, trait, op == OP_SET);
            }
        }

        private void worldOp(int op) {
            switch (op) {
                case OP_RANDOM:
                    push(draw(pop()));
                    break;
                case OP_HERE:
                    push(play.here());
                    break;
                case OP_NOUN:
                    push(noun);
                    break;
                case OP_SECOND:
                    push(second);
                    break;
                default:
                    told.number(pop());
            }
        }

        private int draw(int n) {
            if (n < 1) {
                return 0;
            }
            play.seed = play.seed * 69069 + 1;
            return 1 + (play.seed >>> 16 & 32767) % n;
        }

        private void moveOp() {
            int to = pop();
            int object = pop();
            if (!story.isObject(object) || !story.isObject(to) || story.isRoom(object)
                    || object == PLAYER && !story.isRoom(to)) {
                stop(2);
            } else if (play.isWithin(to, object)) {
                stop(3);
            } else {
                play.moveInto(object, to);
            }
        }

        /** What wants one object; only an in has a right side. */
        private void objectOp(int op) {
            int right = op == OP_IN ? pop() : 0;
            int object = pop();
            boolean fixed = op == OP_REMOVE && (object == PLAYER || story.isRoom(object));
            if (!story.isObject(object) || fixed) {
                stop(2);
                return;
            }
            switch (op) {
                case OP_IN:
                    push(at(play.parents, object) == right ? 1 : 0);
                    break;
                case OP_HOLDER:
                    push(at(play.parents, object));
                    break;
                case OP_FIRST:
                    push(at(play.firsts, object));
                    break;
                case OP_NEXT:
                    push(at(play.nexts, object));
                    break;
                case OP_SAY_NAME:
                    sayName(object);
                    break;
                default:
                    play.takeOut(object);
            }
        }

        void sayText(int text) {
            int n = story.texts.unpack(text, row);
            told.row(row, n);
        }

        void sayName(int object) {
            if (object == PLAYER) {
                told.text("yourself");
            } else {
                sayText(at(story.called, object));
            }
        }
    }

    /** Understands lines, and does what is told of commands. */
    private static final class Teller {
        private final Play play;
        private final Out told;
        private final Machine machine;
        Story story;
        private final byte[] line = new byte[LINE_LIMIT];
        private int lineLength;
        // The line's terms, by their numbers in the dictionary.
        private final int[] terms = new int[TERMS];
        private int termCount;
        private int verb;
        private int joint;
        private int noun;
        private int second;
        private boolean all;
        private int source;
        private final int[] chosen = new int[OBJECTS];
        private int chosenCount;

        Teller(Play play, Out told, Machine machine) {
            this.play = play;
            this.told = told;
            this.machine = machine;
        }

        /** Hears a line, or, if it says so, the latest command's again; whether there is one to understand. */
        boolean listen(byte[] bytes, int length) {
            if (play.ended != 0) {
                return refuse("The story is over.");
            }
            hear(bytes, length);
            if (termCount == 0) {
                return refuse("I beg your pardon?");
            }
            if (termCount == 1 && (term(0) == WORD_AGAIN || term(0) == WORD_G)) {
                if (play.lineLength == 0) {
                    return refuse("There is nothing to repeat.");
                }
                hear(play.line, play.lineLength);
            }
            return true;
        }

        private boolean refuse(String why) {
            told.line(why);
            return false;
        }

        private int term(int i) {
            return i >= 0 && i < termCount ? at(terms, i) : NONE;
        }

        private void hear(byte[] bytes, int length) {
            lineLength = Math.min(Math.min(length, bytes.length), line.length);
            for (int i = 0; i < lineLength && i < line.length && i < bytes.length; i++) {
                int c = bytes[i];
                line[i] = (byte) (c >= 'A' && c <= 'Z' ? c + 32 : c == '\n' ? ' ' : c);
            }
            termCount = 0;
            int from = 0;
            for (int i = 0; i <= lineLength; i++) {
                if (i == lineLength || i < line.length && !isLetter(line[i])) {
                    if (i > from && termCount < TERMS) {
                        put(terms, termCount, story.dictionary.find(termBetween(from, i)));
                        termCount++;
                    }
                    from = i + 1;
                }
            }
        }

        private long termBetween(int from, int to) {
            long term = 0;
            for (int i = from; i < from + TERM_LIMIT; i++) {
                term = term * 37 + (i < to && i >= 0 && i < line.length ? nameSign(line[i]) : 0);
            }
            return term;
        }

        /** Whether the line is a command; if it is none, why is told. */
        boolean understand() {
            noun = 0;
            second = 0;
            all = false;
            boolean go = term(0) == WORD_GO;
            int way = directionOf(term(termCount - 1));
            if (way != 0 && termCount == (go ? 2 : 1)) {
                verb = GO_VERB;
                noun = way;
                return true;
            }
            if (go) {
                return refuse("Where do you want to go?");
            }
            return findVerb() && findNouns();
        }

        /** A direction's number, by its word or its first letter; 0 if it is none. */
        private static int directionOf(int word) {
            int i = word - WORD_NORTH;
            return i >= 0 && i < 2 * DIRECTIONS ? i % DIRECTIONS + 1 : 0;
        }

        private boolean findVerb() {
            boolean isKnown = false;
            int verbs = at(story.counts, COUNT_VERBS);
            for (int v = 1; v <= verbs && v <= VERBS; v++) {
                if (story.owns(OBJECTS + v, term(0))) {
                    isKnown = true;
                    if (fits(v)) {
                        verb = v;
                        return true;
                    }
                }
            }
            return refuse(isKnown ? "I did not get that." : "I do not know how to do that.");
        }

        /** Whether the terms have a verb's form; of two nouns, joint tells where the first one ends. */
        private boolean fits(int v) {
            int form = at(story.forms, v);
            joint = termCount;
            if (form != FORM_TWO) {
                return form == FORM_ALONE ? termCount == 1 : termCount > 1;
            }
            for (int i = 2; i < termCount - 1; i++) {
                if (term(i) == at(story.joints, v)) {
                    joint = i;
                    return true;
                }
            }
            return false;
        }

        private boolean findNouns() {
            int form = at(story.forms, verb);
            if (form == FORM_ALONE) {
                return true;
            }
            int from = behindArticle(1, joint);
            if (term(from) == WORD_ALL && joint - from == 1 && (verb == TAKE_VERB || verb == DROP_VERB)) {
                all = true;
                return chooseAll();
            }
            noun = nounOf(from, joint);
            if (noun != 0 && form == FORM_TWO) {
                second = nounOf(behindArticle(joint + 1, termCount), termCount);
            }
            return noun != 0 && (form == FORM_ONE || second != 0);
        }

        private int behindArticle(int from, int to) {
            boolean isArticle = term(from) >= WORD_THE && term(from) <= WORD_AN;
            return isArticle && to - from > 1 ? from + 1 : from;
        }

        /** The one thing that the terms name; 0, and why is told, if there is not just one. */
        private int nounOf(int from, int to) {
            boolean light = play.isLight();
            int found = 0;
            if (to - from == 1 && term(from) == WORD_IT) {
                found = play.it != 0 && play.isInScope(play.it, light) ? play.it : 0;
            } else {
                for (int i = 1; i <= OBJECTS && story.isObject(i); i++) {
                    if (isNamed(i, from, to) && play.isInScope(i, light)) {
                        if (found != 0) {
                            told.line("Which one do you mean?");
                            return 0;
                        }
                        found = i;
                    }
                }
            }
            if (found == 0) {
                told.line("You see no such thing.");
            }
            return found;
        }

        private boolean isNamed(int object, int from, int to) {
            for (int i = from; i < to; i++) {
                if (!story.owns(object, term(i))) {
                    return false;
                }
            }
            return true;
        }

        private boolean chooseAll() {
            chosenCount = 0;
            source = verb == TAKE_VERB ? play.here() : PLAYER;
            if (verb == DROP_VERB || play.isLight()) {
                int thing = at(play.firsts, source);
                for (int n = 0; n < OBJECTS && thing != 0; n++) {
                    boolean fixed = verb == TAKE_VERB && play.bears(thing, IS_FIXED);
                    if (thing != PLAYER && !play.bears(thing, IS_HIDDEN) && !fixed) {
                        put(chosen, chosenCount, thing);
                        chosenCount++;
                    }
                    thing = at(play.nexts, thing);
                }
            }
            return chosenCount > 0 || refuse("There is nothing to do.");
        }

        /** Does the command that was understood: its rules, its doing, time. */
        void act() {
            machine.ready();
            System.arraycopy(line, 0, play.line, 0, line.length);
            play.lineLength = lineLength;
            boolean goesOn = true;
            if (all) {
                for (int i = 0; i < chosenCount && goesOn; i++) {
                    noun = at(chosen, i);
                    if (at(play.parents, noun) == source) {
                        machine.sayName(noun);
                        told.text(": ");
                        goesOn = perform();
                    }
                }
            } else {
                goesOn = perform();
            }
            if (goesOn) {
                passTime();
            }
        }

        /** Only what broke is told then. */
        void tellBreak() {
            told.wipe();
            told.text("[break ");
            told.number(machine.broke);
            told.line("]");
        }

        /** The rules and the doing, for one noun; whether the turn goes on behind them. */
        private boolean perform() {
            machine.noun = noun;
            machine.second = second;
            if (verb != GO_VERB && noun != 0) {
                play.it = noun;
            }
            int ons = at(story.counts, COUNT_ONS);
            for (int i = 0; i < ons && i < ONS; i++) {
                if (isMeant(i)) {
                    int how = machine.run(Code.FIRST_ON + i);
                    if (how != FINISHED) {
                        return how == WAS_DONE;
                    }
                }
            }
            if (doing()) {
                look();
            }
            return true;
        }

        private boolean isMeant(int on) {
            return at(story.onVerbs, on) == verb && isWhat(at(story.onFirsts, on), noun)
                    && isWhat(at(story.onSeconds, on), second);
        }

        private static boolean isWhat(int what, int object) {
            return what <= 0 || what == object;
        }

        private void passTime() {
            play.turns++;
            int eachs = at(story.counts, COUNT_EACHS);
            boolean goesOn = true;
            for (int i = 0; i < eachs && i < EACHS && goesOn; i++) {
                int how = machine.run(Code.FIRST_EACH + i);
                goesOn = how == FINISHED || how == WAS_DONE;
            }
        }

        /** Does what the verb says; whether a look follows. */
        private boolean doing() {
            switch (verb) {
                case LOOK_VERB:
                    return true;
                case INVENTORY_VERB:
                    inventory();
                    break;
                case WAIT_VERB:
                    told.line("Time passes.");
                    break;
                case TAKE_VERB:
                    take();
                    break;
                case DROP_VERB:
                    drop();
                    break;
                case EXAMINE_VERB:
                    examine();
                    break;
                case OPEN_VERB:
                    open();
                    break;
                case CLOSE_VERB:
                    close();
                    break;
                case PUTIN_VERB:
                case PUTON_VERB:
                    putThere();
                    break;
                case GO_VERB:
                    return go();
                default:
                    told.line("Nothing happens.");
            }
            return false;
        }

        void look() {
            if (!play.isLight()) {
                told.line("It is dark.");
                return;
            }
            int here = play.here();
            machine.sayName(here);
            told.line("");
            if (at(story.described, here) != NONE) {
                machine.sayText(at(story.described, here));
                told.line("");
            }
            int thing = at(play.firsts, here);
            for (int n = 0; n < OBJECTS && thing != 0; n++) {
                if (thing != PLAYER && !play.bears(thing, IS_HIDDEN)) {
                    told.text("There is ");
                    machine.sayName(thing);
                    told.line(" here.");
                    tellInside(thing);
                }
                thing = at(play.nexts, thing);
            }
        }

        private void tellInside(int holder) {
            int thing = play.showsInside(holder) ? at(play.firsts, holder) : 0;
            for (int n = 0; n < OBJECTS && thing != 0; n++) {
                if (!play.bears(thing, IS_HIDDEN)) {
                    told.text(play.bears(holder, IS_SUPPORTER) ? "On " : "In ");
                    machine.sayName(holder);
                    told.text(" there is ");
                    machine.sayName(thing);
                    told.line(".");
                }
                thing = at(play.nexts, thing);
            }
        }

        private void inventory() {
            boolean any = false;
            int thing = at(play.firsts, PLAYER);
            for (int n = 0; n < OBJECTS && thing != 0; n++) {
                if (!play.bears(thing, IS_HIDDEN)) {
                    told.text(any ? "  " : "You carry:\n  ");
                    machine.sayName(thing);
                    told.line("");
                    any = true;
                }
                thing = at(play.nexts, thing);
            }
            if (!any) {
                told.line("You carry nothing.");
            }
        }

        private boolean playerHas(int thing) {
            return at(play.parents, thing) == PLAYER;
        }

        private void take() {
            if (noun == PLAYER || playerHas(noun)) {
                told.line("You have that.");
            } else if (play.bears(noun, IS_FIXED)) {
                told.line("That is fixed.");
            } else {
                play.moveInto(noun, PLAYER);
                told.line("Taken.");
            }
        }

        private void drop() {
            if (!playerHas(noun)) {
                told.line("You do not have that.");
            } else {
                play.moveInto(noun, play.here());
                told.line("Dropped.");
            }
        }

        private void examine() {
            if (at(story.described, noun) == NONE) {
                told.line("You see nothing special.");
            } else {
                machine.sayText(at(story.described, noun));
                told.line("");
            }
        }

        private void open() {
            if (!play.bears(noun, IS_CONTAINER)) {
                told.line("You can not open that.");
            } else if (play.bears(noun, IS_OPEN)) {
                told.line("That is open.");
            } else {
                play.give(noun, IS_OPEN, true);
                told.line("Opened.");
            }
        }

        private void close() {
            if (!play.bears(noun, IS_CONTAINER)) {
                told.line("You can not close that.");
            } else if (!play.bears(noun, IS_OPEN)) {
                told.line("That is closed.");
            } else {
                play.give(noun, IS_OPEN, false);
                told.line("Closed.");
            }
        }

        private void putThere() {
            boolean inside = verb == PUTIN_VERB;
            if (!playerHas(noun)) {
                told.line("You do not have that.");
            } else if (play.isWithin(second, noun) || !play.bears(second, inside ? IS_CONTAINER : IS_SUPPORTER)) {
                told.line("You can not do that.");
            } else if (inside && !play.bears(second, IS_OPEN)) {
                told.line("That is closed.");
            } else {
                play.moveInto(noun, second);
                told.line("Done.");
            }
        }

        private boolean go() {
            int room = story.exitOf(play.here(), noun);
            if (room == 0) {
                told.line("You can not go there.");
            } else {
                play.moveInto(PLAYER, room);
            }
            return room != 0;
        }
    }
}
