import java.util.Arrays;

/**
 * Programs of a few threads that share fields and locks, all ways in which their steps may follow
 * one another, and what can be judged of them without trying. The document's numbered promises say
 * what each call answers.
 */
public final class RaceLocks {
    public static final int NONE = -1;
    public static final int STATE = -101, OUTSIDE = -102, MANY = -103;

    private static final int TAPE = 1500, FED = 20;
    private static final int FIELDS = 6, LOCKS = 4, THREADS = 4, LOCALS = 3;
    private static final int STEPS = 24, SPANS = 6, DEPTH = 8, WORD_BYTES = 6;
    private static final int ALL_STEPS = THREADS * STEPS, NOWHERE = ALL_STEPS;
    private static final int PAIRS = THREADS * (THREADS - 1) / 2 * STEPS * STEPS;
    private static final int STATES = 4000, TABLE = 8192, WORDS = THREADS + 1;

    // What a step is, as step(.., .., 0) tells it.
    private static final int READ = 0, WRITE = 1, SET = 2, TAKE = 3, LEAVE = 4, IF = 5, WHILE = 6;
    private static final int WAIT = 7, WAKE = 8, WAKE_ALL = 9, START = 10, JOIN = 11, CHECK = 12;
    private static final int STOP = 13;

    // How a thread is, as thread(.., .., 0) tells it.
    private static final int NOT_STARTED = 0, RUNNING = 1, WAITING = 2, WOKEN = 3, ENDED = 4;
    private static final int FAILED = 5;

    private static final int NO_TOKEN = 1, MISPLACED = 2, NAMED_WRONG = 3, TOO_MANY = 4, UNTOLD = 5;
    private static final int FIELD_NAME = 0, LOCK_NAME = 1, THREAD_NAME = 2;
    private static final int THREAD_BLOCK = 0, LOCK_BLOCK = 1, SPAN_BLOCK = 2, IF_BLOCK = 3;
    private static final int ELSE_BLOCK = 4, WHILE_BLOCK = 5;

    // Tokens: a sign of one byte is its byte, so the others stand below or above all bytes of signs.
    private static final int TEXT_END = 0, BAD = 1, NUMBER = 2, NAME = 3;
    private static final int SAME = 256, DIFFERENT = 257;
    private static final int WORD_FIELD = 300, WORD_OPEN = 301, WORD_LOCK = 302, WORD_THREAD = 303;
    private static final int WORD_IF = 304, WORD_ELSE = 305, WORD_WHILE = 306, WORD_WAIT = 307;
    private static final int WORD_WAKE = 308, WORD_ALL = 309, WORD_START = 310, WORD_JOIN = 311;
    private static final int WORD_CHECK = 312, WORD_STOP = 313, WORD_SPAN = 314;

    /** The words that are no NAMES, a byte after the other, in the order of WORD_FIELD and on. */
    private static final long[] RESERVED = {
        0x6669656c64L, 0x6f70656eL, 0x6c6f636bL, 0x746872656164L, 0x6966L,
        0x656c7365L, 0x7768696c65L, 0x77616974L, 0x77616b65L, 0x616c6cL,
        0x7374617274L, 0x6a6f696eL, 0x636865636bL, 0x73746f70L, 0x7370616eL
    };

    private final byte[] tape;
    private final Program program;
    private final Reader reader;
    private final Machine machine;
    private final Space space;
    private final Findings findings;
    private final Space trial;
    private final Outcomes trialOutcomes;
    private final int[] wholes;
    private final Judge judge;
    private final int[] schedule;
    private int taped;
    private int faultKind;
    private boolean loaded;
    private boolean tried;
    private boolean allFound;
    private int told;

    public RaceLocks() {
        tape = new byte[TAPE];
        program = new Program();
        reader = new Reader(tape, program);
        machine = new Machine(program);
        space = new Space(program, machine);
        findings = new Findings(program, machine);
        trial = new Space(program, machine);
        trialOutcomes = new Outcomes(machine);
        wholes = new int[SPANS];
        judge = new Judge(program);
        schedule = new int[STATES];
        told = NONE;
    }

    public int feed(int a, int b, int c, int d, int e) throws IllegalStateException {
        if (taped < 0 || taped + FED > TAPE) {
            throw new IllegalStateException("the tape would have more than 1500 bytes");
        }
        putBytes(a);
        putBytes(b);
        putBytes(c);
        putBytes(d);
        putBytes(e);
        return taped;
    }

    private void putBytes(int number) {
        for (int shift = 24; shift >= 0 && taped < TAPE; shift -= 8) {
            tape[taped] = (byte) (number >>> shift);
            taped++;
        }
    }

    public void end(int n) throws IllegalArgumentException {
        if (n < 0 || n > taped) {
            throw new IllegalArgumentException("the tape has no such length");
        }
        taped = n;
    }

    public int read() {
        reader.readText(taped);
        taped = 0;
        faultKind = reader.faultKind;
        loaded = faultKind == 0;
        tried = false;
        allFound = false;
        told = NONE;
        judge.forget();
        Arrays.fill(wholes, NONE);
        return loaded ? program.total : -1000 - reader.faultPlace;
    }

    public int fault() {
        return faultKind;
    }

    public int count(int what) {
        if (!loaded) {
            return STATE;
        }
        switch (what) {
            case 0: return program.fields;
            case 1: return program.locks;
            case 2: return program.threads;
            case 3: return program.spans;
            case 4: return program.total;
            default: return OUTSIDE;
        }
    }

    public int step(int thread, int step, int what) {
        if (!loaded) {
            return STATE;
        }
        int slot = program.slotOf(thread, step);
        if (slot == NOWHERE) {
            return OUTSIDE;
        }
        switch (what) {
            case 0: return program.kinds[slot];
            case 1: return program.subjects[slot];
            case 2: return program.nexts[slot];
            case 3: return program.others[slot];
            case 4: return program.helds[slot];
            case 5: return program.spanNumbers[slot];
            default: return OUTSIDE;
        }
    }

    public int run() {
        if (!loaded) {
            return STATE;
        }
        told = NONE;
        if (!tried) {
            tried = true;
            allFound = space.explore(NONE);
            if (allFound) {
                findings.gather(space);
            }
        }
        return allFound ? space.size : MANY;
    }

    public int found(int what) {
        if (!allFound) {
            return STATE;
        }
        switch (what) {
            case 0: return findings.ends.size;
            case 1: return findings.stucks.size;
            case 2: return findings.races.size;
            case 3: return findings.outcomes.states.size;
            case 4: return findings.failures.size;
            default: return OUTSIDE;
        }
    }

    public int show(int kind, int k) {
        if (!allFound) {
            return STATE;
        }
        int state = shownState(kind, k);
        if (state == NONE) {
            return OUTSIDE;
        }
        told = space.wayTo(state, schedule);
        return state;
    }

    private int shownState(int kind, int k) {
        switch (kind) {
            case 0: return findings.raceStates.get(k);
            case 1: return findings.stucks.get(k);
            case 2: return findings.ends.get(k);
            case 3: return findings.outcomes.states.get(k);
            case 4: return findings.failures.get(k);
            default: return NONE;
        }
    }

    public int length() {
        return told == NONE ? STATE : told;
    }

    public int who(int i) {
        if (told == NONE) {
            return STATE;
        }
        return i < 0 || i >= told || i >= STATES ? OUTSIDE : schedule[i];
    }

    public int race(int k, int what) {
        if (!allFound) {
            return STATE;
        }
        return program.partOfPair(findings.races.get(k), what);
    }

    public int thread(int state, int thread, int what) {
        if (!allFound) {
            return STATE;
        }
        if (!program.hasThread(thread) || !space.has(state)) {
            return OUTSIDE;
        }
        space.load(state);
        switch (what) {
            case 0: return machine.howOf(thread);
            case 1: return machine.stepOf(thread);
            case 2: return machine.canMove(thread) ? 1 : 0;
            case 3:
            case 4:
            case 5: return machine.localOf(thread, what - 3);
            default: return OUTSIDE;
        }
    }

    public int field(int state, int field) {
        if (!allFound) {
            return STATE;
        }
        if (field < 0 || field >= program.fields || !space.has(state)) {
            return OUTSIDE;
        }
        space.load(state);
        return machine.valueOfField(field);
    }

    public int owner(int state, int lock) {
        if (!allFound) {
            return STATE;
        }
        if (lock < 0 || lock >= program.locks || !space.has(state)) {
            return OUTSIDE;
        }
        space.load(state);
        return machine.ownerOf(lock);
    }

    public int stuck(int state) {
        if (!allFound) {
            return STATE;
        }
        if (!space.has(state) || !space.isLast(state)) {
            return OUTSIDE;
        }
        space.load(state);
        if (machine.isOver()) {
            return OUTSIDE;
        }
        if (machine.hasRing()) {
            return 1;
        }
        return machine.onlyWaits() ? 2 : 3;
    }

    public int whole(int span) {
        if (!allFound) {
            return STATE;
        }
        if (span < 0 || span >= program.spans || span >= SPANS) {
            return OUTSIDE;
        }
        if (wholes[span] == NONE) {
            wholes[span] = MANY;
            if (trial.explore(span)) {
                trialOutcomes.gather(trial);
                wholes[span] = trialOutcomes.isSameAs(findings.outcomes) ? 1 : 0;
            }
        }
        return wholes[span];
    }

    public int doubts() {
        if (!loaded) {
            return STATE;
        }
        judge.prepare();
        return judge.doubtful.size;
    }

    public int doubt(int k, int what) {
        if (!loaded) {
            return STATE;
        }
        judge.prepare();
        return program.partOfPair(judge.doubtful.get(k), what);
    }

    public int meet(int a, int step, int b, int other) {
        if (!loaded) {
            return STATE;
        }
        if (a == b || program.slotOf(a, step) == NOWHERE || program.slotOf(b, other) == NOWHERE) {
            return OUTSIDE;
        }
        judge.prepare();
        return judge.canMeet(a, step, b, other) ? 1 : 0;
    }

    public int guards(int field) {
        if (!loaded) {
            return STATE;
        }
        if (field < 0 || field >= program.fields) {
            return OUTSIDE;
        }
        return judge.guardsOf(field);
    }

    public int rings() {
        if (!loaded) {
            return STATE;
        }
        judge.prepare();
        return judge.ringCount;
    }

    /** A row of numbers, none below 0, with as much room as can ever be needed. */
    private static final class Numbers {
        private final int[] items;
        int size;

        Numbers(int most) {
            items = new int[Math.max(most, 0)];
        }

        void clear() {
            size = 0;
        }

        void add(int number) {
            if (size >= 0 && size < items.length) {
                items[size] = number;
                size++;
            }
        }

        int get(int k) {
            return k < 0 || k >= size || k >= items.length ? NONE : items[k];
        }
    }

    /**
     * What a text tells: its fields, locks, threads, and of each thread its steps. A step's parts
     * stand in its slot of some rows; the slot NOWHERE is that of all steps that are not there.
     */
    private static final class Program {
        int fields;
        int locks;
        int threads;
        int spans;
        int total;
        int firstValues;
        private int openFields;
        private final int[] lengths = new int[THREADS];
        private final int[] starters = new int[THREADS];
        final int[] kinds = new int[ALL_STEPS + 1];
        final int[] subjects = new int[ALL_STEPS + 1];
        final int[] nexts = new int[ALL_STEPS + 1];
        final int[] others = new int[ALL_STEPS + 1];
        final int[] helds = new int[ALL_STEPS + 1];
        final int[] spanNumbers = new int[ALL_STEPS + 1];
        final int[] targets = new int[ALL_STEPS + 1];
        final int[] lefts = new int[ALL_STEPS + 1];
        final int[] signs = new int[ALL_STEPS + 1];
        final int[] rights = new int[ALL_STEPS + 1];

        Program() {
            kinds[NOWHERE] = NONE;
            subjects[NOWHERE] = NONE;
            nexts[NOWHERE] = NONE;
            others[NOWHERE] = NONE;
            spanNumbers[NOWHERE] = NONE;
        }

        void clear() {
            fields = 0;
            locks = 0;
            threads = 0;
            spans = 0;
            total = 0;
            firstValues = 0;
            openFields = 0;
            Arrays.fill(lengths, 0);
            Arrays.fill(starters, 0);
        }

        void addField(int value, boolean open) {
            firstValues |= value << 3 * fields;
            if (open) {
                openFields |= 1 << fields;
            }
            fields++;
        }

        boolean hasThread(int thread) {
            return thread >= 0 && thread < threads && thread < THREADS;
        }

        int lengthOf(int thread) {
            return thread >= 0 && thread < THREADS ? lengths[thread] : 0;
        }

        /** The threads that have a 'start' of this one, as bits. */
        int startersOf(int thread) {
            return thread >= 0 && thread < THREADS ? starters[thread] : 0;
        }

        int slotOf(int thread, int step) {
            boolean there = thread >= 0 && thread < THREADS && step >= 0 && step < STEPS
                    && step < lengths[thread];
            return there ? thread * STEPS + step : NOWHERE;
        }

        /** Puts a new step behind the thread's others: its number, or NONE if there is no room. */
        int addStep(int thread, int kind, int subject, int held, int span) {
            if (thread < 0 || thread >= THREADS || lengths[thread] < 0 || lengths[thread] >= STEPS) {
                return NONE;
            }
            int step = lengths[thread];
            int slot = thread * STEPS + step;
            lengths[thread]++;
            total++;
            kinds[slot] = kind;
            subjects[slot] = subject;
            helds[slot] = held;
            spanNumbers[slot] = span;
            nexts[slot] = NONE;
            others[slot] = NONE;
            return step;
        }

        /** A 'start' or 'join' gets the thread that its NAME has come to mean. */
        void setThread(int slot, int meant) {
            if (slot >= 0 && slot < ALL_STEPS && meant >= 0 && meant < THREADS) {
                subjects[slot] = meant;
                if (kinds[slot] == START) {
                    starters[meant] |= 1 << slot / STEPS;
                }
            }
        }

        /** Whether two steps are a READ or WRITE of one field that is not open, one a WRITE. */
        boolean clash(int slot, int other) {
            if (slot < 0 || slot >= ALL_STEPS || other < 0 || other >= ALL_STEPS) {
                return false;
            }
            int field = subjects[slot];
            boolean touches = kinds[slot] <= WRITE && kinds[other] <= WRITE;
            boolean writes = kinds[slot] == WRITE || kinds[other] == WRITE;
            return touches && writes && field == subjects[other] && (openFields >>> field & 1) == 0;
        }

        /** What race() and doubt() tell of a pair of slots; OUTSIDE if it is none. */
        int partOfPair(int pair, int what) {
            int first = pair / ALL_STEPS;
            int second = pair % ALL_STEPS;
            if (pair < 0 || first >= ALL_STEPS) {
                return OUTSIDE;
            }
            switch (what) {
                case 0: return first / STEPS;
                case 1: return first % STEPS;
                case 2: return second / STEPS;
                case 3: return second % STEPS;
                case 4: return subjects[first];
                default: return OUTSIDE;
            }
        }
    }

    /** The tape's bytes cut into tokens, and the one token that is looked at. */
    private static final class Tokens {
        private final byte[] bytes;
        private final int[] kinds = new int[TAPE + 1];
        private final int[] places = new int[TAPE + 1];
        private final long[] values = new long[TAPE + 1];
        private int length;
        private int size;
        private int at;
        int kind;
        int place;
        /** The value of a NUMBER, the bytes of a NAME. */
        long value;

        Tokens(byte[] bytes) {
            this.bytes = bytes;
        }

        /** Cuts the first bytes into tokens, up to the end or to what is no token. */
        void scan(int howMany) {
            length = howMany;
            size = 0;
            int behind = 0;
            kind = NAME;
            for (int i = 0; i <= TAPE && kind != TEXT_END && kind != BAD; i++) {
                behind = takeToken(behind);
                kinds[i] = kind;
                places[i] = place;
                values[i] = value;
                size++;
            }
            at = NONE;
            advance();
        }

        void advance() {
            if (at < size - 1 && at < TAPE) {
                at++;
            }
            if (at >= 0 && at <= TAPE) {
                kind = kinds[at];
                place = places[at];
                value = values[at];
            }
        }

        /** Looks at the token that begins here or behind blanks: the place behind it. */
        private int takeToken(int from) {
            place = from;
            while (place < length && isBlank(byteAt(place))) {
                place++;
            }
            int first = byteAt(place);
            value = 0;
            if (first == NONE) {
                kind = TEXT_END;
                return place;
            }
            if (isOfWord(first)) {
                return first <= '9' ? takeNumber(first) : takeWord();
            }
            return takeSign(first);
        }

        private int byteAt(int i) {
            return i < 0 || i >= length || i >= bytes.length ? NONE : bytes[i] & 255;
        }

        private int takeWord() {
            int behind = place;
            while (behind < length && isOfWord(byteAt(behind))) {
                value = value << 8 | byteAt(behind);
                behind++;
            }
            kind = behind - place > WORD_BYTES ? BAD : NAME;
            for (int i = 0; i < RESERVED.length && kind == NAME; i++) {
                if (RESERVED[i] == value) {
                    kind = WORD_FIELD + i;
                }
            }
            return behind;
        }

        private int takeNumber(int digit) {
            value = digit - '0';
            kind = digit > '7' || isOfWord(byteAt(place + 1)) ? BAD : NUMBER;
            return place + 1;
        }

        private int takeSign(int first) {
            if ((first == '=' || first == '!') && byteAt(place + 1) == '=') {
                kind = first == '=' ? SAME : DIFFERENT;
                return place + 2;
            }
            kind = isSign(first) ? first : BAD;
            return place + 1;
        }

        private static boolean isBlank(int b) {
            return b == ' ' || b == '\n';
        }

        private static boolean isOfWord(int b) {
            return b >= 'a' && b <= 'z' || b >= '0' && b <= '9';
        }

        private static boolean isSign(int b) {
            switch (b) {
                case '=':
                case ';':
                case '{':
                case '}':
                case '<':
                case '>':
                case '+':
                case '-': return true;
                default: return false;
            }
        }
    }

    /** The NAMES told so far, and the locals of the thread that is being read. */
    private static final class Names {
        private static final int MOST = FIELDS + LOCKS + THREADS;
        private final long[] words = new long[MOST];
        private final int[] sorts = new int[MOST];
        private final int[] numbers = new int[MOST];
        private int size;
        private final long[] locals = new long[LOCALS];
        private int localCount;

        void clear() {
            size = 0;
            localCount = 0;
        }

        void forgetLocals() {
            localCount = 0;
        }

        void tell(long word, int sort, int number) {
            if (size >= 0 && size < MOST) {
                words[size] = word;
                sorts[size] = sort;
                numbers[size] = number;
                size++;
            }
        }

        /** FIELD_NAME, LOCK_NAME, THREAD_NAME; NONE if it is not told. */
        int sortOf(long word) {
            for (int i = 0; i < size && i < MOST; i++) {
                if (words[i] == word) {
                    return sorts[i];
                }
            }
            return NONE;
        }

        /** Its number among the NAMES of a sort; NONE if it is not told as one. */
        int numberOf(long word, int sort) {
            for (int i = 0; i < size && i < MOST; i++) {
                if (words[i] == word && sorts[i] == sort) {
                    return numbers[i];
                }
            }
            return NONE;
        }

        int localOf(long word) {
            for (int i = 0; i < localCount && i < LOCALS; i++) {
                if (locals[i] == word) {
                    return i;
                }
            }
            return NONE;
        }

        /** The local's number, a new one if it has not come before; NONE if there is no room. */
        int makeLocal(long word) {
            int known = localOf(word);
            if (known != NONE || localCount < 0 || localCount >= LOCALS) {
                return known;
            }
            locals[localCount] = word;
            localCount++;
            return localCount - 1;
        }
    }

    /**
     * Puts the steps of one thread together. Which step comes behind another one is known only when
     * it comes, so the steps whose next (or other) one is still open are kept as bits.
     */
    private static final class Weaver {
        private final Program program;
        private final int[] sorts = new int[DEPTH];
        private final int[] marks = new int[DEPTH];
        private final int[] keptNexts = new int[DEPTH];
        private final int[] keptOthers = new int[DEPTH];
        private final int[] keptHelds = new int[DEPTH];
        int depth;
        int latest;
        private int thread;
        private int openNexts;
        private int openOthers;
        private int held;
        private int span;

        Weaver(Program program) {
            this.program = program;
        }

        void beginThread(int number) {
            thread = number;
            depth = 0;
            latest = NONE;
            openNexts = 0;
            openOthers = 0;
            held = 0;
            span = NONE;
        }

        boolean hasRoom() {
            return program.lengthOf(thread) < STEPS;
        }

        boolean isInSpan() {
            return span != NONE;
        }

        void emit(int kind, int subject) {
            closeOpen(program.lengthOf(thread));
            latest = program.addStep(thread, kind, subject, held, span);
            openNexts = latest == NONE ? 0 : 1 << latest;
        }

        /** What the latest step works on: the local that it sets, the parts of its sum or test. */
        void work(int target, int left, int sign, int right) {
            int slot = program.slotOf(thread, latest);
            program.targets[slot] = target;
            program.lefts[slot] = left;
            program.signs[slot] = sign;
            program.rights[slot] = right;
        }

        /** All steps whose next or other one was open go to this one. */
        private void closeOpen(int target) {
            for (int step = 0; step < STEPS; step++) {
                int slot = thread * STEPS + step;
                if (slot >= 0 && slot < ALL_STEPS) {
                    if ((openNexts >>> step & 1) != 0) {
                        program.nexts[slot] = target;
                    }
                    if ((openOthers >>> step & 1) != 0) {
                        program.others[slot] = target;
                    }
                }
            }
            openNexts = 0;
            openOthers = 0;
        }

        /** Enters a block; its mark is the lock of a 'lock', the test of an 'if' or 'while'. */
        void enter(int sort, int mark) {
            if (depth < 0 || depth >= DEPTH) {
                return;
            }
            sorts[depth] = sort;
            marks[depth] = mark;
            keptNexts[depth] = 0;
            keptOthers[depth] = 0;
            keptHelds[depth] = held;
            depth++;
            if (sort == LOCK_BLOCK) {
                held |= 1 << mark;
            } else if (sort == SPAN_BLOCK) {
                span = program.spans;
                program.spans++;
            }
        }

        int innermost() {
            return depth > 0 && depth <= DEPTH ? sorts[depth - 1] : NONE;
        }

        /** The then-side is done, and the other side begins in the same place of the stack. */
        void turnToElse() {
            if (depth > 0 && depth <= DEPTH) {
                int top = depth - 1;
                sorts[top] = ELSE_BLOCK;
                keptNexts[top] = openNexts;
                keptOthers[top] = openOthers;
                openNexts = 0;
                openOthers = 1 << marks[top];
            }
        }

        void leave() {
            if (depth <= 0 || depth > DEPTH) {
                return;
            }
            int top = depth - 1;
            int mark = marks[top];
            switch (sorts[top]) {
                case THREAD_BLOCK:
                    finishThread();
                    break;
                case LOCK_BLOCK:
                    emit(LEAVE, mark);
                    held = keptHelds[top];
                    break;
                case SPAN_BLOCK:
                    span = NONE;
                    break;
                case IF_BLOCK:
                    openOthers |= 1 << mark;
                    break;
                case ELSE_BLOCK:
                    openNexts |= keptNexts[top];
                    openOthers |= keptOthers[top];
                    break;
                default:
                    closeOpen(mark);
                    openOthers = 1 << mark;
                    break;
            }
            depth = top;
        }

        /** Behind the last steps of a thread, and behind each 'stop' wherever it stands, is none. */
        private void finishThread() {
            int length = program.lengthOf(thread);
            closeOpen(length);
            for (int step = 0; step < length && step < STEPS; step++) {
                int slot = program.slotOf(thread, step);
                if (program.kinds[slot] == STOP) {
                    program.nexts[slot] = length;
                }
            }
        }
    }

    /**
     * Reads a text, from the left, up to its first fault. All that can be wrong with a token is
     * looked at, the least kind first, before the next token is taken.
     */
    private static final class Reader {
        private final Program program;
        private final Tokens tokens;
        private final Names names = new Names();
        private final Weaver weaver;
        private final long[] meantWords = new long[ALL_STEPS];
        private final int[] meantPlaces = new int[ALL_STEPS];
        int faultKind;
        int faultPlace;

        Reader(byte[] tape, Program program) {
            this.program = program;
            tokens = new Tokens(tape);
            weaver = new Weaver(program);
        }

        void readText(int length) {
            faultKind = 0;
            faultPlace = 0;
            program.clear();
            names.clear();
            weaver.beginThread(0);
            tokens.scan(length);
            for (int turn = 0; turn <= TAPE && faultKind == 0; turn++) {
                if (weaver.depth > 0) {
                    readStatement();
                } else if (tokens.kind != TEXT_END) {
                    readTelling();
                } else {
                    break;
                }
            }
            for (int slot = 0; slot < ALL_STEPS && faultKind == 0; slot++) {
                findThread(slot);
            }
        }

        private boolean failHere(int kind) {
            faultKind = tokens.kind == BAD ? NO_TOKEN : kind;
            faultPlace = tokens.place;
            return false;
        }

        private boolean expect(int kind) {
            if (tokens.kind != kind) {
                return failHere(MISPLACED);
            }
            tokens.advance();
            return true;
        }

        private void readTelling() {
            int word = tokens.kind;
            boolean early = program.threads == 0;
            if (early && (word == WORD_FIELD || word == WORD_OPEN)) {
                tellField(word == WORD_OPEN);
            } else if (early && word == WORD_LOCK) {
                tellLock();
            } else if (word == WORD_THREAD) {
                tellThread();
            } else {
                failHere(MISPLACED);
            }
        }

        private void tellField(boolean open) {
            tokens.advance();
            if (!tellName(FIELD_NAME, program.fields, FIELDS)) {
                return;
            }
            int value = 0;
            if (tokens.kind == '=') {
                tokens.advance();
                value = (int) tokens.value;
                if (!expect(NUMBER)) {
                    return;
                }
            }
            if (expect(';')) {
                program.addField(value, open);
            }
        }

        private void tellLock() {
            tokens.advance();
            if (tellName(LOCK_NAME, program.locks, LOCKS) && expect(';')) {
                program.locks++;
            }
        }

        private void tellThread() {
            tokens.advance();
            if (tellName(THREAD_NAME, program.threads, THREADS)) {
                names.forgetLocals();
                weaver.beginThread(program.threads);
                program.threads++;
                openBlock(THREAD_BLOCK, NONE);
            }
        }

        private boolean tellName(int sort, int have, int most) {
            if (tokens.kind != NAME) {
                return failHere(MISPLACED);
            }
            if (names.sortOf(tokens.value) != NONE) {
                return failHere(NAMED_WRONG);
            }
            if (have >= most) {
                return failHere(TOO_MANY);
            }
            names.tell(tokens.value, sort, have);
            tokens.advance();
            return true;
        }

        private void openBlock(int sort, int mark) {
            if (tokens.kind == '{' && weaver.depth >= DEPTH) {
                failHere(TOO_MANY);
            } else if (expect('{')) {
                weaver.enter(sort, mark);
            }
        }

        private void readStatement() {
            switch (tokens.kind) {
                case '}': closeBlock(); break;
                case NAME: readSetting(); break;
                case WORD_SPAN: readSpan(); break;
                case WORD_LOCK: readLock(); break;
                case WORD_IF: readBranch(IF, IF_BLOCK); break;
                case WORD_WHILE: readBranch(WHILE, WHILE_BLOCK); break;
                case WORD_WAIT: readSignal(WAIT); break;
                case WORD_WAKE: readSignal(WAKE); break;
                case WORD_START: readThreadStep(START); break;
                case WORD_JOIN: readThreadStep(JOIN); break;
                case WORD_CHECK: readCheck(); break;
                case WORD_STOP: readStop(); break;
                default: failHere(MISPLACED); break;
            }
        }

        private boolean hasRoomForStep() {
            return weaver.hasRoom() || failHere(TOO_MANY);
        }

        private void closeBlock() {
            int sort = weaver.innermost();
            if (sort == LOCK_BLOCK && !hasRoomForStep()) {
                return;
            }
            tokens.advance();
            if (sort == IF_BLOCK && tokens.kind == WORD_ELSE) {
                tokens.advance();
                weaver.turnToElse();
                expect('{');
            } else {
                weaver.leave();
            }
        }

        private void readSpan() {
            if (weaver.isInSpan()) {
                failHere(MISPLACED);
            } else if (program.spans >= SPANS) {
                failHere(TOO_MANY);
            } else {
                tokens.advance();
                openBlock(SPAN_BLOCK, NONE);
            }
        }

        private void readLock() {
            if (hasRoomForStep()) {
                tokens.advance();
                int lock = takeLockName();
                if (lock != NONE) {
                    weaver.emit(TAKE, lock);
                    openBlock(LOCK_BLOCK, lock);
                }
            }
        }

        /** The number of the lock whose NAME stands here; NONE with a fault. */
        private int takeLockName() {
            int lock = tokens.kind == NAME ? names.numberOf(tokens.value, LOCK_NAME) : NONE;
            if (lock != NONE) {
                tokens.advance();
                return lock;
            }
            failAtWrongToken();
            return NONE;
        }

        /** A NAME that is told, or a local, is of another sort; any other NAME is one not told. */
        private void failAtWrongToken() {
            boolean unknown = tokens.kind == NAME && names.sortOf(tokens.value) == NONE
                    && names.localOf(tokens.value) == NONE;
            failHere(unknown ? NAMED_WRONG : MISPLACED);
        }

        private void readBranch(int kind, int block) {
            if (hasRoomForStep()) {
                tokens.advance();
                if (readTest(kind)) {
                    openBlock(block, weaver.latest);
                }
            }
        }

        private void readCheck() {
            if (hasRoomForStep()) {
                tokens.advance();
                if (readTest(CHECK)) {
                    expect(';');
                }
            }
        }

        private boolean readTest(int kind) {
            int left = takeTestValue();
            if (left == NONE) {
                return false;
            }
            int sign = tokens.kind;
            if (sign != SAME && sign != DIFFERENT && sign != '<' && sign != '>') {
                return failHere(MISPLACED);
            }
            tokens.advance();
            int right = takeTestValue();
            if (right == NONE) {
                return false;
            }
            weaver.emit(kind, NONE);
            weaver.work(NONE, left, sign, right);
            return true;
        }

        /** A NUMBER is its value, local i is 8 + i; NONE with a fault. */
        private int takeTestValue() {
            int local = tokens.kind == NAME ? names.localOf(tokens.value) : NONE;
            if (local == NONE && tokens.kind != NUMBER) {
                failAtWrongToken();
                return NONE;
            }
            int value = local == NONE ? (int) tokens.value : 8 + local;
            tokens.advance();
            return value;
        }

        /** As in a test, but a NAME that is not told is a local, though it has not come before. */
        private int takeSetValue() {
            boolean named = tokens.kind == NAME;
            if (!named && tokens.kind != NUMBER || named && names.sortOf(tokens.value) != NONE) {
                failHere(MISPLACED);
                return NONE;
            }
            int local = named ? names.makeLocal(tokens.value) : NONE;
            if (named && local == NONE) {
                failHere(TOO_MANY);
                return NONE;
            }
            int value = named ? 8 + local : (int) tokens.value;
            tokens.advance();
            return value;
        }

        private void readSetting() {
            int sort = names.sortOf(tokens.value);
            if (sort == LOCK_NAME || sort == THREAD_NAME) {
                failHere(MISPLACED);
                return;
            }
            boolean writes = sort == FIELD_NAME;
            int left = writes ? names.numberOf(tokens.value, sort) : names.makeLocal(tokens.value);
            if (left == NONE || !weaver.hasRoom()) {
                failHere(TOO_MANY);
                return;
            }
            tokens.advance();
            if (!expect('=')) {
                return;
            }
            int right = tokens.kind == NAME ? names.numberOf(tokens.value, FIELD_NAME) : NONE;
            if (writes) {
                readWrite(left);
            } else if (right != NONE) {
                readRead(left, right);
            } else {
                readSum(left);
            }
        }

        private void readWrite(int field) {
            int value = takeSetValue();
            if (value != NONE) {
                weaver.emit(WRITE, field);
                weaver.work(NONE, value, NONE, 0);
                expect(';');
            }
        }

        private void readRead(int local, int field) {
            tokens.advance();
            weaver.emit(READ, field);
            weaver.work(local, 0, NONE, 0);
            expect(';');
        }

        private void readSum(int local) {
            int left = takeSetValue();
            if (left == NONE) {
                return;
            }
            int sign = NONE;
            int right = 0;
            if (tokens.kind == '+' || tokens.kind == '-') {
                sign = tokens.kind;
                tokens.advance();
                right = takeSetValue();
            }
            if (right != NONE) {
                weaver.emit(SET, NONE);
                weaver.work(local, left, sign, right);
                expect(';');
            }
        }

        private void readSignal(int kind) {
            if (!hasRoomForStep()) {
                return;
            }
            tokens.advance();
            boolean all = kind == WAKE && tokens.kind == WORD_ALL;
            if (all) {
                tokens.advance();
            }
            int lock = takeLockName();
            if (lock != NONE) {
                weaver.emit(all ? WAKE_ALL : kind, lock);
                expect(';');
            }
        }

        private void readStop() {
            if (hasRoomForStep()) {
                tokens.advance();
                weaver.emit(STOP, NONE);
                expect(';');
            }
        }

        /** Which thread is meant is known only at the end of the text: the NAME is kept till then. */
        private void readThreadStep(int kind) {
            if (!hasRoomForStep()) {
                return;
            }
            tokens.advance();
            int sort = tokens.kind == NAME ? names.sortOf(tokens.value) : FIELD_NAME;
            if (sort == FIELD_NAME || sort == LOCK_NAME) {
                failHere(MISPLACED);
                return;
            }
            weaver.emit(kind, NONE);
            int slot = program.slotOf(program.threads - 1, weaver.latest);
            if (slot < ALL_STEPS) {
                meantWords[slot] = tokens.value;
                meantPlaces[slot] = tokens.place;
            }
            tokens.advance();
            expect(';');
        }

        private void findThread(int at) {
            int slot = program.slotOf(at / STEPS, at % STEPS);
            int kind = program.kinds[slot];
            if (slot >= ALL_STEPS || kind != START && kind != JOIN) {
                return;
            }
            int meant = names.numberOf(meantWords[slot], THREAD_NAME);
            if (meant == NONE) {
                faultKind = UNTOLD;
                faultPlace = meantPlaces[slot];
            } else {
                program.setThread(slot, meant);
            }
        }
    }

    /**
     * What a state is, and how a thread's step changes it. A state is a row of WORDS numbers: the
     * fields' values, three bits each; then of each thread the locals (bits 0 .. 8), the next step
     * (9 .. 13), how it is (14 .. 16), and with a span at once whether its last step was inside (17).
     * Which locks a thread has, and how often, needs no place there: it follows from where it stands,
     * as each 'lock' is taken and left round a block.
     */
    private static final class Machine {
        private static final int STEP_BIT = 9, HOW_BIT = 14, SPAN_BIT = 17, LOCAL_BITS = 511;
        private final Program program;
        private final int[] hows = new int[THREADS];
        private final int[] slots = new int[THREADS];
        private final int[] owners = new int[LOCKS];
        private final int[] now = new int[WORDS];
        /** The state that comes by the setFirst() or move() asked last. */
        final int[] coming = new int[WORDS];

        Machine(Program program) {
            this.program = program;
        }

        void setFirst() {
            coming[0] = program.firstValues;
            for (int thread = 0; thread < THREADS; thread++) {
                int how = program.lengthOf(thread) == 0 ? ENDED : RUNNING;
                if (program.startersOf(thread) != 0) {
                    how = NOT_STARTED;
                }
                coming[thread + 1] = how << HOW_BIT;
            }
        }

        /** Makes the row that begins in this place the state that is asked about and moved from. */
        void load(int[] words, int from) {
            if (from < 0 || from + WORDS > words.length) {
                return;
            }
            System.arraycopy(words, from, now, 0, WORDS);
            Arrays.fill(owners, NONE);
            for (int thread = 0; thread < THREADS; thread++) {
                int word = now[thread + 1];
                hows[thread] = word >>> HOW_BIT & 7;
                slots[thread] = program.slotOf(thread, word >>> STEP_BIT & 31);
                int had = locksOf(thread);
                for (int lock = 0; lock < LOCKS && had != 0; lock++) {
                    if ((had >>> lock & 1) != 0) {
                        owners[lock] = thread;
                    }
                }
            }
        }

        /** The locks that a thread has, as bits. */
        private int locksOf(int thread) {
            int slot = slotOf(thread);
            switch (howOf(thread)) {
                case RUNNING: return program.helds[slot];
                case WAITING:
                case WOKEN: return program.helds[slot] & ~(1 << program.subjects[slot]);
                default: return 0;
            }
        }

        private int slotOf(int thread) {
            return thread >= 0 && thread < THREADS ? slots[thread] : NOWHERE;
        }

        private int wordOf(int thread) {
            return thread >= 0 && thread < THREADS ? now[thread + 1] : 0;
        }

        int howOf(int thread) {
            return thread >= 0 && thread < THREADS ? hows[thread] : NONE;
        }

        int stepOf(int thread) {
            return wordOf(thread) >>> STEP_BIT & 31;
        }

        int localOf(int thread, int local) {
            return thread >= 0 && thread < THREADS ? now[thread + 1] >>> 3 * local & 7 : 0;
        }

        int valueOfField(int field) {
            return now[0] >>> 3 * field & 7;
        }

        int ownerOf(int lock) {
            return lock >= 0 && lock < LOCKS ? owners[lock] : NONE;
        }

        boolean canMove(int thread) {
            int how = howOf(thread);
            int slot = slotOf(thread);
            int subject = program.subjects[slot];
            if (how == WOKEN) {
                return ownerOf(subject) == NONE;
            }
            if (how != RUNNING) {
                return false;
            }
            switch (program.kinds[slot]) {
                case TAKE: return ownerOf(subject) == NONE || ownerOf(subject) == thread;
                case JOIN: return howOf(subject) == ENDED || howOf(subject) == FAILED;
                default: return true;
            }
        }

        /** The thread that alone may step, as it is inside the span that is done at once; or NONE. */
        int aloneIn(int span) {
            for (int thread = 0; thread < program.threads && span != NONE; thread++) {
                boolean inside = (wordOf(thread) >>> SPAN_BIT & 1) != 0
                        && howOf(thread) == RUNNING
                        && program.spanNumbers[slotOf(thread)] == span;
                if (inside && canMove(thread)) {
                    return thread;
                }
            }
            return NONE;
        }

        /** The thread, which can step, does its step: the state that comes. */
        void move(int thread, int span) {
            if (thread < 0 || thread >= THREADS) {
                return;
            }
            int slot = slotOf(thread);
            int inside = span != NONE && program.spanNumbers[slot] == span ? 1 : 0;
            System.arraycopy(now, 0, coming, 0, WORDS);
            coming[thread + 1] = now[thread + 1] & ~(1 << SPAN_BIT) | inside << SPAN_BIT;
            boolean well = true;
            int next = program.nexts[slot];
            switch (howOf(thread) == WOKEN ? NONE : program.kinds[slot]) {
                case READ:
                case WRITE:
                case SET: work(thread, slot); break;
                case IF:
                case WHILE: next = holds(thread, slot) ? next : program.others[slot]; break;
                case CHECK: well = holds(thread, slot); break;
                case WAIT:
                case WAKE:
                case WAKE_ALL: well = signal(thread, slot); break;
                case START: well = startThread(program.subjects[slot]); break;
                default: break;
            }
            if (!well) {
                place(thread, stepOf(thread), FAILED);
            } else if (howOf(thread) == RUNNING && program.kinds[slot] == WAIT) {
                place(thread, stepOf(thread), WAITING);
            } else {
                goTo(thread, next);
            }
        }

        private void goTo(int thread, int next) {
            boolean over = next < 0 || next >= program.lengthOf(thread);
            place(thread, over ? program.lengthOf(thread) : next, over ? ENDED : RUNNING);
        }

        /** Who is ENDED or FAILED is no longer inside a span, whatever its last step was. */
        private void place(int thread, int step, int how) {
            boolean gone = how == ENDED || how == FAILED;
            int kept = gone ? LOCAL_BITS : LOCAL_BITS | 1 << SPAN_BIT;
            if (thread >= 0 && thread < THREADS) {
                coming[thread + 1] = coming[thread + 1] & kept | step << STEP_BIT | how << HOW_BIT;
            }
        }

        private int valueOf(int thread, int value) {
            return value < 8 ? value : localOf(thread, value - 8);
        }

        private void work(int thread, int slot) {
            int kind = program.kinds[slot];
            int value = valueOf(thread, program.lefts[slot]);
            int right = valueOf(thread, program.rights[slot]);
            if (kind == READ) {
                value = valueOfField(program.subjects[slot]);
            } else if (program.signs[slot] == '+') {
                value += right;
            } else if (program.signs[slot] == '-') {
                value -= right;
            }
            int at = kind == WRITE ? 0 : thread + 1;
            int shift = 3 * (kind == WRITE ? program.subjects[slot] : program.targets[slot]);
            if (at >= 0 && at < WORDS) {
                coming[at] = coming[at] & ~(7 << shift) | (value & 7) << shift;
            }
        }

        private boolean holds(int thread, int slot) {
            int left = valueOf(thread, program.lefts[slot]);
            int right = valueOf(thread, program.rights[slot]);
            switch (program.signs[slot]) {
                case SAME: return left == right;
                case DIFFERENT: return left != right;
                case '<': return left < right;
                default: return left > right;
            }
        }

        /** What 'wait' and 'wake' do for others; false if the thread does not have the lock. */
        private boolean signal(int thread, int slot) {
            int lock = program.subjects[slot];
            int kind = program.kinds[slot];
            if (ownerOf(lock) != thread) {
                return false;
            }
            boolean waking = kind != WAIT;
            for (int other = 0; other < program.threads && waking; other++) {
                if (howOf(other) == WAITING && program.subjects[slotOf(other)] == lock) {
                    place(other, stepOf(other), WOKEN);
                    waking = kind == WAKE_ALL;
                }
            }
            return true;
        }

        private boolean startThread(int other) {
            if (howOf(other) != NOT_STARTED) {
                return false;
            }
            goTo(other, 0);
            return true;
        }

        /** Who is FAILED, as bits. */
        int failed() {
            int bits = 0;
            for (int thread = 0; thread < program.threads; thread++) {
                if (howOf(thread) == FAILED) {
                    bits |= 1 << thread;
                }
            }
            return bits;
        }

        private boolean isGone(int thread) {
            int how = howOf(thread);
            return how == ENDED || how == FAILED || how == NOT_STARTED;
        }

        boolean isOver() {
            for (int thread = 0; thread < program.threads; thread++) {
                if (!isGone(thread)) {
                    return false;
                }
            }
            return true;
        }

        boolean onlyWaits() {
            for (int thread = 0; thread < program.threads; thread++) {
                if (!isGone(thread) && howOf(thread) != WAITING) {
                    return false;
                }
            }
            return true;
        }

        /** Who has the lock that a RUNNING thread is about to take, if it is another one; or NONE. */
        private int blockerOf(int thread) {
            int slot = slotOf(thread);
            if (howOf(thread) != RUNNING || program.kinds[slot] != TAKE) {
                return NONE;
            }
            int owner = ownerOf(program.subjects[slot]);
            return owner == thread ? NONE : owner;
        }

        boolean hasRing() {
            for (int thread = 0; thread < program.threads; thread++) {
                int at = blockerOf(thread);
                for (int turn = 0; turn < THREADS && at != NONE; turn++) {
                    if (at == thread) {
                        return true;
                    }
                    at = blockerOf(at);
                }
            }
            return false;
        }

        /** The outcome as a number: the fields' values, who is FAILED, whether all stand for ever. */
        int outcome() {
            int stands = isOver() ? 0 : 1;
            return now[0] | failed() << 3 * FIELDS | stands << 3 * FIELDS + THREADS;
        }
    }

    /** All states of a program, in the order in which they are found. */
    private static final class Space {
        private final Program program;
        private final Machine machine;
        private final int[] words = new int[STATES * WORDS];
        private final int[] ways = new int[STATES];
        private final boolean[] lasts = new boolean[STATES];
        private final int[] table = new int[TABLE];
        int size;

        Space(Program program, Machine machine) {
            this.program = program;
            this.machine = machine;
        }

        boolean has(int state) {
            return state >= 0 && state < size && state < STATES;
        }

        boolean isLast(int state) {
            return has(state) && lasts[state];
        }

        /** Makes a state the one that the machine tells about. */
        void load(int state) {
            if (has(state)) {
                machine.load(words, state * WORDS);
            }
        }

        /** Finds all states, with a span at once or (NONE) without; false if they are too many. */
        boolean explore(int span) {
            size = 0;
            Arrays.fill(table, 0);
            machine.setFirst();
            boolean few = note(0);
            for (int state = 0; state < size && state < STATES && few; state++) {
                few = exploreFrom(state, span);
            }
            return few;
        }

        private boolean exploreFrom(int state, int span) {
            load(state);
            int alone = machine.aloneIn(span);
            boolean last = true;
            for (int thread = 0; thread < program.threads; thread++) {
                boolean may = alone == NONE || alone == thread;
                if (may && machine.canMove(thread)) {
                    last = false;
                    machine.move(thread, span);
                    if (!note(state * THREADS + thread)) {
                        return false;
                    }
                }
            }
            if (has(state)) {
                lasts[state] = last;
            }
            return true;
        }

        /** Numbers the coming state, if it is new; false if there is no number left. */
        private boolean note(int way) {
            int slot = slotOfComing();
            if (table[slot] != 0) {
                return true;
            }
            if (size < 0 || size >= STATES) {
                return false;
            }
            System.arraycopy(machine.coming, 0, words, size * WORDS, WORDS);
            ways[size] = way;
            size++;
            table[slot] = size;
            return true;
        }

        /** Where the coming state stands in the table, or would: the table is never full. */
        private int slotOfComing() {
            int hash = 0;
            for (int i = 0; i < WORDS; i++) {
                hash = (hash ^ machine.coming[i]) * 0x9E3779B1;
                hash ^= hash >>> 15;
            }
            int slot = hash & TABLE - 1;
            for (int turn = 0; turn < TABLE && table[slot] != 0; turn++) {
                if (isComing(table[slot] - 1)) {
                    return slot;
                }
                slot = slot + 1 & TABLE - 1;
            }
            return slot;
        }

        private boolean isComing(int state) {
            for (int i = 0; i < WORDS && has(state); i++) {
                if (words[state * WORDS + i] != machine.coming[i]) {
                    return false;
                }
            }
            return true;
        }

        /** Writes who stepped on the way to a state into a row: how many steps. */
        int wayTo(int state, int[] into) {
            int steps = 0;
            for (int at = state; at > 0 && has(at) && steps < STATES; at = ways[at] / THREADS) {
                steps++;
            }
            int place = steps - 1;
            for (int at = state; at > 0 && has(at) && place >= 0; at = ways[at] / THREADS) {
                if (place < into.length) {
                    into[place] = ways[at] % THREADS;
                }
                place--;
            }
            return steps;
        }
    }

    /** The different outcomes of all last states, and of each the least state. */
    private static final class Outcomes {
        private final Machine machine;
        private final Numbers codes = new Numbers(STATES);
        final Numbers states = new Numbers(STATES);
        private final int[] table = new int[TABLE];

        Outcomes(Machine machine) {
            this.machine = machine;
        }

        void gather(Space space) {
            codes.clear();
            states.clear();
            Arrays.fill(table, 0);
            for (int state = 0; state < space.size; state++) {
                if (space.isLast(state)) {
                    space.load(state);
                    note(machine.outcome(), state);
                }
            }
        }

        private void note(int code, int state) {
            int slot = slotOf(code);
            if (table[slot] == 0) {
                codes.add(code);
                states.add(state);
                table[slot] = codes.size;
            }
        }

        /** Where an outcome stands in the table, or would: the table is never full. */
        private int slotOf(int code) {
            int hash = code * 0x9E3779B1;
            int slot = (hash ^ hash >>> 15) & TABLE - 1;
            for (int turn = 0; turn < TABLE && table[slot] != 0; turn++) {
                if (codes.get(table[slot] - 1) == code) {
                    return slot;
                }
                slot = slot + 1 & TABLE - 1;
            }
            return slot;
        }

        boolean isSameAs(Outcomes others) {
            if (codes.size != others.codes.size) {
                return false;
            }
            for (int k = 0; k < others.codes.size; k++) {
                if (table[slotOf(others.codes.get(k))] == 0) {
                    return false;
                }
            }
            return true;
        }
    }

    /** What stands out among all states. */
    private static final class Findings {
        private final Program program;
        private final Machine machine;
        final Numbers ends = new Numbers(STATES);
        final Numbers stucks = new Numbers(STATES);
        final Numbers failures = new Numbers(STATES);
        final Numbers races = new Numbers(PAIRS);
        final Numbers raceStates = new Numbers(PAIRS);
        final Outcomes outcomes;
        private final int[] leastStates = new int[ALL_STEPS * ALL_STEPS];

        Findings(Program program, Machine machine) {
            this.program = program;
            this.machine = machine;
            outcomes = new Outcomes(machine);
        }

        void gather(Space space) {
            ends.clear();
            stucks.clear();
            failures.clear();
            Arrays.fill(leastStates, NONE);
            for (int state = 0; state < space.size; state++) {
                space.load(state);
                if (machine.failed() != 0) {
                    failures.add(state);
                }
                if (space.isLast(state)) {
                    Numbers kind = machine.isOver() ? ends : stucks;
                    kind.add(state);
                }
                noteRaces(state);
            }
            listRaces();
            outcomes.gather(space);
        }

        /** A READ or WRITE can always be stepped, so whether the threads can need not be asked. */
        private void noteRaces(int state) {
            for (int a = 0; a < program.threads; a++) {
                for (int b = a + 1; b < program.threads; b++) {
                    if (machine.howOf(a) == RUNNING && machine.howOf(b) == RUNNING) {
                        noteRace(a * STEPS + machine.stepOf(a), b * STEPS + machine.stepOf(b), state);
                    }
                }
            }
        }

        private void noteRace(int slot, int other, int state) {
            if (program.clash(slot, other)) {
                int pair = slot * ALL_STEPS + other;
                if (pair >= 0 && pair < leastStates.length && leastStates[pair] == NONE) {
                    leastStates[pair] = state;
                }
            }
        }

        private void listRaces() {
            races.clear();
            raceStates.clear();
            for (int pair = 0; pair < leastStates.length; pair++) {
                if (leastStates[pair] != NONE) {
                    races.add(pair);
                    raceStates.add(leastStates[pair]);
                }
            }
        }
    }

    /** What is judged by the text alone; worked out when it is first asked for. */
    private static final class Judge {
        private final Program program;
        private final int[] nears = new int[THREADS * THREADS];
        private final int[] ringRow = new int[THREADS];
        final Numbers doubtful = new Numbers(PAIRS);
        int ringCount;
        private boolean ready;

        Judge(Program program) {
            this.program = program;
        }

        void forget() {
            ready = false;
        }

        void prepare() {
            if (!ready) {
                ready = true;
                for (int at = 0; at < THREADS * THREADS; at++) {
                    nears[at] = stepsNear(at / THREADS, at % THREADS);
                }
                listDoubts();
                ringCount = countRings();
            }
        }

        /** The steps that may come right behind a step, as bits. */
        private int behind(int thread, int step) {
            int slot = program.slotOf(thread, step);
            int next = program.nexts[slot];
            int other = program.others[slot];
            int length = program.lengthOf(thread);
            int bits = next >= 0 && next < length ? 1 << next : 0;
            return other >= 0 && other < length ? bits | 1 << other : bits;
        }

        /** These steps and all to which ways lead from them that go through none of the walls. */
        private int spread(int thread, int from, int walls) {
            int seen = from;
            for (int turn = 0; turn < STEPS; turn++) {
                int before = seen;
                for (int step = 0; step < STEPS; step++) {
                    if ((seen & ~walls & 1 << step) != 0) {
                        seen |= behind(thread, step);
                    }
                }
                if (seen == before) {
                    return seen;
                }
            }
            return seen;
        }

        private int stepsWith(int thread, int kind, int subject) {
            int bits = 0;
            for (int step = 0; step < program.lengthOf(thread); step++) {
                int slot = program.slotOf(thread, step);
                if (program.kinds[slot] == kind && program.subjects[slot] == subject) {
                    bits |= 1 << step;
                }
            }
            return bits;
        }

        /** The steps of b that nothing keeps from those of a, as far as it lies with b's text. */
        private int stepsNear(int b, int a) {
            int first = program.lengthOf(b) > 0 ? 1 : 0;
            int near = spread(b, first, stepsWith(b, JOIN, a));
            if (a != b && program.startersOf(a) == 1 << b) {
                near &= stepsAfter(b, stepsWith(b, START, a));
            }
            return near;
        }

        /** The steps that come after one of some steps at least. */
        private int stepsAfter(int thread, int some) {
            int from = 0;
            for (int step = 0; step < STEPS; step++) {
                if ((some >>> step & 1) != 0) {
                    from |= behind(thread, step);
                }
            }
            return spread(thread, from, 0);
        }

        boolean canMeet(int a, int step, int b, int other) {
            if (a < 0 || a >= THREADS || b < 0 || b >= THREADS) {
                return false;
            }
            return (nears[a * THREADS + b] >>> step & nears[b * THREADS + a] >>> other & 1) != 0;
        }

        private void listDoubts() {
            doubtful.clear();
            for (int slot = 0; slot < ALL_STEPS; slot++) {
                int a = slot / STEPS;
                for (int other = (a + 1) * STEPS; other < ALL_STEPS; other++) {
                    if (isDoubtful(a, slot % STEPS, other / STEPS, other % STEPS)) {
                        doubtful.add(slot * ALL_STEPS + other);
                    }
                }
            }
        }

        private boolean isDoubtful(int a, int step, int b, int other) {
            int slot = program.slotOf(a, step);
            int second = program.slotOf(b, other);
            return program.clash(slot, second)
                    && (program.helds[slot] & program.helds[second]) == 0
                    && canMeet(a, step, b, other);
        }

        int guardsOf(int field) {
            int bits = (1 << program.locks) - 1;
            for (int at = 0; at < ALL_STEPS; at++) {
                int slot = program.slotOf(at / STEPS, at % STEPS);
                boolean touches = program.kinds[slot] == READ || program.kinds[slot] == WRITE;
                if (touches && program.subjects[slot] == field) {
                    bits &= program.helds[slot];
                }
            }
            return bits;
        }

        /** Each ring is counted from its taking of the least thread: a row turned round is one. */
        private int countRings() {
            int sum = 0;
            for (int at = 0; at < ALL_STEPS; at++) {
                int slot = program.slotOf(at / STEPS, at % STEPS);
                if (program.kinds[slot] == TAKE) {
                    ringRow[0] = slot;
                    sum += countRingsFrom(1, program.helds[slot]);
                }
            }
            return sum;
        }

        /** How many rings begin with the first takings of the row, at which these locks are held. */
        private int countRingsFrom(int size, int held) {
            if (size <= 0 || size > THREADS) {
                return 0;
            }
            int first = ringRow[0];
            int lock = program.subjects[ringRow[size - 1]];
            int sum = size > 1 ? program.helds[first] >>> lock & 1 : 0;
            for (int thread = first / STEPS + 1; thread < program.threads; thread++) {
                sum += countRingsWith(size, held, lock, thread);
            }
            return sum;
        }

        /**
         * The same of those whose next taking is of this thread. That all locks are different need
         * not be asked: each is held at the next taking, and none is held at two.
         */
        private int countRingsWith(int size, int held, int lock, int thread) {
            int sum = 0;
            for (int step = 0; step < program.lengthOf(thread) && size < THREADS; step++) {
                int slot = program.slotOf(thread, step);
                int own = program.helds[slot];
                if (program.kinds[slot] == TAKE && (own >>> lock & 1) != 0 && (own & held) == 0
                        && fitsRing(size, thread, step)) {
                    ringRow[size] = slot;
                    sum += countRingsFrom(size + 1, held | own);
                }
            }
            return sum;
        }

        private boolean fitsRing(int size, int thread, int step) {
            for (int i = 0; i < size && i < THREADS; i++) {
                int before = ringRow[i] / STEPS;
                if (before == thread || !canMeet(before, ringRow[i] % STEPS, thread, step)) {
                    return false;
                }
            }
            return true;
        }
    }
}
