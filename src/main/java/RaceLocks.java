import java.util.Arrays;

/**
 * Programs of a few threads that share fields and locks, all ways in which their steps may follow
 * one another, and what can be judged of them without trying. The document's numbered promises say
 * what each call answers.
 */
public final class RaceLocks {
    public static final int NONE = -1;
    public static final int STATE = -101, OUTSIDE = -102, MANY = -103;

    private static final int TAPE = 1500, FED = 20;
    private static final int FIELDS = 6, LOCKS = 4, THREADS = 4, LOCALS = 3;
    private static final int STEPS = 24, SPANS = 6, DEPTH = 8, WORD_BYTES = 6;
    private static final int ALL_STEPS = THREADS * STEPS;
    private static final int PAIRS = THREADS * (THREADS - 1) / 2 * STEPS * STEPS;
    private static final int STATES = 4000, TABLE = 8192, WORDS = THREADS + 1;

    // What a step is, as step(.., .., 0) tells it.
    private static final int READ = 0, WRITE = 1, SET = 2, TAKE = 3, LEAVE = 4, IF = 5, WHILE = 6;
    private static final int WAIT = 7, WAKE = 8, WAKE_ALL = 9, START = 10, JOIN = 11, CHECK = 12;
    private static final int STOP = 13;

    // How a thread is, as thread(.., .., 0) tells it.
    private static final int NOT_STARTED = 0, RUNNING = 1, WAITING = 2, WOKEN = 3, ENDED = 4;
    private static final int FAILED = 5;

    private static final int NO_TOKEN = 1, MISPLACED = 2, NAMED_WRONG = 3, TOO_MANY = 4, UNTOLD = 5;
    private static final int FIELD_NAME = 0, LOCK_NAME = 1, THREAD_NAME = 2;
    private static final int THREAD_BLOCK = 0, LOCK_BLOCK = 1, SPAN_BLOCK = 2, IF_BLOCK = 3;
    private static final int ELSE_BLOCK = 4, WHILE_BLOCK = 5;

    // Tokens: a sign of one byte is its byte, so the others stand below or above all bytes of signs.
    private static final int TEXT_END = 0, BAD = 1, NUMBER = 2, NAME = 3;
    private static final int SAME = 256, DIFFERENT = 257;
    private static final int WORD_FIELD = 300, WORD_OPEN = 301, WORD_LOCK = 302, WORD_THREAD = 303;
    private static final int WORD_IF = 304, WORD_ELSE = 305, WORD_WHILE = 306, WORD_WAIT = 307;
    private static final int WORD_WAKE = 308, WORD_ALL = 309, WORD_START = 310, WORD_JOIN = 311;
    private static final int WORD_CHECK = 312, WORD_STOP = 313, WORD_SPAN = 314;

    /** The words that are no NAMES, a byte after the other, in the order of WORD_FIELD and on. */
    private static final long[] RESERVED = {
        0x6669656c64L, 0x6f70656eL, 0x6c6f636bL, 0x746872656164L, 0x6966L,
        0x656c7365L, 0x7768696c65L, 0x77616974L, 0x77616b65L, 0x616c6cL,
        0x7374617274L, 0x6a6f696eL, 0x636865636bL, 0x73746f70L, 0x7370616eL
    };

    private final byte[] tape;
    private final Program program;
    private final Reader reader;
    private final Machine machine;
    private final Space space;
    private final Findings findings;
    private final Space trial;
    private final Outcomes trialOutcomes;
    private final int[] wholes;
    private final Judge judge;
    private final int[] schedule;
    private int taped;
    private int faultKind;
    private boolean loaded;
    private boolean tried;
    private boolean allFound;
    private int told;

    public RaceLocks() {
        tape = new byte[TAPE];
        program = new Program();
        reader = new Reader(tape, program);
        machine = new Machine(program);
        space = new Space(program, machine);
        findings = new Findings(program, machine);
        trial = new Space(program, machine);
        trialOutcomes = new Outcomes(machine);
        wholes = new int[SPANS];
        judge = new Judge(program);
        schedule = new int[STATES];
        told = NONE;
    }

    public int feed(int a, int b, int c, int d, int e) throws IllegalStateException {
        if (taped < 0 || taped + FED > TAPE) {
            throw new IllegalStateException("the tape would have more than 1500 bytes");
        }
        putBytes(a);
        putBytes(b);
        putBytes(c);
        putBytes(d);
        putBytes(e);
        return taped;
    }

    private void putBytes(int number) {
        for (int shift = 24; shift >= 0 && taped < TAPE; shift -= 8) {
            tape[taped] = (byte) (number >>> shift);
            taped++;
        }
    }

    public void end(int n) throws IllegalArgumentException {
        if (n < 0 || n > taped) {
            throw new IllegalArgumentException("the tape has no such length");
        }
        taped = n;
    }

    public int read() {
        reader.readText(taped);
        taped = 0;
        faultKind = reader.faultKind;
        loaded = faultKind == 0;
        tried = false;
        allFound = false;
        told = NONE;
        judge.forget();
        Arrays.fill(wholes, NONE);
        return loaded ? program.total : -1000 - reader.faultPlace;
    }

    public int fault() {
        return faultKind;
    }

    public int count(int what) {
        if (!loaded) {
            return STATE;
        }
        switch (what) {
            case 0: return program.fields;
            case 1: return program.locks;
            case 2: return program.threads;
            case 3: return program.spans;
            case 4: return program.total;
            default: return OUTSIDE;
        }
    }

    public int step(int thread, int step, int what) {
        if (!loaded) {
            return STATE;
        }
        if (!program.hasStep(thread, step)) {
            return OUTSIDE;
        }
        switch (what) {
            case 0: return program.kindAt(thread, step);
            case 1: return program.subjectAt(thread, step);
            case 2: return program.nextAt(thread, step);
            case 3: return program.otherAt(thread, step);
            case 4: return program.heldAt(thread, step);
            case 5: return program.spanAt(thread, step);
            default: return OUTSIDE;
        }
    }

    public int run() {
        if (!loaded) {
            return STATE;
        }
        told = NONE;
        if (!tried) {
            tried = true;
            allFound = space.explore(NONE);
            if (allFound) {
                findings.gather(space);
            }
        }
        return allFound ? space.size : MANY;
    }

    public int found(int what) {
        if (!allFound) {
            return STATE;
        }
        switch (what) {
            case 0: return findings.ends.size;
            case 1: return findings.stucks.size;
            case 2: return findings.races.size;
            case 3: return findings.outcomes.states.size;
            case 4: return findings.failures.size;
            default: return OUTSIDE;
        }
    }

    public int show(int kind, int k) {
        if (!allFound) {
            return STATE;
        }
        int state = shownState(kind, k);
        if (state == NONE) {
            return OUTSIDE;
        }
        told = space.wayTo(state, schedule);
        return state;
    }

    private int shownState(int kind, int k) {
        switch (kind) {
            case 0: return findings.raceStates.get(k);
            case 1: return findings.stucks.get(k);
            case 2: return findings.ends.get(k);
            case 3: return findings.outcomes.states.get(k);
            case 4: return findings.failures.get(k);
            default: return NONE;
        }
    }

    public int length() {
        return told == NONE ? STATE : told;
    }

    public int who(int i) {
        if (told == NONE) {
            return STATE;
        }
        return i < 0 || i >= told || i >= STATES ? OUTSIDE : schedule[i];
    }

    public int race(int k, int what) {
        if (!allFound) {
            return STATE;
        }
        return program.partOfPair(findings.races.get(k), what);
    }

    public int thread(int state, int thread, int what) {
        if (!allFound) {
            return STATE;
        }
        if (!program.hasThread(thread) || !space.has(state)) {
            return OUTSIDE;
        }
        int[] row = space.rowOf(state);
        switch (what) {
            case 0: return machine.howOf(row, thread);
            case 1: return machine.stepOf(row, thread);
            case 2: return machine.canMove(row, thread) ? 1 : 0;
            case 3:
            case 4:
            case 5: return machine.localOf(row, thread, what - 3);
            default: return OUTSIDE;
        }
    }

    public int field(int state, int field) {
        if (!allFound) {
            return STATE;
        }
        if (field < 0 || field >= program.fields || !space.has(state)) {
            return OUTSIDE;
        }
        return machine.valueOfField(space.rowOf(state), field);
    }

    public int owner(int state, int lock) {
        if (!allFound) {
            return STATE;
        }
        if (lock < 0 || lock >= program.locks || !space.has(state)) {
            return OUTSIDE;
        }
        return machine.ownerOf(space.rowOf(state), lock);
    }

    public int stuck(int state) {
        if (!allFound) {
            return STATE;
        }
        if (!space.has(state) || !space.isLast(state)) {
            return OUTSIDE;
        }
        int[] row = space.rowOf(state);
        if (machine.isOver(row)) {
            return OUTSIDE;
        }
        if (machine.hasRing(row)) {
            return 1;
        }
        return machine.onlyWaits(row) ? 2 : 3;
    }

    public int whole(int span) {
        if (!allFound) {
            return STATE;
        }
        if (span < 0 || span >= program.spans || span >= SPANS) {
            return OUTSIDE;
        }
        if (wholes[span] == NONE) {
            wholes[span] = tryAtOnce(span);
        }
        return wholes[span];
    }

    private int tryAtOnce(int span) {
        if (!trial.explore(span)) {
            return MANY;
        }
        trialOutcomes.gather(trial);
        return trialOutcomes.isSameAs(findings.outcomes) ? 1 : 0;
    }

    public int doubts() {
        if (!loaded) {
            return STATE;
        }
        judge.prepare();
        return judge.doubtful.size;
    }

    public int doubt(int k, int what) {
        if (!loaded) {
            return STATE;
        }
        judge.prepare();
        return program.partOfPair(judge.doubtful.get(k), what);
    }

    public int meet(int a, int step, int b, int other) {
        if (!loaded) {
            return STATE;
        }
        if (a == b || !program.hasStep(a, step) || !program.hasStep(b, other)) {
            return OUTSIDE;
        }
        judge.prepare();
        return judge.canMeet(a, step, b, other) ? 1 : 0;
    }

    public int guards(int field) {
        if (!loaded) {
            return STATE;
        }
        if (field < 0 || field >= program.fields) {
            return OUTSIDE;
        }
        return judge.guardsOf(field);
    }

    public int rings() {
        if (!loaded) {
            return STATE;
        }
        judge.prepare();
        return judge.ringCount;
    }

    /** A row of numbers, none below 0, with as much room as can ever be needed. */
    private static final class Numbers {
        private final int[] items;
        int size;

        Numbers(int most) {
            items = new int[Math.max(most, 0)];
        }

        void clear() {
            size = 0;
        }

        void add(int number) {
            if (size >= 0 && size < items.length) {
                items[size] = number;
                size++;
            }
        }

        int get(int k) {
            return k < 0 || k >= size || k >= items.length ? NONE : items[k];
        }
    }

    /** What a text tells: its fields, locks, threads, and of each thread its steps. */
    private static final class Program {
        final int[] length = new int[THREADS];
        final int[] startedBy = new int[THREADS];
        int fields;
        int locks;
        int threads;
        int spans;
        int total;
        private int firstFields;
        private int openFields;
        private final int[] kinds = new int[ALL_STEPS];
        private final int[] subjects = new int[ALL_STEPS];
        private final int[] nexts = new int[ALL_STEPS];
        private final int[] others = new int[ALL_STEPS];
        private final int[] helds = new int[ALL_STEPS];
        private final int[] spanNumbers = new int[ALL_STEPS];
        private final int[] targets = new int[ALL_STEPS];
        private final int[] lefts = new int[ALL_STEPS];
        private final int[] signs = new int[ALL_STEPS];
        private final int[] rights = new int[ALL_STEPS];

        void clear() {
            fields = 0;
            locks = 0;
            threads = 0;
            spans = 0;
            total = 0;
            firstFields = 0;
            openFields = 0;
            Arrays.fill(length, 0);
            Arrays.fill(startedBy, 0);
        }

        void addField(int value, boolean open) {
            firstFields |= value << 3 * fields;
            if (open) {
                openFields |= 1 << fields;
            }
            fields++;
        }

        boolean hasThread(int thread) {
            return thread >= 0 && thread < threads && thread < THREADS;
        }

        boolean hasStep(int thread, int step) {
            return hasThread(thread) && step >= 0 && step < length[thread] && step < STEPS;
        }

        int lengthOf(int thread) {
            return hasThread(thread) ? length[thread] : 0;
        }

        int startersOf(int thread) {
            return hasThread(thread) ? startedBy[thread] : 0;
        }

        int firstValues() {
            return firstFields;
        }

        /** Puts a new step behind the thread's others: its number. */
        int addStep(int thread, int kind, int subject, int held, int span) {
            if (!hasThread(thread) || length[thread] >= STEPS) {
                return NONE;
            }
            int step = length[thread];
            int at = thread * STEPS + step;
            length[thread]++;
            total++;
            kinds[at] = kind;
            subjects[at] = subject;
            helds[at] = held;
            spanNumbers[at] = span;
            nexts[at] = NONE;
            others[at] = NONE;
            setWorking(thread, step, NONE, 0, NONE, 0);
            return step;
        }

        /** What a step works on: the local that it sets; left, sign and right of its sum or test. */
        void setWorking(int thread, int step, int target, int left, int sign, int right) {
            if (hasStep(thread, step)) {
                int at = thread * STEPS + step;
                targets[at] = target;
                lefts[at] = left;
                signs[at] = sign;
                rights[at] = right;
            }
        }

        void setNext(int thread, int step, int next) {
            if (hasStep(thread, step)) {
                nexts[thread * STEPS + step] = next;
            }
        }

        void setOther(int thread, int step, int other) {
            if (hasStep(thread, step)) {
                others[thread * STEPS + step] = other;
            }
        }

        /** A 'start' or 'join' gets the thread that its NAME has come to mean. */
        void setThread(int thread, int step, int meant) {
            if (hasStep(thread, step) && hasThread(meant)) {
                subjects[thread * STEPS + step] = meant;
                if (kindAt(thread, step) == START) {
                    startedBy[meant] |= 1 << thread;
                }
            }
        }

        private int part(int[] row, int thread, int step) {
            int at = thread * STEPS + step;
            return hasStep(thread, step) && at < row.length ? row[at] : NONE;
        }

        int kindAt(int thread, int step) {
            return part(kinds, thread, step);
        }

        int subjectAt(int thread, int step) {
            return part(subjects, thread, step);
        }

        int nextAt(int thread, int step) {
            return part(nexts, thread, step);
        }

        int otherAt(int thread, int step) {
            return part(others, thread, step);
        }

        int heldAt(int thread, int step) {
            return hasStep(thread, step) ? part(helds, thread, step) : 0;
        }

        int spanAt(int thread, int step) {
            return part(spanNumbers, thread, step);
        }

        int targetAt(int thread, int step) {
            return part(targets, thread, step);
        }

        int leftAt(int thread, int step) {
            return part(lefts, thread, step);
        }

        int signAt(int thread, int step) {
            return part(signs, thread, step);
        }

        int rightAt(int thread, int step) {
            return part(rights, thread, step);
        }

        boolean touchesField(int thread, int step) {
            int kind = kindAt(thread, step);
            return kind == READ || kind == WRITE;
        }

        /** Whether two steps are a READ or WRITE of one field that is not open, one a WRITE. */
        boolean clash(int a, int step, int b, int other) {
            if (!touchesField(a, step) || !touchesField(b, other)) {
                return false;
            }
            int field = subjectAt(a, step);
            boolean writes = kindAt(a, step) == WRITE || kindAt(b, other) == WRITE;
            return writes && field == subjectAt(b, other) && (openFields >>> field & 1) == 0;
        }

        int pairOf(int a, int step, int b, int other) {
            return (a * STEPS + step) * ALL_STEPS + b * STEPS + other;
        }

        /** What race() and doubt() tell of a pair; OUTSIDE if it is none. */
        int partOfPair(int pair, int what) {
            if (pair == NONE) {
                return OUTSIDE;
            }
            int first = pair / ALL_STEPS;
            int second = pair % ALL_STEPS;
            switch (what) {
                case 0: return first / STEPS;
                case 1: return first % STEPS;
                case 2: return second / STEPS;
                case 3: return second % STEPS;
                case 4: return subjectAt(first / STEPS, first % STEPS);
                default: return OUTSIDE;
            }
        }
    }

    /** The tape's bytes as tokens, one at a time. */
    private static final class Tokens {
        private final byte[] bytes;
        private int length;
        private int behind;
        int kind;
        int place;
        int number;
        long word;

        Tokens(byte[] bytes) {
            this.bytes = bytes;
        }

        void startOver(int howMany) {
            length = howMany;
            behind = 0;
            advance();
        }

        void advance() {
            while (behind < length && isBlank(byteAt(behind))) {
                behind++;
            }
            place = behind;
            int first = byteAt(place);
            if (first == NONE) {
                kind = TEXT_END;
            } else if (isLetter(first)) {
                takeWord();
            } else if (isDigit(first)) {
                takeNumber(first);
            } else {
                takeSign(first);
            }
        }

        private int byteAt(int at) {
            return at < 0 || at >= length || at >= bytes.length ? NONE : bytes[at] & 255;
        }

        private void takeWord() {
            long packed = 0;
            while (behind < length && isOfWord(byteAt(behind))) {
                packed = packed << 8 | byteAt(behind);
                behind++;
            }
            word = packed;
            kind = behind - place > WORD_BYTES ? BAD : kindOfWord(packed);
        }

        private static int kindOfWord(long packed) {
            for (int i = 0; i < RESERVED.length; i++) {
                if (RESERVED[i] == packed) {
                    return WORD_FIELD + i;
                }
            }
            return NAME;
        }

        private void takeNumber(int digit) {
            behind = place + 1;
            number = digit - '0';
            kind = number > 7 || isOfWord(byteAt(behind)) ? BAD : NUMBER;
        }

        private void takeSign(int first) {
            boolean twin = (first == '=' || first == '!') && byteAt(place + 1) == '=';
            behind = twin ? place + 2 : place + 1;
            if (twin) {
                kind = first == '=' ? SAME : DIFFERENT;
            } else {
                kind = isSign(first) ? first : BAD;
            }
        }

        private static boolean isBlank(int at) {
            return at == ' ' || at == '\n';
        }

        private static boolean isLetter(int at) {
            return at >= 'a' && at <= 'z';
        }

        private static boolean isDigit(int at) {
            return at >= '0' && at <= '9';
        }

        private static boolean isOfWord(int at) {
            return isLetter(at) || isDigit(at);
        }

        private static boolean isSign(int at) {
            switch (at) {
                case '=':
                case ';':
                case '{':
                case '}':
                case '<':
                case '>':
                case '+':
                case '-': return true;
                default: return false;
            }
        }
    }

    /** The NAMES told so far, and the locals of the thread that is being read. */
    private static final class Names {
        private static final int MOST = FIELDS + LOCKS + THREADS;
        private final long[] words = new long[MOST];
        private final int[] sorts = new int[MOST];
        private final int[] numbers = new int[MOST];
        private int size;
        private final long[] locals = new long[LOCALS];
        private int localCount;

        void clear() {
            size = 0;
            localCount = 0;
        }

        void forgetLocals() {
            localCount = 0;
        }

        private int find(long word) {
            for (int i = 0; i < size && i < MOST; i++) {
                if (words[i] == word) {
                    return i;
                }
            }
            return NONE;
        }

        /** FIELD_NAME, LOCK_NAME, THREAD_NAME; NONE if it is not told. */
        int sortOf(long word) {
            int at = find(word);
            return at < 0 ? NONE : sorts[at];
        }

        int numberOf(long word) {
            int at = find(word);
            return at < 0 ? NONE : numbers[at];
        }

        void tell(long word, int sort, int number) {
            if (size < MOST) {
                words[size] = word;
                sorts[size] = sort;
                numbers[size] = number;
                size++;
            }
        }

        int localOf(long word) {
            for (int i = 0; i < localCount && i < LOCALS; i++) {
                if (locals[i] == word) {
                    return i;
                }
            }
            return NONE;
        }

        /** The local's number, a new one if there is room; else NONE. */
        int makeLocal(long word) {
            int known = localOf(word);
            if (known != NONE || localCount >= LOCALS) {
                return known;
            }
            locals[localCount] = word;
            localCount++;
            return localCount - 1;
        }
    }

    /**
     * Puts the steps of one thread together. Which step comes behind another one is known only when
     * it comes, so the steps whose next (or other) one is still open are kept as bits.
     */
    private static final class Weaver {
        private final Program program;
        private final int[] sorts = new int[DEPTH];
        private final int[] marks = new int[DEPTH];
        private final int[] keptNexts = new int[DEPTH];
        private final int[] keptOthers = new int[DEPTH];
        private final int[] keptHelds = new int[DEPTH];
        int depth;
        private int thread;
        private int openNexts;
        private int openOthers;
        private int held;
        private int span;
        private int latest;

        Weaver(Program program) {
            this.program = program;
        }

        void beginThread(int number) {
            thread = number;
            depth = 0;
            openNexts = 0;
            openOthers = 0;
            held = 0;
            span = NONE;
            latest = NONE;
        }

        boolean hasRoom() {
            return program.lengthOf(thread) < STEPS;
        }

        boolean isInSpan() {
            return span != NONE;
        }

        int latestStep() {
            return latest;
        }

        void emit(int kind, int subject) {
            closeOpen(program.lengthOf(thread));
            latest = program.addStep(thread, kind, subject, held, span);
            openNexts = kind == STOP || latest == NONE ? 0 : 1 << latest;
        }

        void work(int target, int left, int sign, int right) {
            program.setWorking(thread, latest, target, left, sign, right);
        }

        /** All steps whose next or other one was open go to this one. */
        private void closeOpen(int target) {
            for (int step = 0; step < STEPS; step++) {
                if ((openNexts >>> step & 1) != 0) {
                    program.setNext(thread, step, target);
                }
                if ((openOthers >>> step & 1) != 0) {
                    program.setOther(thread, step, target);
                }
            }
            openNexts = 0;
            openOthers = 0;
        }

        /** Enters a block; its mark is the lock of a 'lock', the test of an 'if' or 'while'. */
        void enter(int sort, int mark) {
            if (depth < 0 || depth >= DEPTH) {
                return;
            }
            sorts[depth] = sort;
            marks[depth] = mark;
            keptNexts[depth] = 0;
            keptOthers[depth] = 0;
            keptHelds[depth] = held;
            depth++;
            if (sort == LOCK_BLOCK) {
                held |= 1 << mark;
            } else if (sort == SPAN_BLOCK) {
                span = program.spans;
                program.spans++;
            }
        }

        int innermost() {
            return depth > 0 && depth <= DEPTH ? sorts[depth - 1] : NONE;
        }

        /** The then-side is done, and the other side begins in the same place of the stack. */
        void turnToElse() {
            if (depth > 0 && depth <= DEPTH) {
                int top = depth - 1;
                sorts[top] = ELSE_BLOCK;
                keptNexts[top] = openNexts;
                keptOthers[top] = openOthers;
                openNexts = 0;
                openOthers = 1 << marks[top];
            }
        }

        void leave() {
            if (depth <= 0 || depth > DEPTH) {
                return;
            }
            int top = depth - 1;
            int mark = marks[top];
            switch (sorts[top]) {
                case THREAD_BLOCK:
                    finishThread();
                    break;
                case LOCK_BLOCK:
                    emit(LEAVE, mark);
                    held = keptHelds[top];
                    break;
                case SPAN_BLOCK:
                    span = NONE;
                    break;
                case IF_BLOCK:
                    openOthers |= 1 << mark;
                    break;
                case ELSE_BLOCK:
                    openNexts |= keptNexts[top];
                    openOthers |= keptOthers[top];
                    break;
                default:
                    closeOpen(mark);
                    openOthers = 1 << mark;
                    break;
            }
            depth = top;
        }

        private void finishThread() {
            int length = program.lengthOf(thread);
            closeOpen(length);
            for (int step = 0; step < length && step < STEPS; step++) {
                if (program.kindAt(thread, step) == STOP) {
                    program.setNext(thread, step, length);
                }
            }
        }
    }

    /**
     * Reads a text, from the left, up to its first fault. All that can be wrong with a token is
     * looked at, the least kind first, before the next token is taken.
     */
    private static final class Reader {
        private final Program program;
        private final Tokens tokens;
        private final Names names = new Names();
        private final Weaver weaver;
        private final long[] meantWords = new long[ALL_STEPS];
        private final int[] meantPlaces = new int[ALL_STEPS];
        int faultKind;
        int faultPlace;

        Reader(byte[] tape, Program program) {
            this.program = program;
            tokens = new Tokens(tape);
            weaver = new Weaver(program);
        }

        void readText(int length) {
            faultKind = 0;
            faultPlace = 0;
            program.clear();
            names.clear();
            tokens.startOver(length);
            readTellings();
            readThreads();
            if (isSound() && tokens.kind != TEXT_END) {
                failHere(MISPLACED);
            }
            if (isSound()) {
                findThreads();
            }
        }

        private boolean isSound() {
            return faultKind == 0;
        }

        private boolean failHere(int kind) {
            faultKind = tokens.kind == BAD ? NO_TOKEN : kind;
            faultPlace = tokens.place;
            return false;
        }

        private boolean expect(int kind) {
            if (tokens.kind != kind) {
                return failHere(MISPLACED);
            }
            tokens.advance();
            return true;
        }

        private void readTellings() {
            for (int turn = 0; turn <= TAPE && isSound(); turn++) {
                if (tokens.kind == WORD_FIELD || tokens.kind == WORD_OPEN) {
                    tellField(tokens.kind == WORD_OPEN);
                } else if (tokens.kind == WORD_LOCK) {
                    tellLock();
                } else {
                    return;
                }
            }
        }

        private void tellField(boolean open) {
            tokens.advance();
            if (!tellName(FIELD_NAME, program.fields, FIELDS)) {
                return;
            }
            int value = 0;
            if (tokens.kind == '=') {
                tokens.advance();
                value = tokens.number;
                if (!expect(NUMBER)) {
                    return;
                }
            }
            if (expect(';')) {
                program.addField(value, open);
            }
        }

        private void tellLock() {
            tokens.advance();
            if (tellName(LOCK_NAME, program.locks, LOCKS) && expect(';')) {
                program.locks++;
            }
        }

        private boolean tellName(int sort, int have, int most) {
            if (tokens.kind != NAME) {
                return failHere(MISPLACED);
            }
            if (names.sortOf(tokens.word) != NONE) {
                return failHere(NAMED_WRONG);
            }
            if (have >= most) {
                return failHere(TOO_MANY);
            }
            names.tell(tokens.word, sort, have);
            tokens.advance();
            return true;
        }

        private void readThreads() {
            for (int turn = 0; turn <= TAPE && isSound() && tokens.kind == WORD_THREAD; turn++) {
                tokens.advance();
                if (tellName(THREAD_NAME, program.threads, THREADS)) {
                    names.forgetLocals();
                    weaver.beginThread(program.threads);
                    program.threads++;
                    openBlock(THREAD_BLOCK, NONE);
                    readBody();
                }
            }
        }

        private void readBody() {
            for (int turn = 0; turn <= TAPE && isSound() && weaver.depth > 0; turn++) {
                readStatement();
            }
        }

        private void openBlock(int sort, int mark) {
            if (tokens.kind == '{' && weaver.depth >= DEPTH) {
                failHere(TOO_MANY);
            } else if (expect('{')) {
                weaver.enter(sort, mark);
            }
        }

        private void readStatement() {
            switch (tokens.kind) {
                case '}': closeBlock(); break;
                case NAME: readSetting(); break;
                case WORD_SPAN: readSpan(); break;
                case WORD_LOCK: readLock(); break;
                case WORD_IF: readBranch(IF, IF_BLOCK); break;
                case WORD_WHILE: readBranch(WHILE, WHILE_BLOCK); break;
                case WORD_WAIT: readWait(); break;
                case WORD_WAKE: readWake(); break;
                case WORD_START: readThreadStep(START); break;
                case WORD_JOIN: readThreadStep(JOIN); break;
                case WORD_CHECK: readCheck(); break;
                case WORD_STOP: readStop(); break;
                default: failHere(MISPLACED); break;
            }
        }

        private boolean hasRoomForStep() {
            return weaver.hasRoom() || failHere(TOO_MANY);
        }

        private void closeBlock() {
            int sort = weaver.innermost();
            if (sort == LOCK_BLOCK && !hasRoomForStep()) {
                return;
            }
            tokens.advance();
            if (sort == IF_BLOCK && tokens.kind == WORD_ELSE) {
                tokens.advance();
                weaver.turnToElse();
                expect('{');
            } else {
                weaver.leave();
            }
        }

        private void readSpan() {
            if (weaver.isInSpan()) {
                failHere(MISPLACED);
            } else if (program.spans >= SPANS) {
                failHere(TOO_MANY);
            } else {
                tokens.advance();
                openBlock(SPAN_BLOCK, NONE);
            }
        }

        private void readLock() {
            if (hasRoomForStep()) {
                tokens.advance();
                int lock = takeLockName();
                if (lock != NONE) {
                    weaver.emit(TAKE, lock);
                    openBlock(LOCK_BLOCK, lock);
                }
            }
        }

        /** The number of the lock whose NAME stands here; NONE with a fault. */
        private int takeLockName() {
            int sort = tokens.kind == NAME ? names.sortOf(tokens.word) : NONE;
            if (sort == LOCK_NAME) {
                int lock = names.numberOf(tokens.word);
                tokens.advance();
                return lock;
            }
            boolean unknown = tokens.kind == NAME && sort == NONE
                    && names.localOf(tokens.word) == NONE;
            failHere(unknown ? NAMED_WRONG : MISPLACED);
            return NONE;
        }

        private void readBranch(int kind, int block) {
            if (hasRoomForStep()) {
                tokens.advance();
                if (readTest(kind)) {
                    openBlock(block, weaver.latestStep());
                }
            }
        }

        private void readCheck() {
            if (hasRoomForStep()) {
                tokens.advance();
                if (readTest(CHECK)) {
                    expect(';');
                }
            }
        }

        private boolean readTest(int kind) {
            int left = takeTestValue();
            if (left == NONE) {
                return false;
            }
            int sign = tokens.kind;
            if (sign != SAME && sign != DIFFERENT && sign != '<' && sign != '>') {
                return failHere(MISPLACED);
            }
            tokens.advance();
            int right = takeTestValue();
            if (right == NONE) {
                return false;
            }
            weaver.emit(kind, NONE);
            weaver.work(NONE, left, sign, right);
            return true;
        }

        /** A NUMBER is its value, local i is 8 + i; NONE with a fault. */
        private int takeTestValue() {
            int local = tokens.kind == NAME ? names.localOf(tokens.word) : NONE;
            if (local == NONE && tokens.kind != NUMBER) {
                failHere(MISPLACED);
                return NONE;
            }
            int value = local == NONE ? tokens.number : 8 + local;
            tokens.advance();
            return value;
        }

        /** As in a test, but a NAME that is not told is a local, though it has not come before. */
        private int takeSetValue() {
            if (tokens.kind != NAME) {
                return takeTestValue();
            }
            if (names.sortOf(tokens.word) != NONE) {
                failHere(MISPLACED);
                return NONE;
            }
            if (names.makeLocal(tokens.word) == NONE) {
                failHere(TOO_MANY);
                return NONE;
            }
            return takeTestValue();
        }

        private void readSetting() {
            int sort = names.sortOf(tokens.word);
            if (sort == LOCK_NAME || sort == THREAD_NAME) {
                failHere(MISPLACED);
            } else if (!hasRoomForStep()) {
                return;
            } else if (sort == FIELD_NAME) {
                readWrite(names.numberOf(tokens.word));
            } else {
                int local = names.makeLocal(tokens.word);
                if (local == NONE) {
                    failHere(TOO_MANY);
                } else {
                    readLocalSetting(local);
                }
            }
        }

        private void readWrite(int field) {
            tokens.advance();
            if (expect('=')) {
                int value = takeSetValue();
                if (value != NONE) {
                    weaver.emit(WRITE, field);
                    weaver.work(NONE, value, NONE, 0);
                    expect(';');
                }
            }
        }

        private void readLocalSetting(int local) {
            tokens.advance();
            if (!expect('=')) {
                return;
            }
            if (tokens.kind == NAME && names.sortOf(tokens.word) == FIELD_NAME) {
                weaver.emit(READ, names.numberOf(tokens.word));
                weaver.work(local, 0, NONE, 0);
                tokens.advance();
                expect(';');
            } else {
                readSum(local);
            }
        }

        private void readSum(int local) {
            int left = takeSetValue();
            if (left == NONE) {
                return;
            }
            int sign = NONE;
            int right = 0;
            if (tokens.kind == '+' || tokens.kind == '-') {
                sign = tokens.kind;
                tokens.advance();
                right = takeSetValue();
            }
            if (right != NONE) {
                weaver.emit(SET, NONE);
                weaver.work(local, left, sign, right);
                expect(';');
            }
        }

        private void readWait() {
            if (hasRoomForStep()) {
                tokens.advance();
                readLockStep(WAIT);
            }
        }

        private void readWake() {
            if (hasRoomForStep()) {
                tokens.advance();
                if (tokens.kind == WORD_ALL) {
                    tokens.advance();
                    readLockStep(WAKE_ALL);
                } else {
                    readLockStep(WAKE);
                }
            }
        }

        private void readLockStep(int kind) {
            int lock = takeLockName();
            if (lock != NONE) {
                weaver.emit(kind, lock);
                expect(';');
            }
        }

        private void readStop() {
            if (hasRoomForStep()) {
                tokens.advance();
                weaver.emit(STOP, NONE);
                expect(';');
            }
        }

        /** Which thread is meant is known only at the end of the text: the NAME is kept till then. */
        private void readThreadStep(int kind) {
            if (!hasRoomForStep()) {
                return;
            }
            tokens.advance();
            int sort = tokens.kind == NAME ? names.sortOf(tokens.word) : FIELD_NAME;
            int at = program.total;
            if (sort == FIELD_NAME || sort == LOCK_NAME) {
                failHere(MISPLACED);
            } else if (at >= 0 && at < ALL_STEPS) {
                meantWords[at] = tokens.word;
                meantPlaces[at] = tokens.place;
                weaver.emit(kind, NONE);
                tokens.advance();
                expect(';');
            }
        }

        private void findThreads() {
            int at = 0;
            for (int thread = 0; thread < program.threads; thread++) {
                for (int step = 0; step < program.lengthOf(thread); step++) {
                    findThread(thread, step, at);
                    at++;
                }
            }
        }

        private void findThread(int thread, int step, int at) {
            int kind = program.kindAt(thread, step);
            if (!isSound() || at < 0 || at >= ALL_STEPS || kind != START && kind != JOIN) {
                return;
            }
            int meant = names.numberOf(meantWords[at]);
            if (meant == NONE) {
                faultKind = UNTOLD;
                faultPlace = meantPlaces[at];
            } else {
                program.setThread(thread, step, meant);
            }
        }
    }

    /**
     * What a state is, and how a thread's step changes it. A state is a row of WORDS numbers: the
     * fields' values, three bits each; then of each thread the locals (bits 0 .. 8), the next step
     * (9 .. 13), how it is (14 .. 16), and with a span at once whether its last step was inside (17).
     * Which locks a thread has, and how often, needs no place there: it follows from where it stands,
     * as each 'lock' is taken and left round a block.
     */
    private static final class Machine {
        private static final int STEP_BIT = 9, HOW_BIT = 14, SPAN_BIT = 17, LOCAL_BITS = 511;
        private final Program program;

        Machine(Program program) {
            this.program = program;
        }

        void setFirst(int[] row) {
            setWord(row, NONE, program.firstValues());
            for (int thread = 0; thread < THREADS; thread++) {
                int how = RUNNING;
                if (program.startersOf(thread) != 0) {
                    how = NOT_STARTED;
                } else if (program.lengthOf(thread) == 0) {
                    how = ENDED;
                }
                setWord(row, thread, how << HOW_BIT);
            }
        }

        /** The word of a thread; thread NONE has the fields' values. */
        private int word(int[] row, int thread) {
            return thread < NONE || thread + 1 >= row.length ? 0 : row[thread + 1];
        }

        private void setWord(int[] row, int thread, int word) {
            if (thread >= NONE && thread + 1 < row.length) {
                row[thread + 1] = word;
            }
        }

        int howOf(int[] row, int thread) {
            return word(row, thread) >>> HOW_BIT & 7;
        }

        int stepOf(int[] row, int thread) {
            return word(row, thread) >>> STEP_BIT & 31;
        }

        int localOf(int[] row, int thread, int local) {
            return word(row, thread) >>> 3 * local & 7;
        }

        int valueOfField(int[] row, int field) {
            return word(row, NONE) >>> 3 * field & 7;
        }

        private int withDigit(int word, int digit, int value) {
            int shift = 3 * digit;
            return word & ~(7 << shift) | (value & 7) << shift;
        }

        /** The locks that a thread has, as bits. */
        private int locksOf(int[] row, int thread) {
            int step = stepOf(row, thread);
            switch (howOf(row, thread)) {
                case RUNNING:
                    return program.heldAt(thread, step);
                case WAITING:
                case WOKEN:
                    return program.heldAt(thread, step) & ~(1 << program.subjectAt(thread, step));
                default:
                    return 0;
            }
        }

        private boolean hasLock(int[] row, int thread, int lock) {
            return (locksOf(row, thread) >>> lock & 1) != 0;
        }

        int ownerOf(int[] row, int lock) {
            for (int thread = 0; thread < program.threads; thread++) {
                if (hasLock(row, thread, lock)) {
                    return thread;
                }
            }
            return NONE;
        }

        boolean canMove(int[] row, int thread) {
            int how = howOf(row, thread);
            int step = stepOf(row, thread);
            int subject = program.subjectAt(thread, step);
            if (how == WOKEN) {
                return ownerOf(row, subject) == NONE;
            }
            if (how != RUNNING) {
                return false;
            }
            switch (program.kindAt(thread, step)) {
                case TAKE:
                    int owner = ownerOf(row, subject);
                    return owner == NONE || owner == thread;
                case JOIN:
                    return howOf(row, subject) == ENDED || howOf(row, subject) == FAILED;
                default:
                    return true;
            }
        }

        /** The thread that alone may step, as it is inside the span that is done at once; or NONE. */
        int aloneIn(int[] row, int span) {
            for (int thread = 0; thread < program.threads && span != NONE; thread++) {
                boolean inside = (word(row, thread) >>> SPAN_BIT & 1) != 0
                        && howOf(row, thread) == RUNNING
                        && program.spanAt(thread, stepOf(row, thread)) == span;
                if (inside && canMove(row, thread)) {
                    return thread;
                }
            }
            return NONE;
        }

        /** The thread, which can step, does its step. */
        void move(int[] row, int thread, int span) {
            int step = stepOf(row, thread);
            int inside = span != NONE && program.spanAt(thread, step) == span ? 1 : 0;
            setWord(row, thread, word(row, thread) & ~(1 << SPAN_BIT) | inside << SPAN_BIT);
            if (howOf(row, thread) == WOKEN) {
                goTo(row, thread, program.nextAt(thread, step));
                return;
            }
            switch (program.kindAt(thread, step)) {
                case READ:
                case WRITE:
                case SET:
                    work(row, thread, step);
                    break;
                case WAIT:
                case WAKE:
                case WAKE_ALL:
                    signal(row, thread, step);
                    break;
                case START:
                    startThread(row, thread, step);
                    break;
                case IF:
                case WHILE:
                    goTo(row, thread, holds(row, thread, step)
                            ? program.nextAt(thread, step) : program.otherAt(thread, step));
                    break;
                case CHECK:
                    goOnOrFail(row, thread, step, holds(row, thread, step));
                    break;
                default:
                    goTo(row, thread, program.nextAt(thread, step));
                    break;
            }
        }

        private void goTo(int[] row, int thread, int next) {
            boolean over = next < 0 || next >= program.lengthOf(thread);
            if (over) {
                setPlace(row, thread, program.lengthOf(thread), ENDED);
            } else {
                setPlace(row, thread, next, RUNNING);
            }
        }

        private void goOnOrFail(int[] row, int thread, int step, boolean well) {
            if (well) {
                goTo(row, thread, program.nextAt(thread, step));
            } else {
                setPlace(row, thread, step, FAILED);
            }
        }

        /** Who is ENDED or FAILED is no longer inside a span, whatever its last step was. */
        private void setPlace(int[] row, int thread, int step, int how) {
            boolean gone = how == ENDED || how == FAILED;
            int kept = word(row, thread) & (gone ? LOCAL_BITS : LOCAL_BITS | 1 << SPAN_BIT);
            setWord(row, thread, kept | step << STEP_BIT | how << HOW_BIT);
        }

        private int valueOf(int[] row, int thread, int value) {
            return value < 8 ? value : localOf(row, thread, value - 8);
        }

        private void work(int[] row, int thread, int step) {
            int kind = program.kindAt(thread, step);
            int target = program.targetAt(thread, step);
            int subject = program.subjectAt(thread, step);
            int value = valueOf(row, thread, program.leftAt(thread, step));
            int right = valueOf(row, thread, program.rightAt(thread, step));
            int sign = program.signAt(thread, step);
            if (kind == WRITE) {
                setWord(row, NONE, withDigit(word(row, NONE), subject, value));
            } else {
                if (kind == READ) {
                    value = valueOfField(row, subject);
                } else if (sign == '+') {
                    value += right;
                } else if (sign == '-') {
                    value -= right;
                }
                setWord(row, thread, withDigit(word(row, thread), target, value));
            }
            goTo(row, thread, program.nextAt(thread, step));
        }

        private boolean holds(int[] row, int thread, int step) {
            int left = valueOf(row, thread, program.leftAt(thread, step));
            int right = valueOf(row, thread, program.rightAt(thread, step));
            switch (program.signAt(thread, step)) {
                case SAME: return left == right;
                case DIFFERENT: return left != right;
                case '<': return left < right;
                default: return left > right;
            }
        }

        private void signal(int[] row, int thread, int step) {
            int kind = program.kindAt(thread, step);
            int lock = program.subjectAt(thread, step);
            if (!hasLock(row, thread, lock)) {
                setPlace(row, thread, step, FAILED);
            } else if (kind == WAIT) {
                setPlace(row, thread, step, WAITING);
            } else {
                wakeFor(row, lock, kind == WAKE_ALL);
                goTo(row, thread, program.nextAt(thread, step));
            }
        }

        private void wakeFor(int[] row, int lock, boolean all) {
            for (int thread = 0; thread < program.threads; thread++) {
                int step = stepOf(row, thread);
                if (howOf(row, thread) == WAITING && program.subjectAt(thread, step) == lock) {
                    setPlace(row, thread, step, WOKEN);
                    if (!all) {
                        return;
                    }
                }
            }
        }

        private void startThread(int[] row, int thread, int step) {
            int other = program.subjectAt(thread, step);
            boolean well = howOf(row, other) == NOT_STARTED;
            if (well) {
                goTo(row, other, 0);
            }
            goOnOrFail(row, thread, step, well);
        }

        /** Who is FAILED, as bits. */
        int failedIn(int[] row) {
            int bits = 0;
            for (int thread = 0; thread < program.threads; thread++) {
                if (howOf(row, thread) == FAILED) {
                    bits |= 1 << thread;
                }
            }
            return bits;
        }

        private boolean isGone(int[] row, int thread) {
            int how = howOf(row, thread);
            return how == ENDED || how == FAILED || how == NOT_STARTED;
        }

        boolean isOver(int[] row) {
            for (int thread = 0; thread < program.threads; thread++) {
                if (!isGone(row, thread)) {
                    return false;
                }
            }
            return true;
        }

        boolean onlyWaits(int[] row) {
            for (int thread = 0; thread < program.threads; thread++) {
                if (!isGone(row, thread) && howOf(row, thread) != WAITING) {
                    return false;
                }
            }
            return true;
        }

        /** Who has the lock that a RUNNING thread is about to take, if it is another one; or NONE. */
        private int blockerOf(int[] row, int thread) {
            int step = stepOf(row, thread);
            if (howOf(row, thread) != RUNNING || program.kindAt(thread, step) != TAKE) {
                return NONE;
            }
            int owner = ownerOf(row, program.subjectAt(thread, step));
            return owner == thread ? NONE : owner;
        }

        boolean hasRing(int[] row) {
            for (int thread = 0; thread < program.threads; thread++) {
                int at = blockerOf(row, thread);
                for (int turn = 0; turn < THREADS && at != NONE; turn++) {
                    if (at == thread) {
                        return true;
                    }
                    at = blockerOf(row, at);
                }
            }
            return false;
        }

        /** An outcome as a number: the fields' values, who is FAILED, whether all stand for ever. */
        int outcomeOf(int[] row) {
            int stands = isOver(row) ? 0 : 1;
            return word(row, NONE) | failedIn(row) << 3 * FIELDS | stands << 3 * FIELDS + THREADS;
        }
    }

    /** All states of a program, in the order in which they are found. */
    private static final class Space {
        private final Program program;
        private final Machine machine;
        private final int[] words = new int[STATES * WORDS];
        private final int[] ways = new int[STATES];
        private final boolean[] lasts = new boolean[STATES];
        private final int[] table = new int[TABLE];
        private final int[] row = new int[WORDS];
        private final int[] coming = new int[WORDS];
        int size;

        Space(Program program, Machine machine) {
            this.program = program;
            this.machine = machine;
        }

        boolean has(int state) {
            return state >= 0 && state < size && state < STATES;
        }

        boolean isLast(int state) {
            return has(state) && lasts[state];
        }

        /** The state's row, in a place that is used again for the next one. */
        int[] rowOf(int state) {
            if (has(state)) {
                System.arraycopy(words, state * WORDS, row, 0, WORDS);
            }
            return row;
        }

        /** Finds all states, with a span at once or (NONE) without; false if they are too many. */
        boolean explore(int span) {
            size = 0;
            Arrays.fill(table, 0);
            machine.setFirst(coming);
            boolean few = note(0);
            for (int state = 0; state < size && state < STATES && few; state++) {
                few = exploreFrom(state, span);
            }
            return few;
        }

        private boolean exploreFrom(int state, int span) {
            int[] from = rowOf(state);
            int alone = machine.aloneIn(from, span);
            boolean last = true;
            for (int thread = 0; thread < program.threads; thread++) {
                boolean may = alone == NONE || alone == thread;
                if (may && machine.canMove(from, thread)) {
                    last = false;
                    System.arraycopy(from, 0, coming, 0, WORDS);
                    machine.move(coming, thread, span);
                    if (!note(state * THREADS + thread)) {
                        return false;
                    }
                }
            }
            lasts[state] = last;
            return true;
        }

        /** Numbers the coming state, if it is new; false if there is no number left. */
        private boolean note(int way) {
            int slot = slotOfComing();
            if (table[slot] != 0) {
                return true;
            }
            if (size >= STATES) {
                return false;
            }
            System.arraycopy(coming, 0, words, size * WORDS, WORDS);
            ways[size] = way;
            size++;
            table[slot] = size;
            return true;
        }

        /** Where the coming state stands in the table, or would: the table is never full. */
        private int slotOfComing() {
            int hash = 0;
            for (int i = 0; i < WORDS; i++) {
                hash = (hash ^ coming[i]) * 0x9E3779B1;
                hash ^= hash >>> 15;
            }
            int slot = hash & TABLE - 1;
            for (int turn = 0; turn < TABLE && table[slot] != 0; turn++) {
                if (isComing(table[slot] - 1)) {
                    return slot;
                }
                slot = slot + 1 & TABLE - 1;
            }
            return slot;
        }

        private boolean isComing(int state) {
            for (int i = 0; i < WORDS && has(state); i++) {
                if (words[state * WORDS + i] != coming[i]) {
                    return false;
                }
            }
            return true;
        }

        /** Writes who stepped on the way to a state into a row: how many steps. */
        int wayTo(int state, int[] into) {
            int steps = 0;
            for (int at = state; at > 0 && has(at) && steps < STATES; at = ways[at] / THREADS) {
                steps++;
            }
            int place = steps - 1;
            for (int at = state; at > 0 && has(at) && place >= 0; at = ways[at] / THREADS) {
                if (place < into.length) {
                    into[place] = ways[at] % THREADS;
                }
                place--;
            }
            return steps;
        }
    }

    /** The different outcomes of all last states, and of each the least state. */
    private static final class Outcomes {
        private final Machine machine;
        private final Numbers codes = new Numbers(STATES);
        final Numbers states = new Numbers(STATES);
        private final int[] table = new int[TABLE];

        Outcomes(Machine machine) {
            this.machine = machine;
        }

        void gather(Space space) {
            codes.clear();
            states.clear();
            Arrays.fill(table, 0);
            for (int state = 0; state < space.size; state++) {
                if (space.isLast(state)) {
                    note(machine.outcomeOf(space.rowOf(state)), state);
                }
            }
        }

        private void note(int code, int state) {
            int slot = slotOf(code);
            if (table[slot] == 0) {
                codes.add(code);
                states.add(state);
                table[slot] = codes.size;
            }
        }

        /** Where an outcome stands in the table, or would: the table is never full. */
        private int slotOf(int code) {
            int hash = code * 0x9E3779B1;
            int slot = (hash ^ hash >>> 15) & TABLE - 1;
            for (int turn = 0; turn < TABLE && table[slot] != 0; turn++) {
                if (codes.get(table[slot] - 1) == code) {
                    return slot;
                }
                slot = slot + 1 & TABLE - 1;
            }
            return slot;
        }

        boolean isSameAs(Outcomes others) {
            if (codes.size != others.codes.size) {
                return false;
            }
            for (int k = 0; k < others.codes.size; k++) {
                if (table[slotOf(others.codes.get(k))] == 0) {
                    return false;
                }
            }
            return true;
        }
    }

    /** What stands out among all states. */
    private static final class Findings {
        private final Program program;
        private final Machine machine;
        final Numbers ends = new Numbers(STATES);
        final Numbers stucks = new Numbers(STATES);
        final Numbers failures = new Numbers(STATES);
        final Numbers races = new Numbers(PAIRS);
        final Numbers raceStates = new Numbers(PAIRS);
        final Outcomes outcomes;
        private final int[] leastStates = new int[ALL_STEPS * ALL_STEPS];

        Findings(Program program, Machine machine) {
            this.program = program;
            this.machine = machine;
            outcomes = new Outcomes(machine);
        }

        void gather(Space space) {
            ends.clear();
            stucks.clear();
            failures.clear();
            Arrays.fill(leastStates, NONE);
            for (int state = 0; state < space.size; state++) {
                int[] row = space.rowOf(state);
                if (machine.failedIn(row) != 0) {
                    failures.add(state);
                }
                if (space.isLast(state)) {
                    Numbers kind = machine.isOver(row) ? ends : stucks;
                    kind.add(state);
                }
                noteRaces(row, state);
            }
            listRaces();
            outcomes.gather(space);
        }

        private void noteRaces(int[] row, int state) {
            for (int a = 0; a < program.threads; a++) {
                for (int b = a + 1; b < program.threads; b++) {
                    if (machine.howOf(row, a) == RUNNING && machine.howOf(row, b) == RUNNING) {
                        noteRace(a, machine.stepOf(row, a), b, machine.stepOf(row, b), state);
                    }
                }
            }
        }

        /** A READ or WRITE can always be stepped, so whether the threads can need not be asked. */
        private void noteRace(int a, int step, int b, int other, int state) {
            if (program.clash(a, step, b, other)) {
                int pair = program.pairOf(a, step, b, other);
                if (pair >= 0 && pair < leastStates.length && leastStates[pair] == NONE) {
                    leastStates[pair] = state;
                }
            }
        }

        private void listRaces() {
            races.clear();
            raceStates.clear();
            for (int pair = 0; pair < leastStates.length; pair++) {
                if (leastStates[pair] != NONE) {
                    races.add(pair);
                    raceStates.add(leastStates[pair]);
                }
            }
        }
    }

    /** What is judged by the text alone; worked out when it is first asked for. */
    private static final class Judge {
        private final Program program;
        private final int[] nears = new int[THREADS * THREADS];
        private final int[] ringRow = new int[THREADS];
        final Numbers doubtful = new Numbers(PAIRS);
        int ringCount;
        private boolean ready;

        Judge(Program program) {
            this.program = program;
        }

        void forget() {
            ready = false;
        }

        void prepare() {
            if (!ready) {
                ready = true;
                for (int b = 0; b < THREADS; b++) {
                    for (int a = 0; a < THREADS; a++) {
                        nears[b * THREADS + a] = stepsNear(b, a);
                    }
                }
                listDoubts();
                ringCount = countRings();
            }
        }

        /** The steps that may come right behind a step, as bits. */
        private int behind(int thread, int step) {
            int next = program.nextAt(thread, step);
            int other = program.otherAt(thread, step);
            int bits = program.hasStep(thread, next) ? 1 << next : 0;
            return program.hasStep(thread, other) ? bits | 1 << other : bits;
        }

        /** These steps and all to which ways lead from them that go through none of the walls. */
        private int spread(int thread, int from, int walls) {
            int seen = from;
            for (int turn = 0; turn < STEPS; turn++) {
                int before = seen;
                for (int step = 0; step < STEPS; step++) {
                    if ((seen & ~walls & 1 << step) != 0) {
                        seen |= behind(thread, step);
                    }
                }
                if (seen == before) {
                    return seen;
                }
            }
            return seen;
        }

        private int stepsWith(int thread, int kind, int subject) {
            int bits = 0;
            for (int step = 0; step < program.lengthOf(thread); step++) {
                if (program.kindAt(thread, step) == kind
                        && program.subjectAt(thread, step) == subject) {
                    bits |= 1 << step;
                }
            }
            return bits;
        }

        /** The steps of b that nothing keeps from those of a, as far as it lies with b's text. */
        private int stepsNear(int b, int a) {
            int first = program.hasStep(b, 0) ? 1 : 0;
            int near = spread(b, first, stepsWith(b, JOIN, a));
            if (a != b && program.startersOf(a) == 1 << b) {
                near &= stepsAfter(b, stepsWith(b, START, a));
            }
            return near;
        }

        /** The steps that come after one of some steps at least. */
        private int stepsAfter(int thread, int some) {
            int from = 0;
            for (int step = 0; step < STEPS; step++) {
                if ((some >>> step & 1) != 0) {
                    from |= behind(thread, step);
                }
            }
            return spread(thread, from, 0);
        }

        private boolean isNear(int b, int step, int a) {
            int at = b * THREADS + a;
            return at >= 0 && at < nears.length && (nears[at] >>> step & 1) != 0;
        }

        boolean canMeet(int a, int step, int b, int other) {
            return isNear(a, step, b) && isNear(b, other, a);
        }

        private boolean isDoubtful(int a, int step, int b, int other) {
            return program.clash(a, step, b, other)
                    && (program.heldAt(a, step) & program.heldAt(b, other)) == 0
                    && canMeet(a, step, b, other);
        }

        private void listDoubts() {
            doubtful.clear();
            for (int a = 0; a < program.threads; a++) {
                for (int step = 0; step < program.lengthOf(a); step++) {
                    listDoubtsOf(a, step);
                }
            }
        }

        private void listDoubtsOf(int a, int step) {
            for (int b = a + 1; b < program.threads; b++) {
                for (int other = 0; other < program.lengthOf(b); other++) {
                    if (isDoubtful(a, step, b, other)) {
                        doubtful.add(program.pairOf(a, step, b, other));
                    }
                }
            }
        }

        int guardsOf(int field) {
            int bits = (1 << program.locks) - 1;
            for (int thread = 0; thread < program.threads; thread++) {
                for (int step = 0; step < program.lengthOf(thread); step++) {
                    if (program.touchesField(thread, step)
                            && program.subjectAt(thread, step) == field) {
                        bits &= program.heldAt(thread, step);
                    }
                }
            }
            return bits;
        }

        /** Each ring is counted from its taking of the least thread: a row turned round is one. */
        private int countRings() {
            int sum = 0;
            for (int thread = 0; thread < program.threads; thread++) {
                for (int step = 0; step < program.lengthOf(thread); step++) {
                    if (program.kindAt(thread, step) == TAKE) {
                        ringRow[0] = thread * STEPS + step;
                        sum += countRingsFrom(1, program.heldAt(thread, step));
                    }
                }
            }
            return sum;
        }

        /** How many rings begin with the first takings of the row, at which these locks are held. */
        private int countRingsFrom(int size, int held) {
            if (size <= 0 || size > THREADS) {
                return 0;
            }
            int first = ringRow[0];
            int latest = ringRow[size - 1];
            int lock = program.subjectAt(latest / STEPS, latest % STEPS);
            int closing = program.heldAt(first / STEPS, first % STEPS) >>> lock & 1;
            int sum = size > 1 ? closing : 0;
            for (int thread = first / STEPS + 1; thread < program.threads; thread++) {
                sum += countRingsWith(size, held, lock, thread);
            }
            return sum;
        }

        /**
         * The same of those whose next taking is of this thread. That all locks are different need
         * not be asked: each is held at the next taking, and none is held at two.
         */
        private int countRingsWith(int size, int held, int lock, int thread) {
            int sum = 0;
            for (int step = 0; step < program.lengthOf(thread) && size < THREADS; step++) {
                int own = program.heldAt(thread, step);
                if ((own >>> lock & 1) != 0 && (own & held) == 0 && fitsRing(size, thread, step)) {
                    ringRow[size] = thread * STEPS + step;
                    sum += countRingsFrom(size + 1, held | own);
                }
            }
            return sum;
        }

        private boolean fitsRing(int size, int thread, int step) {
            if (program.kindAt(thread, step) != TAKE) {
                return false;
            }
            for (int i = 0; i < size && i < THREADS; i++) {
                int before = ringRow[i] / STEPS;
                if (before == thread || !canMeet(before, ringRow[i] % STEPS, thread, step)) {
                    return false;
                }
            }
            return true;
        }
    }
}
