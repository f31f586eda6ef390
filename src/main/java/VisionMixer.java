/** A vision mixer with a log that is replayed, and a script text; ../shared/DOC.md says what it must do. */
public final class VisionMixer {
    public static final int NONE = -1;

    private static final int SOURCES = 10;
    private static final int BLACK = 0;
    private static final int KEYERS = 3;
    private static final int BACKGROUND = 1;
    private static final int WHOLE = 1000000;
    private static final int END_POSITION = 1000;
    private static final int HIGHEST_RATE = 100;
    private static final int LAST_TIME = 5000;
    private static final int MOST_FRAMES = 500;

    // What was done, by the numbers that act() tells.
    private static final int PROGRAM = 0;
    private static final int PREVIEW = 1;
    private static final int TRANSITION = 2;
    private static final int NEXT = 3;
    private static final int KEY = 4;
    private static final int TOGGLE = 5;
    private static final int CUT = 6;
    private static final int AUTO = 7;
    private static final int BAR = 8;
    private static final int FAULT = 9;
    // An order of a text can be this too, an act of the log never is.
    private static final int PASS = 10;

    private final Mix now = new Mix();
    private final Mix kept = new Mix();
    private final Mix behind = new Mix();
    private final Log log = new Log();
    private final Replay replay = new Replay();
    private final Picture picture = new Picture();
    private final Picture other = new Picture();
    private final Script script = new Script();

    public VisionMixer() {
    }

    public int program(int source) throws IndexOutOfBoundsException, IllegalStateException {
        checkSource(source);
        return enact(PROGRAM, source, NONE, NONE, NONE);
    }

    public int preview(int source) throws IndexOutOfBoundsException, IllegalStateException {
        checkSource(source);
        return enact(PREVIEW, source, NONE, NONE, NONE);
    }

    public int transition(int kind, int rate) throws IllegalArgumentException, IllegalStateException {
        checkRange(kind, 0, 2);
        checkRange(rate, 1, HIGHEST_RATE);
        return enact(TRANSITION, kind, rate, NONE, NONE);
    }

    public int next(int elements) throws IllegalArgumentException, IllegalStateException {
        checkRange(elements, 0, 15);
        return enact(NEXT, elements, NONE, NONE, NONE);
    }

    public int key(int keyer, int fill, int opacity, int area)
            throws IndexOutOfBoundsException, IllegalArgumentException, IllegalStateException {
        checkKeyer(keyer);
        checkSource(fill);
        checkRange(opacity, 0, 100);
        checkRange(area, 1, 100);
        return enact(KEY, keyer, fill, opacity, area);
    }

    public int toggle(int keyer) throws IndexOutOfBoundsException, IllegalStateException {
        checkKeyer(keyer);
        return enact(TOGGLE, keyer, NONE, NONE, NONE);
    }

    public int cut() throws IllegalStateException {
        return enact(CUT, NONE, NONE, NONE, NONE);
    }

    public int auto() throws IllegalStateException {
        return enact(AUTO, NONE, NONE, NONE, NONE);
    }

    public int bar(int position) throws IllegalArgumentException, IllegalStateException {
        checkRange(position, 0, END_POSITION);
        return enact(BAR, position, NONE, NONE, NONE);
    }

    public int fault(int source, boolean faulty) throws IndexOutOfBoundsException, IllegalStateException {
        checkSource(source);
        if (source == BLACK) {
            throw new IndexOutOfBoundsException();
        }
        return enact(FAULT, source, faulty ? 1 : 0, NONE, NONE);
    }

    public int pass(int frames) throws IllegalArgumentException, IllegalStateException {
        checkRange(frames, 0, MOST_FRAMES);
        if (now.time + frames > LAST_TIME) {
            throw new IllegalStateException();
        }
        now.letPass(frames);
        return now.time;
    }

    public int setting(int what) throws IllegalArgumentException {
        checkRange(what, 0, 8);
        return presentSetting(what);
    }

    public int keyer(int keyer, int what) throws IndexOutOfBoundsException, IllegalArgumentException {
        checkKeyer(keyer);
        checkRange(what, 0, 3);
        return now.tellKeyer(keyer, what);
    }

    public int share(int source, boolean seen) throws IndexOutOfBoundsException {
        checkSource(source);
        picture.paint(now);
        return seen ? picture.seenOf(source, now.faults) : picture.partOf(source);
    }

    public int tally(int source) throws IndexOutOfBoundsException {
        checkSource(source);
        paintTallies();
        return tallyPainted(source);
    }

    public double faulty() {
        picture.paint(now);
        return (double) picture.faultyParts(now.faults) / 1000000.0;
    }

    public int settingAt(int time, int what) throws IndexOutOfBoundsException, IllegalArgumentException {
        checkTime(time);
        checkRange(what, 0, 6);
        replayTo(time, NONE);
        return replay.mix.tellSetting(what);
    }

    public int shareAt(int time, int source) throws IndexOutOfBoundsException {
        checkTime(time);
        checkSource(source);
        replayTo(time, NONE);
        other.paint(replay.mix);
        return other.partOf(source);
    }

    public int timesRed(int source) throws IndexOutOfBoundsException {
        checkSource(source);
        int times = 0;
        int span = 1;
        replay.begin();
        for (int time = 0; time <= now.time; time += span) {
            boolean red = hasSource(redsAt(time), source);
            span = Math.max(1, replay.sameTimes(log, now.time));
            if (red) {
                times += span;
            }
        }
        return times;
    }

    public int firstRed(int source) throws IndexOutOfBoundsException {
        checkSource(source);
        int span = 1;
        replay.begin();
        for (int time = 0; time <= now.time; time += span) {
            if (hasSource(redsAt(time), source)) {
                return time;
            }
            span = Math.max(1, replay.sameTimes(log, now.time));
        }
        return NONE;
    }

    public int longestShot() {
        int longest = 0;
        int shot = 0;
        int lastReds = NONE;
        int span = 1;
        replay.begin();
        for (int time = 0; time <= now.time; time += span) {
            int reds = redsAt(time);
            span = Math.max(1, replay.sameTimes(log, now.time));
            shot = reds == lastReds ? shot + span : span;
            longest = Math.max(longest, shot);
            lastReds = reds;
        }
        return longest;
    }

    public int runs() {
        replayTo(now.time, NONE);
        return replay.mix.runsCompleted;
    }

    public int act(int act, int what) throws IndexOutOfBoundsException, IllegalArgumentException {
        checkAct(act);
        checkRange(what, 0, 3);
        return log.tell(act, what);
    }

    public int takeOut(int act) throws IndexOutOfBoundsException {
        checkAct(act);
        log.remove(act);
        replayPresent();
        return log.size();
    }

    public int undo() throws IllegalStateException {
        if (log.size() == 0) {
            throw new IllegalStateException();
        }
        log.remove(log.size() - 1);
        replayPresent();
        return log.size();
    }

    public int redWithout(int act) throws IndexOutOfBoundsException {
        checkAct(act);
        replayTo(now.time, act);
        other.paint(replay.mix);
        return other.reds();
    }

    public int idle() {
        int idleActs = 0;
        picture.paint(now);
        for (int act = 0; act < log.size(); act++) {
            replayTo(now.time, act);
            other.paint(replay.mix);
            if (other.sameParts(picture)) {
                idleActs++;
            }
        }
        return idleActs;
    }

    public int append(int value) throws IllegalArgumentException, IllegalStateException {
        checkRange(value, 0, 127);
        if (script.isFull()) {
            throw new IllegalStateException();
        }
        return script.add(value);
    }

    public int clearText() {
        return script.empty();
    }

    public int carryOut() {
        int error = script.read();
        if (error != NONE) {
            return -10 - error;
        }
        int actsKept = log.size();
        kept.copy(now);
        for (int order = 0; order < script.orders(); order++) {
            if (!doOrder(order)) {
                log.shortenTo(actsKept);
                now.copy(kept);
                return -1000 - order;
            }
        }
        return script.orders();
    }

    public long digest() {
        long hash = hashed(3253, script.size());
        for (int what = 0; what <= 8; what++) {
            hash = hashed(hash, presentSetting(what));
        }
        hash = hashKeyers(hash);
        hash = hashSources(hash);
        return hashActs(hash);
    }

    private static void checkSource(int source) {
        if (source < 0 || source >= SOURCES) {
            throw new IndexOutOfBoundsException();
        }
    }

    private static void checkKeyer(int keyer) {
        if (keyer < 0 || keyer >= KEYERS) {
            throw new IndexOutOfBoundsException();
        }
    }

    private void checkTime(int time) {
        if (time < 0 || time > now.time) {
            throw new IndexOutOfBoundsException();
        }
    }

    private void checkAct(int act) {
        if (act < 0 || act >= log.size()) {
            throw new IndexOutOfBoundsException();
        }
    }

    private static void checkRange(int value, int lowest, int highest) {
        if (value < lowest || value > highest) {
            throw new IllegalArgumentException();
        }
    }

    private boolean mayAct(int what) {
        return !log.isFull() && now.isPossible(what);
    }

    private int enact(int what, int first, int second, int third, int fourth) {
        if (!mayAct(what)) {
            throw new IllegalStateException();
        }
        log.add(now.time, what, first, second, third, fourth);
        return now.perform(what, first, second, third, fourth);
    }

    /** Says whether the order could be done; if not, it has changed nothing. */
    private boolean doOrder(int order) {
        int what = script.whatOf(order);
        int first = script.firstOf(order);
        if (what == PASS) {
            if (first > MOST_FRAMES || now.time + first > LAST_TIME) {
                return false;
            }
            now.letPass(first);
            return true;
        }
        if (!mayAct(what)) {
            return false;
        }
        enact(what, first, script.secondOf(order), NONE, NONE);
        return true;
    }

    private void replayTo(int time, int without) {
        replay.begin();
        replay.goTo(log, time, without);
    }

    private void replayPresent() {
        replay.begin();
        replay.goTo(log, now.time, NONE);
        now.copy(replay.mix);
    }

    /** The replay must have begun, and must not be behind that time. */
    private int redsAt(int time) {
        replay.goTo(log, time, NONE);
        other.paint(replay.mix);
        return other.reds();
    }

    private int presentSetting(int what) {
        return what == 8 ? log.size() : now.tellSetting(what);
    }

    private void paintTallies() {
        picture.paint(now);
        behind.copy(now);
        behind.complete();
        other.paint(behind);
    }

    private int tallyPainted(int source) {
        if (picture.partOf(source) > 0) {
            return 2;
        }
        return other.partOf(source) > 0 ? 1 : 0;
    }

    private long hashKeyers(long before) {
        long hash = before;
        for (int keyer = 0; keyer < KEYERS; keyer++) {
            for (int what = 0; what <= 3; what++) {
                hash = hashed(hash, now.tellKeyer(keyer, what));
            }
        }
        return hash;
    }

    private long hashSources(long before) {
        long hash = before;
        paintTallies();
        for (int source = 0; source < SOURCES; source++) {
            hash = hashed(hash, picture.partOf(source));
            hash = hashed(hash, picture.seenOf(source, now.faults));
            hash = hashed(hash, tallyPainted(source));
        }
        return hash;
    }

    private long hashActs(long before) {
        long hash = before;
        for (int act = 0; act < log.size(); act++) {
            for (int what = 0; what <= 3; what++) {
                hash = hashed(hash, log.tell(act, what));
            }
        }
        return hash;
    }

    private static long hashed(long hash, int value) {
        return 31 * hash + value;
    }

    private static boolean hasSource(int sources, int source) {
        return (sources >> source & 1) != 0;
    }

    private static int cell(int[] row, int index) {
        return index >= 0 && index < row.length ? row[index] : NONE;
    }

    private static void put(int[] row, int index, int value) {
        if (index >= 0 && index < row.length) {
            row[index] = value;
        }
    }

    /** The state of the mixer and of its keyers at one time. */
    private static final class Mix {
        private int program;
        private int preview;
        private int kind;
        private int rate;
        private int elements;
        private int position;
        private int run;
        private int time;
        private int runsCompleted;
        private int faults;
        private int keyersOn;
        private final int[] fills = new int[KEYERS];
        private final int[] opacities = new int[KEYERS];
        private final int[] areas = new int[KEYERS];

        Mix() {
            reset();
        }

        void reset() {
            program = 1;
            preview = 2;
            kind = 0;
            rate = 25;
            elements = BACKGROUND;
            position = 0;
            run = NONE;
            time = 0;
            runsCompleted = 0;
            faults = 0;
            keyersOn = 0;
            for (int keyer = 0; keyer < KEYERS; keyer++) {
                put(fills, keyer, 3 + keyer);
                put(opacities, keyer, 100);
                put(areas, keyer, 25);
            }
        }

        void copy(Mix from) {
            program = from.program;
            preview = from.preview;
            kind = from.kind;
            rate = from.rate;
            elements = from.elements;
            position = from.position;
            run = from.run;
            time = from.time;
            runsCompleted = from.runsCompleted;
            faults = from.faults;
            keyersOn = from.keyersOn;
            for (int keyer = 0; keyer < KEYERS; keyer++) {
                put(fills, keyer, cell(from.fills, keyer));
                put(opacities, keyer, cell(from.opacities, keyer));
                put(areas, keyer, cell(from.areas, keyer));
            }
        }

        boolean isPossible(int what) {
            switch (what) {
                case NEXT:
                case AUTO:
                    return position == 0 && run == NONE;
                case BAR:
                    return run == NONE;
                default:
                    return true;
            }
        }

        /** Does an act that is possible, and returns what its method returns. */
        int perform(int what, int first, int second, int third, int fourth) {
            switch (what) {
                case PROGRAM:
                    return setProgram(first);
                case PREVIEW:
                    return setPreview(first);
                case TRANSITION:
                    return setKindAndRate(first, second);
                case NEXT:
                    return setElements(first);
                case KEY:
                    return setKeyer(first, second, third, fourth);
                case TOGGLE:
                    return switchKeyer(first);
                case CUT:
                    complete();
                    return program;
                case AUTO:
                    run = 0;
                    return rate;
                case BAR:
                    return setPosition(first);
                case FAULT:
                    return setFault(first, second);
                default:
                    return NONE;
            }
        }

        private int setProgram(int source) {
            int previous = program;
            program = source;
            return previous;
        }

        private int setPreview(int source) {
            int previous = preview;
            preview = source;
            return previous;
        }

        private int setKindAndRate(int newKind, int newRate) {
            int previous = kind;
            kind = newKind;
            rate = newRate;
            return previous;
        }

        private int setElements(int newElements) {
            int previous = elements;
            elements = newElements;
            return previous;
        }

        private int setKeyer(int keyer, int fill, int opacity, int area) {
            int previous = cell(fills, keyer);
            put(fills, keyer, fill);
            put(opacities, keyer, opacity);
            put(areas, keyer, area);
            return previous;
        }

        private int switchKeyer(int keyer) {
            keyersOn ^= 1 << keyer;
            return isOn(keyer) ? 1 : 0;
        }

        private int setPosition(int newPosition) {
            int previous = position;
            position = newPosition;
            if (newPosition == END_POSITION) {
                complete();
            }
            return previous;
        }

        private int setFault(int source, int faulty) {
            int previous = faults >> source & 1;
            faults = faults & ~(1 << source) | faulty << source;
            return previous;
        }

        void complete() {
            if (movesBackground()) {
                int previous = program;
                program = preview;
                preview = previous;
            }
            keyersOn ^= elements >> 1;
            position = 0;
            run = NONE;
        }

        /** Takes all the frames in one step: behind the end of a run, frames change the time alone. */
        void letPass(int frames) {
            if (frames <= 0) {
                return;
            }
            time += frames;
            if (run == NONE) {
                return;
            }
            // The rate may have been set below the run's frames: the next frame completes it then.
            if (frames >= Math.max(1, rate - run)) {
                complete();
                runsCompleted++;
            } else {
                run += frames;
                position = rate > 0 ? run * END_POSITION / rate : 0;
            }
        }

        boolean movesBackground() {
            return (elements & BACKGROUND) != 0;
        }

        private boolean moves(int keyer) {
            return (elements >> 1 + keyer & 1) != 0;
        }

        private boolean isOn(int keyer) {
            return (keyersOn >> keyer & 1) != 0;
        }

        int fillOf(int keyer) {
            return cell(fills, keyer);
        }

        /** How much a keyer covers, of 10000. */
        int coverOf(int keyer) {
            int full = cell(opacities, keyer) * cell(areas, keyer);
            if (!moves(keyer)) {
                return isOn(keyer) ? full : 0;
            }
            int weight = isOn(keyer) ? END_POSITION - position : position;
            return full * weight / END_POSITION;
        }

        int tellSetting(int what) {
            switch (what) {
                case 0:
                    return program;
                case 1:
                    return preview;
                case 2:
                    return kind;
                case 3:
                    return rate;
                case 4:
                    return elements;
                case 5:
                    return position;
                case 6:
                    return run;
                case 7:
                    return time;
                default:
                    return NONE;
            }
        }

        int tellKeyer(int keyer, int what) {
            switch (what) {
                case 0:
                    return cell(fills, keyer);
                case 1:
                    return cell(opacities, keyer);
                case 2:
                    return cell(areas, keyer);
                default:
                    return isOn(keyer) ? 1 : 0;
            }
        }
    }

    /** The shares of the sources, as painted from a mix. */
    private static final class Picture {
        private final int[] parts = new int[SOURCES];

        Picture() {
        }

        void paint(Mix mix) {
            for (int source = 0; source < SOURCES; source++) {
                put(parts, source, 0);
            }
            paintBackground(mix);
            for (int keyer = 0; keyer < KEYERS; keyer++) {
                layOver(mix.fillOf(keyer), mix.coverOf(keyer));
            }
        }

        private void paintBackground(Mix mix) {
            int moved = mix.position * 1000;
            if (!mix.movesBackground()) {
                addPart(mix.program, WHOLE);
            } else if (mix.kind != 2) {
                addPart(mix.program, WHOLE - moved);
                addPart(mix.preview, moved);
            } else if (mix.position <= 500) {
                addPart(mix.program, WHOLE - 2 * moved);
                addPart(BLACK, 2 * moved);
            } else {
                addPart(BLACK, 2 * WHOLE - 2 * moved);
                addPart(mix.preview, 2 * moved - WHOLE);
            }
        }

        private void addPart(int source, int part) {
            put(parts, source, cell(parts, source) + part);
        }

        private void layOver(int fill, int cover) {
            int takenInAll = 0;
            for (int source = 0; source < SOURCES; source++) {
                int taken = (int) ((long) cell(parts, source) * cover / 10000);
                addPart(source, -taken);
                takenInAll += taken;
            }
            addPart(fill, takenInAll);
        }

        int partOf(int source) {
            return cell(parts, source);
        }

        int seenOf(int source, int faults) {
            if (source == BLACK) {
                return partOf(BLACK) + faultyParts(faults);
            }
            return hasSource(faults, source) ? 0 : partOf(source);
        }

        int faultyParts(int faults) {
            int sum = 0;
            for (int source = 0; source < SOURCES; source++) {
                if (hasSource(faults, source)) {
                    sum += partOf(source);
                }
            }
            return sum;
        }

        int reds() {
            int sources = 0;
            for (int source = 0; source < SOURCES; source++) {
                if (partOf(source) > 0) {
                    sources |= 1 << source;
                }
            }
            return sources;
        }

        boolean sameParts(Picture than) {
            for (int source = 0; source < SOURCES; source++) {
                if (partOf(source) != than.partOf(source)) {
                    return false;
                }
            }
            return true;
        }
    }

    /** The acts in their order: of each its time, what was done, and four arguments. */
    private static final class Log {
        private static final int MOST = 100;
        private static final int FIELDS = 6;

        private final int[] entries = new int[MOST * FIELDS];
        private int count;

        Log() {
        }

        int size() {
            return count;
        }

        boolean isFull() {
            return count >= MOST;
        }

        void add(int time, int what, int first, int second, int third, int fourth) {
            int start = count * FIELDS;
            put(entries, start, time);
            put(entries, start + 1, what);
            put(entries, start + 2, first);
            put(entries, start + 3, second);
            put(entries, start + 4, third);
            put(entries, start + 5, fourth);
            count++;
        }

        void remove(int act) {
            for (int i = act * FIELDS; i < (count - 1) * FIELDS; i++) {
                put(entries, i, cell(entries, i + FIELDS));
            }
            count--;
        }

        void shortenTo(int acts) {
            count = acts;
        }

        int tell(int act, int field) {
            return cell(entries, act * FIELDS + field);
        }

        int timeOf(int act) {
            return tell(act, 0);
        }

        void redo(int act, Mix mix) {
            int what = tell(act, 1);
            if (mix.isPossible(what)) {
                mix.perform(what, tell(act, 2), tell(act, 3), tell(act, 4), tell(act, 5));
            }
        }
    }

    /** Finds the states of former times, one after the other, from the log. */
    private static final class Replay {
        private final Mix mix = new Mix();
        private int upcoming;

        Replay() {
        }

        void begin() {
            mix.reset();
            upcoming = 0;
        }

        /** Goes on to a time, behind all its acts, as if one act (or NONE) were not in the log. */
        void goTo(Log log, int time, int without) {
            for (; upcoming < log.size() && log.timeOf(upcoming) <= time; upcoming++) {
                if (upcoming != without) {
                    mix.letPass(log.timeOf(upcoming) - mix.time);
                    log.redo(upcoming, mix);
                }
            }
            mix.letPass(time - mix.time);
        }

        /** How many times, from this one up to the last, are sure to have its picture: no act, no run changes it. */
        int sameTimes(Log log, int last) {
            if (mix.run != NONE) {
                return 1;
            }
            int end = last + 1;
            if (upcoming < log.size()) {
                end = Math.min(end, log.timeOf(upcoming));
            }
            return end - mix.time;
        }
    }

    /** The script text, and the orders that were read from it. */
    private static final class Script {
        private static final int MOST = 120;
        // The shortest order has two bytes.
        private static final int MOST_ORDERS = 60;
        private static final int FIELDS = 3;

        private final int[] signs = new int[MOST];
        private final int[] orders = new int[MOST_ORDERS * FIELDS];
        private int length;
        private int orderCount;
        private int at;
        private int errorAt;

        Script() {
        }

        boolean isFull() {
            return length >= MOST;
        }

        int size() {
            return length;
        }

        int add(int sign) {
            put(signs, length, sign);
            length++;
            return length;
        }

        int empty() {
            int former = length;
            length = 0;
            return former;
        }

        int orders() {
            return orderCount;
        }

        int whatOf(int order) {
            return cell(orders, order * FIELDS);
        }

        int firstOf(int order) {
            return cell(orders, order * FIELDS + 1);
        }

        int secondOf(int order) {
            return cell(orders, order * FIELDS + 2);
        }

        /** Reads all orders, and returns the syntax error position, or NONE. */
        int read() {
            at = 0;
            orderCount = 0;
            errorAt = NONE;
            for (int i = 0; i < MOST && at < length && errorAt == NONE; i++) {
                readOrder();
            }
            return errorAt;
        }

        private void readOrder() {
            int what = orderOf(signAt(at));
            int first = NONE;
            int second = NONE;
            if (what == NONE) {
                miss(at);
                return;
            }
            at++;
            switch (what) {
                case PROGRAM:
                case PREVIEW:
                    first = readDigit(9);
                    break;
                case TRANSITION:
                    first = readDigit(2);
                    second = readNumber(3, 1, HIGHEST_RATE);
                    break;
                case NEXT:
                    first = readDigit(7);
                    break;
                case BAR:
                    first = readNumber(4, 0, END_POSITION);
                    break;
                case PASS:
                    first = readNumber(3, 0, 999);
                    break;
                default:
                    break;
            }
            readSemicolon();
            keep(what, first, second);
        }

        private static int orderOf(int sign) {
            switch (sign) {
                case 'p':
                    return PROGRAM;
                case 'v':
                    return PREVIEW;
                case 'k':
                    return TRANSITION;
                case 'n':
                    return NEXT;
                case 'c':
                    return CUT;
                case 'a':
                    return AUTO;
                case 'b':
                    return BAR;
                case 'w':
                    return PASS;
                default:
                    return NONE;
            }
        }

        private int readDigit(int highest) {
            int digit = digitAt(at);
            if (digit == NONE || digit > highest) {
                miss(at);
            }
            at++;
            return digit;
        }

        private int readNumber(int mostDigits, int lowest, int highest) {
            int start = at;
            int number = 0;
            for (int i = 0; i < mostDigits && digitAt(at) != NONE; i++) {
                number = 10 * number + digitAt(at);
                at++;
            }
            if (at == start || digitAt(at) != NONE) {
                miss(at);
            } else if (number < lowest || number > highest) {
                miss(start);
            }
            return number;
        }

        private void readSemicolon() {
            if (signAt(at) != ';') {
                miss(at);
            }
            at++;
        }

        private void keep(int what, int first, int second) {
            put(orders, orderCount * FIELDS, what);
            put(orders, orderCount * FIELDS + 1, first);
            put(orders, orderCount * FIELDS + 2, second);
            orderCount++;
        }

        /** The first miss counts: reading an order goes on behind it. */
        private void miss(int position) {
            if (errorAt == NONE) {
                errorAt = position;
            }
        }

        private int signAt(int position) {
            return position < length ? cell(signs, position) : NONE;
        }

        private int digitAt(int position) {
            int sign = signAt(position);
            return sign >= '0' && sign <= '9' ? sign - '0' : NONE;
        }
    }
}
