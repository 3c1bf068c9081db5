/** Pages kept by a known plan of asks: see ../shared/DOC.md for what each call promises. */
public final class PlannedPages {
    public static final int NONE = -1;

    private static final int PAGES = 8;
    private static final int PLAN_LIMIT = 80;
    private static final int MOST_FRAMES = 6;
    private static final int FIRST_FRAMES = 3;
    private static final int BUFFER_LIMIT = 40;
    private static final int SAVES_LIMIT = 6;

    private static final int BY_NEXT_USE = 0;
    private static final int BY_LATEST_ASK = 1;
    private static final int BY_LATEST_READ = 2;

    private static final int HIT = 0;
    private static final int READ_INTO_EMPTY = 1;
    private static final int READ_FOR_CLEAN = 2;
    private static final int READ_FOR_CHANGED = 3;

    private static final int ASK_PROPERTIES = 4;
    private static final int PAGE_PROPERTIES = 8;
    private static final int NUMBERS = 10;
    private static final int RULE_NUMBERS = 3;

    private static final long HASH_START = 3001L;
    private static final int DOUBLE_BIAS = 1023;
    private static final int DOUBLE_FRACTION_BITS = 52;

    private final State now;
    // All trials run in this one state, so that no call makes an object.
    private final State trial;
    private final State[] saved;
    private int savedCount;
    private final Text buffer;

    public PlannedPages() {
        now = new State();
        trial = new State();
        saved = new State[SAVES_LIMIT];
        for (int i = 0; i < saved.length; i++) {
            saved[i] = new State();
        }
        savedCount = 0;
        buffer = new Text();
    }

    // ---- the plan

    public int extend() throws IllegalArgumentException, IllegalStateException {
        if (!buffer.tellsAsks()) {
            throw new IllegalArgumentException("the buffer does not tell asks");
        }
        if (now.size + buffer.asksTold() > PLAN_LIMIT) {
            throw new IllegalStateException("the plan would have too many asks");
        }
        save();
        for (int i = 0; i < buffer.length; i++) {
            for (int times = buffer.timesAt(i); times > 0; times--) {
                now.putAsk(now.size, buffer.pageAt(i), buffer.writesAt(i));
            }
        }
        buffer.length = 0;
        return now.size;
    }

    public int insert(int place, int page, boolean write)
            throws IndexOutOfBoundsException, IllegalArgumentException, IllegalStateException {
        if (place < now.done || place > now.size) {
            throw new IndexOutOfBoundsException("no such place to come");
        }
        checkPage(page);
        if (now.size >= PLAN_LIMIT) {
            throw new IllegalStateException("the plan is full");
        }
        save();
        now.putAsk(place, page, write ? 1 : 0);
        return now.asksToCome();
    }

    public int drop(int place) throws IndexOutOfBoundsException {
        checkToCome(place);
        save();
        int page = now.asked.get(place);
        now.takeAsk(place);
        return page;
    }

    public int exchange(int one, int other) throws IndexOutOfBoundsException {
        checkToCome(one);
        checkToCome(other);
        save();
        now.asked.swap(one, other);
        now.writes.swap(one, other);
        return now.asked.get(one);
    }

    // ---- acts

    public int go(int asks) throws IllegalArgumentException {
        if (asks < 1 || asks > PLAN_LIMIT) {
            throw new IllegalArgumentException("asks is not 1 to 80");
        }
        save();
        int before = now.reads.sum();
        for (int i = 0; i < asks; i++) {
            now.doNext(BY_NEXT_USE);
        }
        return now.reads.sum() - before;
    }

    public int pin(int page) throws IllegalArgumentException, IllegalStateException {
        checkPage(page);
        boolean loose = now.pinned.get(page) == 0;
        if (loose && !now.canPinMore()) {
            throw new IllegalStateException("no more pages can be pinned");
        }
        save();
        now.pinned.set(page, loose ? 1 : 0);
        return now.pinnedPages();
    }

    public int frames(int frames) throws IllegalArgumentException, IllegalStateException {
        if (frames < 1 || frames > MOST_FRAMES) {
            throw new IllegalArgumentException("frames is not 1 to 6");
        }
        if (now.pinnedPages() > frames - 1) {
            throw new IllegalStateException("too many pages are pinned");
        }
        save();
        int gone = 0;
        while (gone < MOST_FRAMES && now.pagesInFrames() > frames) {
            now.takeOut(now.victimBy(BY_NEXT_USE, now.done));
            gone++;
        }
        if (frames < now.frameCount) {
            now.moveDown();
        }
        now.frameCount = frames;
        return gone;
    }

    public int flush() {
        save();
        int before = now.writeBacks.sum();
        for (int page = 0; page < PAGES; page++) {
            now.writeBack(page);
        }
        return now.writeBacks.sum() - before;
    }

    // ---- the buffer

    public int append(int code) throws IllegalArgumentException, IllegalStateException {
        if (code < 33 || code > 126) {
            throw new IllegalArgumentException("code is not 33 to 126");
        }
        if (buffer.length >= BUFFER_LIMIT) {
            throw new IllegalStateException("the buffer is full");
        }
        buffer.codes.set(buffer.length, code);
        buffer.length++;
        return buffer.length;
    }

    public int clearBuffer() {
        int length = buffer.length;
        buffer.length = 0;
        return length;
    }

    public int firstError() {
        return buffer.firstWrong();
    }

    public int undo() throws IllegalStateException {
        if (savedCount < 1) {
            throw new IllegalStateException("there is no saved state");
        }
        savedCount--;
        copySaved(savedCount);
        return savedCount;
    }

    // ---- looks; nothing is changed

    public int ask(int place, int what) throws IndexOutOfBoundsException, IllegalArgumentException {
        if (place < 0 || place >= now.size) {
            throw new IndexOutOfBoundsException("no such ask");
        }
        switch (what) {
            case 0:
                return now.asked.get(place);
            case 1:
                return now.writes.get(place);
            case 2:
                return place < now.done ? now.brought.get(place) : NONE;
            case 3:
                return place < now.done ? now.victims.get(place) : NONE;
            default:
                throw new IllegalArgumentException("what is not 0 to 3");
        }
    }

    public int page(int page, int what) throws IllegalArgumentException {
        checkPage(page);
        switch (what) {
            case 0:
                return now.frameOf.get(page);
            case 1:
                return now.changed.get(page);
            case 2:
                return now.pinned.get(page);
            case 3:
                return now.nextUse(page, now.done);
            case 4:
                return now.latestAsk.get(page);
            case 5:
                return now.reads.get(page);
            case 6:
                return now.writeBacks.get(page);
            case 7:
                return now.asked.countOf(page, now.done, now.size);
            default:
                throw new IllegalArgumentException("what is not 0 to 7");
        }
    }

    public int frame(int frame) throws IndexOutOfBoundsException {
        if (frame < 0 || frame >= now.frameCount) {
            throw new IndexOutOfBoundsException("no such frame");
        }
        return now.pageIn(frame);
    }

    public int count(int what) throws IllegalArgumentException {
        switch (what) {
            case 0:
                return now.size;
            case 1:
                return now.done;
            case 2:
                return now.frameCount;
            case 3:
                return now.pagesInFrames();
            case 4:
                return now.pinnedPages();
            case 5:
                return now.hits();
            case 6:
                return now.reads.sum();
            case 7:
                return now.writeBacks.sum();
            case 8:
                return now.changed.sum();
            case 9:
                return savedCount;
            default:
                throw new IllegalArgumentException("what is not 0 to 9");
        }
    }

    // ---- what would be; nothing is changed

    public int victim() {
        if (now.asksToCome() == 0 || now.lowestEmptyFrame() != NONE) {
            return NONE;
        }
        return now.victimBy(BY_NEXT_USE, now.done + 1);
    }

    public int byRule(int rule, int what) throws IllegalArgumentException {
        if (rule < BY_NEXT_USE || rule > BY_LATEST_READ) {
            throw new IllegalArgumentException("rule is not 0 to 2");
        }
        if (what < 0 || what >= RULE_NUMBERS) {
            throw new IllegalArgumentException("what is not 0 to 2");
        }
        trial.copyFrom(now);
        int reads = finishTrial(rule);
        if (what == 0) {
            return reads;
        }
        return what == 1 ? trial.writeBacks.sum() - now.writeBacks.sum() : trial.firstRead(now.done);
    }

    // No choice of victims makes fewer reads than the rule 0: wherever another victim is chosen, the one
    // with the greatest next use can be put in its stead without a read more. Pinned pages don't alter
    // that, since no choice decides when they come in, and none puts them out.
    public int fewestReads() {
        trial.copyFrom(now);
        return finishTrial(BY_NEXT_USE);
    }

    public int framesFor(int reads) throws IllegalArgumentException {
        if (reads < 0) {
            throw new IllegalArgumentException("reads is below 0");
        }
        for (int frames = now.frameCount; frames <= MOST_FRAMES; frames++) {
            trial.copyFrom(now);
            trial.frameCount = frames;
            if (finishTrial(BY_NEXT_USE) <= reads) {
                return frames;
            }
        }
        return NONE;
    }

    public int ifDropped(int place) throws IndexOutOfBoundsException {
        checkToCome(place);
        trial.copyFrom(now);
        trial.takeAsk(place);
        return finishTrial(BY_NEXT_USE);
    }

    public int bestPin() {
        int best = NONE;
        if (!now.canPinMore()) {
            return best;
        }
        int fewest = 0;
        for (int page = 0; page < PAGES; page++) {
            if (now.pinned.get(page) == 0) {
                trial.copyFrom(now);
                trial.pinned.set(page, 1);
                int reads = finishTrial(BY_NEXT_USE);
                if (best == NONE || reads < fewest) {
                    best = page;
                    fewest = reads;
                }
            }
        }
        return best;
    }

    public double hitShare() {
        if (now.done < 1) {
            return 1.0;
        }
        return (double) now.hits() / (double) now.done;
    }

    public long digest() {
        long hash = HASH_START;
        for (int what = 0; what < NUMBERS; what++) {
            hash = mixed(hash, count(what));
        }
        for (int i = 0; i < now.size * ASK_PROPERTIES; i++) {
            hash = mixed(hash, ask(i / ASK_PROPERTIES, i % ASK_PROPERTIES));
        }
        for (int i = 0; i < PAGES * PAGE_PROPERTIES; i++) {
            hash = mixed(hash, page(i / PAGE_PROPERTIES, i % PAGE_PROPERTIES));
        }
        for (int frame = 0; frame < now.frameCount; frame++) {
            hash = mixed(hash, now.pageIn(frame));
        }
        hash = mixed(hash, victim());
        for (int rule = BY_NEXT_USE; rule <= BY_LATEST_READ; rule++) {
            for (int what = 0; what < RULE_NUMBERS; what++) {
                hash = mixed(hash, byRule(rule, what));
            }
        }
        hash = mixed(hash, fewestReads());
        hash = mixed(hash, framesFor(5));
        hash = mixed(hash, framesFor(10));
        if (now.asksToCome() > 0) {
            hash = mixed(hash, ifDropped(now.done));
        }
        hash = mixed(hash, bestPin());
        hash = mixed(hash, bitsOfShare(hitShare()));
        hash = mixed(hash, buffer.length);
        for (int i = 0; i < buffer.length; i++) {
            hash = mixed(hash, buffer.codeAt(i));
        }
        return hash;
    }

    // ---- helpers of the face

    private static void checkPage(int page) {
        if (page < 0 || page >= PAGES) {
            throw new IllegalArgumentException("page is not 0 to 7");
        }
    }

    private void checkToCome(int place) {
        if (place < now.done || place >= now.size) {
            throw new IndexOutOfBoundsException("no such ask to come");
        }
    }

    private void save() {
        if (savedCount >= saved.length) {
            dropOldestSaved();
        }
        if (savedCount >= 0 && savedCount < saved.length) {
            State slot = saved[savedCount];
            if (slot != null) {
                slot.copyFrom(now);
                savedCount++;
            }
        }
    }

    // The oldest state's object goes to the end of the row, to be written over.
    private void dropOldestSaved() {
        for (int i = 1; i < saved.length; i++) {
            State oldest = saved[i - 1];
            saved[i - 1] = saved[i];
            saved[i] = oldest;
        }
        savedCount = saved.length - 1;
    }

    private void copySaved(int index) {
        if (index >= 0 && index < saved.length) {
            State slot = saved[index];
            if (slot != null) {
                now.copyFrom(slot);
            }
        }
    }

    // Does the trial's asks to come, and tells how many pages it has read more than now.
    private int finishTrial(int rule) {
        for (int left = trial.asksToCome(); left > 0; left--) {
            trial.doNext(rule);
        }
        return trial.reads.sum() - now.reads.sum();
    }

    private static long mixed(long hash, long value) {
        return 31L * hash + value;
    }

    // LANGUAGE.md leaves no Double.doubleToLongBits: for 0 to 1 each step here is exact instead.
    private static long bitsOfShare(double share) {
        if (share <= 0.0) {
            return 0L;
        }
        double scaled = share;
        long exponent = DOUBLE_BIAS;
        while (scaled < 1.0 && exponent > 1L) {
            scaled = scaled * 2.0;
            exponent--;
        }
        double unit = (double) (1L << DOUBLE_FRACTION_BITS);
        return (exponent << DOUBLE_FRACTION_BITS) + (long) ((scaled - 1.0) * unit);
    }

    /** The plan and the frames, with all that is counted so far: what a saved state holds. */
    private static final class State {
        final Row asked = new Row(PLAN_LIMIT, 0);
        final Row writes = new Row(PLAN_LIMIT, 0);
        final Row brought = new Row(PLAN_LIMIT, NONE);
        final Row victims = new Row(PLAN_LIMIT, NONE);
        int size = 0;
        int done = 0;

        int frameCount = FIRST_FRAMES;
        final Row frameOf = new Row(PAGES, NONE);
        final Row changed = new Row(PAGES, 0);
        final Row pinned = new Row(PAGES, 0);
        // Done asks keep their numbers for good, so these two stay true while the plan changes.
        final Row latestAsk = new Row(PAGES, NONE);
        final Row latestRead = new Row(PAGES, NONE);
        final Row reads = new Row(PAGES, 0);
        final Row writeBacks = new Row(PAGES, 0);

        void copyFrom(State other) {
            asked.copyFrom(other.asked);
            writes.copyFrom(other.writes);
            brought.copyFrom(other.brought);
            victims.copyFrom(other.victims);
            size = other.size;
            done = other.done;
            frameCount = other.frameCount;
            frameOf.copyFrom(other.frameOf);
            changed.copyFrom(other.changed);
            pinned.copyFrom(other.pinned);
            latestAsk.copyFrom(other.latestAsk);
            latestRead.copyFrom(other.latestRead);
            reads.copyFrom(other.reads);
            writeBacks.copyFrom(other.writeBacks);
        }

        int asksToCome() {
            return size - done;
        }

        int hits() {
            return brought.countOf(HIT, 0, done);
        }

        int pagesInFrames() {
            return PAGES - frameOf.countOf(NONE, 0, PAGES);
        }

        int pinnedPages() {
            return pinned.sum();
        }

        boolean canPinMore() {
            return pinnedPages() < frameCount - 1;
        }

        int pageIn(int frame) {
            return frameOf.firstOf(frame, 0, PAGES);
        }

        int lowestEmptyFrame() {
            for (int frame = 0; frame < frameCount; frame++) {
                if (pageIn(frame) == NONE) {
                    return frame;
                }
            }
            return NONE;
        }

        int nextUse(int page, int from) {
            int place = asked.firstOf(page, from, size);
            return place == NONE ? PLAN_LIMIT : place;
        }

        int firstRead(int from) {
            for (int i = from; i < done; i++) {
                if (brought.get(i) != HIT) {
                    return i;
                }
            }
            return NONE;
        }

        void putAsk(int place, int page, int write) {
            asked.open(place, page);
            writes.open(place, write);
            size++;
        }

        void takeAsk(int place) {
            asked.close(place);
            writes.close(place);
            size--;
        }

        // The minus makes the rules that look for the smallest number look for the greatest, too.
        int victimBy(int rule, int from) {
            int best = NONE;
            int greatest = 0;
            for (int page = 0; page < PAGES; page++) {
                if (frameOf.get(page) != NONE && pinned.get(page) == 0) {
                    int age = rule == BY_NEXT_USE ? nextUse(page, from)
                            : rule == BY_LATEST_ASK ? -latestAsk.get(page) : -latestRead.get(page);
                    if (best == NONE || age > greatest) {
                        best = page;
                        greatest = age;
                    }
                }
            }
            return best;
        }

        void doNext(int rule) {
            if (done >= size) {
                return;
            }
            int page = asked.get(done);
            int why = HIT;
            int victim = NONE;
            if (frameOf.get(page) == NONE) {
                int frame = lowestEmptyFrame();
                why = READ_INTO_EMPTY;
                if (frame == NONE) {
                    victim = victimBy(rule, done + 1);
                    why = changed.get(victim) == 1 ? READ_FOR_CHANGED : READ_FOR_CLEAN;
                    frame = frameOf.get(victim);
                    takeOut(victim);
                }
                readInto(frame, page);
            }
            markDone(page, why, victim);
        }

        private void readInto(int frame, int page) {
            frameOf.set(page, frame);
            latestRead.set(page, done);
            reads.set(page, reads.get(page) + 1);
        }

        private void markDone(int page, int why, int victim) {
            if (writes.get(done) == 1) {
                changed.set(page, 1);
            }
            brought.set(done, why);
            victims.set(done, victim);
            latestAsk.set(page, done);
            done++;
        }

        void takeOut(int page) {
            writeBack(page);
            frameOf.set(page, NONE);
        }

        // Only pages in frames are ever changed.
        void writeBack(int page) {
            if (changed.get(page) == 1) {
                changed.set(page, 0);
                writeBacks.set(page, writeBacks.get(page) + 1);
            }
        }

        void moveDown() {
            int lowest = 0;
            for (int frame = 0; frame < frameCount; frame++) {
                int page = pageIn(frame);
                if (page != NONE) {
                    frameOf.set(page, lowest);
                    lowest++;
                }
            }
        }
    }

    /** The buffer, and what it tells. */
    private static final class Text {
        final Row codes = new Row(BUFFER_LIMIT, 0);
        int length = 0;

        int codeAt(int index) {
            return index < length ? codes.get(index) : NONE;
        }

        int pageAt(int index) {
            int code = codeAt(index);
            if (code >= 'a' && code <= 'h') {
                return code - 'a';
            }
            return code >= 'A' && code <= 'H' ? code - 'A' : NONE;
        }

        int writesAt(int index) {
            int code = codeAt(index);
            return code >= 'A' && code <= 'H' ? 1 : 0;
        }

        boolean isDigit(int index) {
            int code = codeAt(index);
            return code >= '2' && code <= '9';
        }

        // How many asks the letter at this place stands for; 0 if no letter is there.
        int timesAt(int index) {
            if (pageAt(index) == NONE) {
                return 0;
            }
            return isDigit(index + 1) ? codeAt(index + 1) - '0' : 1;
        }

        int asksTold() {
            int asks = 0;
            for (int i = 0; i < length; i++) {
                asks += timesAt(i);
            }
            return asks;
        }

        // Each begin without an error is itself asks as a text, but for the empty one.
        boolean tellsAsks() {
            return length > 0 && firstWrong() == length;
        }

        int firstWrong() {
            for (int i = 0; i < length; i++) {
                boolean letter = pageAt(i) != NONE;
                boolean digitBehindLetter = isDigit(i) && pageAt(i - 1) != NONE;
                if (!letter && !digitBehindLetter) {
                    return i;
                }
            }
            return length;
        }
    }

    /** A row of numbers that looks at each index itself, so that the machine never throws at one. */
    private static final class Row {
        private final int[] cells;

        Row(int length, int first) {
            cells = new int[length < 0 ? 0 : length];
            for (int i = 0; i < cells.length; i++) {
                cells[i] = first;
            }
        }

        int get(int index) {
            return index >= 0 && index < cells.length ? cells[index] : NONE;
        }

        void set(int index, int value) {
            if (index >= 0 && index < cells.length) {
                cells[index] = value;
            }
        }

        void swap(int one, int other) {
            int value = get(one);
            set(one, get(other));
            set(other, value);
        }

        // Moves what is at this place and behind it on; the last one goes.
        void open(int place, int value) {
            for (int i = cells.length - 1; i > place && i > 0; i--) {
                cells[i] = cells[i - 1];
            }
            set(place, value);
        }

        // Lets what is behind this place come up; the last one stays twice.
        void close(int place) {
            for (int i = place < 0 ? 0 : place; i < cells.length - 1; i++) {
                cells[i] = cells[i + 1];
            }
        }

        int firstOf(int value, int from, int end) {
            for (int i = from < 0 ? 0 : from; i < end && i < cells.length; i++) {
                if (cells[i] == value) {
                    return i;
                }
            }
            return NONE;
        }

        int countOf(int value, int from, int end) {
            int count = 0;
            for (int i = from < 0 ? 0 : from; i < end && i < cells.length; i++) {
                if (cells[i] == value) {
                    count++;
                }
            }
            return count;
        }

        int sum() {
            int sum = 0;
            for (int i = 0; i < cells.length; i++) {
                sum += cells[i];
            }
            return sum;
        }

        void copyFrom(Row other) {
            System.arraycopy(other.cells, 0, cells, 0, Math.min(cells.length, other.cells.length));
        }
    }
}
