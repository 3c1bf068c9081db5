/** Promises 1 to 13: for each sentence that names a boundary a test of its own, just inside it and just outside. */
public final class CallsEdgesTest {
    private static final Due due = new Due();

    public static void main(String[] args) {
        newObject();
        objectsApart();
        extendBehindThePlan();
        extendClearsTheBuffer();
        extendWithoutAText();
        extendBeyondEighty();
        insertMovesOn();
        insertPlaces();
        insertPages();
        insertWhetherToWrite();
        insertIntoEighty();
        dropComesUp();
        dropPlaces();
        exchangeTwo();
        exchangePlaces();
        goRange();
        goSoManyOrAll();
        goAsOneCall();
        goReads();
        pinPages();
        pinOrLetLoose();
        pinLimit();
        framesRange();
        framesPinned();
        framesVictims();
        framesByAllAsksToCome();
        framesWrittenBack();
        framesMoveDown();
        flushAllChanged();
        appendCodes();
        appendLength();
        clearBuffer();
        firstErrorLength();
        undoWithNone();
        due.end("CallsEdgesTest");
    }

    // ---- promise 1

    private static void newObject() {
        due.sentence("Creates an empty plan with 3 empty frames, and an empty buffer");
        due.same("counts", Due.countRow(new PlannedPages()), "0 0 3 0 0 0 0 0 0 0");
        due.same("frames", Due.frames(new PlannedPages()), "...");
        due.is("buffer", new PlannedPages().clearBuffer(), 0);
        due.is("NONE", PlannedPages.NONE, -1);
        String[] properties = {"-1", "0", "0", "80", "-1", "0", "0", "0"};
        for (int what = 0; what < 8; what++) {
            String row = (properties[what] + " ").repeat(8).trim();
            due.same("property " + what + " of the pages", Due.pageRow(new PlannedPages(), what), row);
        }
        due.refuses("ask 0", PlannedPages::new, Due.PLACE, x -> x.ask(0, 0));
    }

    private static void objectsApart() {
        due.sentence("Creates");
        PlannedPages one = new PlannedPages();
        Due.busy();
        due.is("a busy object beside it changes nothing", one.digest(), new PlannedPages().digest());
    }

    // ---- promise 2

    private static void extendBehindThePlan() {
        due.sentence("Puts the asks in the buffer behind the plan");
        PlannedPages x = Due.planned("a");
        Due.type(x, "B2c");
        due.is("returns how many asks the plan has then", x.extend(), 4);
        due.same("plan", Due.plan(x), "|aBBc");
        x.go(4);
        Due.type(x, "D");
        due.is("behind a plan that is done", x.extend(), 5);
        due.same("to come", Due.plan(x), "aBBc|D");
    }

    private static void extendClearsTheBuffer() {
        due.sentence("and clears the buffer");
        PlannedPages x = Due.planned("a".repeat(40));
        due.is("buffer", x.clearBuffer(), 0);
        due.is("40 more", Due.typed("b".repeat(40)).extend(), 40);
        due.refuses("extend again", () -> Due.planned("ab"), Due.ARGUMENT, PlannedPages::extend);
        Due.type(x, "9");
        due.is("a digit behind the cleared letters is an error", x.firstError(), 0);
    }

    private static void extendWithoutAText() {
        due.sentence("Throws IllegalArgumentException if the buffer does not tell asks as a text");
        due.refuses("empty", PlannedPages::new, Due.ARGUMENT, PlannedPages::extend);
        String[] bad = {"i", "3", "a1", "a33", "abcdefghi", "ab!", "!ab", "a".repeat(39) + "1", "1" + "a".repeat(39)};
        for (String text : bad) {
            due.refuses("extend by " + text, () -> Due.typed(text), Due.ARGUMENT, PlannedPages::extend);
        }
        due.is("in order again", Due.planned("abcdefghh").count(0), 9);
        due.is("a digit as the 40th", Due.planned("a".repeat(39) + "3").count(0), 41);
    }

    private static void extendBeyondEighty() {
        due.sentence("Throws IllegalStateException if the plan would have more than 80 asks");
        for (int asks = 0; asks <= 80; asks += 8) {
            int before = asks;
            due.is(asks + " and the others", planAndBuffer(before, 80 - before).count(0), before);
            if (asks < 80) {
                due.is("to 80 from " + asks, planAndBuffer(before, 80 - before).extend(), 80);
            }
            due.refuses("to 81 from " + asks, () -> planAndBuffer(before, 81 - before), Due.STATE, PlannedPages::extend);
        }
        due.refuses("180 asks", () -> Due.typed("a9".repeat(20)), Due.STATE, PlannedPages::extend);
    }

    /** A plan of so many asks, and a buffer that tells so many. */
    private static PlannedPages planAndBuffer(int plan, int told) {
        PlannedPages x = new PlannedPages();
        for (int i = 0; i < plan; i++) {
            x.insert(i, i % 8, false);
        }
        for (int left = told; left > 0; left -= 8) {
            x.append('a' + left % 8);
            if (left > 1) {
                x.append('0' + Math.min(left, 8));
            }
        }
        return x;
    }

    // ---- promise 3

    private static void insertMovesOn() {
        due.sentence("Puts an ask into the plan; those at this place and behind it move on");
        String[] plans = {"ab|Hcd", "ab|cHd", "ab|cdH"};
        for (int place = 2; place <= 4; place++) {
            PlannedPages x = Due.planned("abcd");
            x.go(2);
            due.is("returns how many asks are to come then", x.insert(place, 7, true), 3);
            due.same("plan", Due.plan(x), plans[place - 2]);
            due.same("what the done ones brought", Due.askRow(x, 2), "1 1 -1 -1 -1");
        }
    }

    private static void insertPlaces() {
        due.sentence("of an ask to come, or the number of asks");
        for (int place : new int[] {-1, 5}) {
            due.refuses("nothing done, place " + place, () -> doneOfFour(0), Due.PLACE, x -> x.insert(place, 0, false));
        }
        for (int done = 0; done <= 4; done++) {
            int first = done;
            due.is("at the first to come", doneOfFour(done).insert(done, 0, false), 5 - done);
            due.is("at the number of asks", doneOfFour(done).insert(4, 0, false), 5 - done);
            due.refuses("before the first to come", () -> doneOfFour(first), Due.PLACE, x -> x.insert(first - 1, 0, false));
            due.refuses("behind the number of asks", () -> doneOfFour(first), Due.PLACE, x -> x.insert(5, 0, false));
        }
        due.is("in an empty plan", new PlannedPages().insert(0, 0, false), 1);
        due.refuses("place 1 of an empty plan", PlannedPages::new, Due.PLACE, x -> x.insert(1, 0, false));
        due.refuses("place -1 of an empty plan", PlannedPages::new, Due.PLACE, x -> x.insert(-1, 0, false));
        due.refuses("the least place", Due::busy, Due.PLACE, x -> x.insert(Integer.MIN_VALUE, 0, false));
        due.refuses("the greatest place", Due::busy, Due.PLACE, x -> x.insert(Integer.MAX_VALUE, 0, false));
    }

    /** Four asks, so many of them done. */
    private static PlannedPages doneOfFour(int done) {
        PlannedPages x = Due.planned("aBcd");
        if (done > 0) {
            x.go(done);
        }
        return x;
    }

    private static void insertPages() {
        due.sentence("Throws IllegalArgumentException if page is out of range");
        for (int page = 0; page <= 7; page++) {
            PlannedPages x = Due.planned("ab");
            x.insert(1, page, false);
            due.is("page", x.ask(1, 0), page);
        }
        for (int page : new int[] {-1, 8, Integer.MIN_VALUE, Integer.MAX_VALUE}) {
            due.refuses("page " + page, () -> Due.planned("ab"), Due.ARGUMENT, x -> x.insert(1, page, false));
        }
    }

    private static void insertWhetherToWrite() {
        due.sentence("whether it is to write");
        PlannedPages x = Due.planned("aB");
        x.insert(1, 2, true);
        x.insert(1, 3, false);
        due.same("plan", Due.plan(x), "|adCB");
        due.same("writes", Due.askRow(x, 1), "0 0 1 1");
    }

    private static void insertIntoEighty() {
        due.sentence("Throws IllegalStateException if the plan has 80 asks");
        PlannedPages x = Due.full(0);
        x.drop(40);
        due.is("the 80th", x.insert(0, 7, true), 80);
        due.is("the last still writes", x.ask(79, 1), 1);
        for (int done : new int[] {0, 40, 80}) {
            due.refuses("at the first to come, done " + done, () -> Due.full(done), Due.STATE,
                    y -> y.insert(done, 7, true));
            due.refuses("at the end, done " + done, () -> Due.full(done), Due.STATE, y -> y.insert(80, 7, true));
        }
    }

    // ---- promise 4

    private static void dropComesUp() {
        due.sentence("Takes an ask out of the plan; those behind it come up");
        String[] plans = {"aB|dE", "aB|cE", "aB|cd"};
        for (int place = 2; place <= 4; place++) {
            PlannedPages x = Due.planned("aBcdE");
            x.go(2);
            due.is("returns its page", x.drop(place), place);
            due.same("plan", Due.plan(x), plans[place - 2]);
            due.same("what the done ones brought", Due.askRow(x, 2), "1 1 -1 -1");
        }
        PlannedPages full = Due.full(0);
        due.is("the first of 80", full.drop(0), 0);
        due.is("the last came up", full.ask(78, 1), 1);
        due.is("the last of 79", full.drop(78), 1);
        due.is("78 are left", full.count(0), 78);
    }

    private static void dropPlaces() {
        due.sentence("Throws IndexOutOfBoundsException if there is no such ask to come (drop)");
        for (int done = 0; done <= 4; done++) {
            int first = done;
            if (done < 4) {
                due.is("the first to come", doneOfFour(done).drop(done), done);
                due.is("the last", doneOfFour(done).drop(3), 3);
            }
            due.refuses("before the first to come", () -> doneOfFour(first), Due.PLACE, x -> x.drop(first - 1));
            due.refuses("behind the last", () -> doneOfFour(first), Due.PLACE, x -> x.drop(4));
        }
        due.refuses("an empty plan", PlannedPages::new, Due.PLACE, x -> x.drop(0));
        due.refuses("an empty plan, -1", PlannedPages::new, Due.PLACE, x -> x.drop(-1));
        due.refuses("80 of 80", () -> Due.full(0), Due.PLACE, x -> x.drop(80));
        due.refuses("the last of 80 that are done", () -> Due.full(80), Due.PLACE, x -> x.drop(79));
        PlannedPages once = Due.planned("a");
        due.is("the only one", once.drop(0), 0);
        due.is("none is left", once.count(0), 0);
        due.same("and none can be dropped", Due.answer(() -> once.drop(0)), "IndexOutOfBoundsException");
    }

    // ---- promise 5

    private static void exchangeTwo() {
        due.sentence("Exchanges two asks to come");
        PlannedPages x = Due.planned("aBcD");
        due.is("the first and the last", x.exchange(0, 3), 3);
        due.same("plan", Due.plan(x), "|DBca");
        due.is("the former place is the first argument's", x.exchange(2, 1), 1);
        due.same("a write goes along", Due.plan(x), "|DcBa");
        due.is("(may be the same)", x.exchange(3, 3), 0);
        due.same("nothing is changed then", Due.plan(x), "|DcBa");
        PlannedPages full = Due.full(0);
        due.is("0 and 79 of 80", full.exchange(79, 0), 0);
        due.is("the last writes no more", full.ask(79, 1), 0);
        due.is("the first writes", full.ask(0, 1), 1);
    }

    private static void exchangePlaces() {
        due.sentence("Throws IndexOutOfBoundsException if there is no such ask to come (exchange)");
        for (int done = 0; done <= 4; done++) {
            int first = done;
            if (done < 4) {
                due.is("both ends", doneOfFour(done).exchange(done, 3), 3);
                due.is("one that is the same", doneOfFour(done).exchange(done, done), done);
            }
            due.refuses("one is done", () -> doneOfFour(first), Due.PLACE, x -> x.exchange(first - 1, 3));
            due.refuses("other is done", () -> doneOfFour(first), Due.PLACE, x -> x.exchange(3, first - 1));
            due.refuses("one is behind", () -> doneOfFour(first), Due.PLACE, x -> x.exchange(4, 3));
            due.refuses("other is behind", () -> doneOfFour(first), Due.PLACE, x -> x.exchange(3, 4));
            due.refuses("both are the same, done", () -> doneOfFour(first), Due.PLACE,
                    x -> x.exchange(first - 1, first - 1));
            due.refuses("both are the same, behind", () -> doneOfFour(first), Due.PLACE, x -> x.exchange(4, 4));
        }
        due.refuses("an empty plan", PlannedPages::new, Due.PLACE, x -> x.exchange(0, 0));
    }

    // ---- promise 6

    private static void goRange() {
        due.sentence("1 to 80: so many");
        PlannedPages x = Due.full(0);
        x.go(1);
        due.is("1", x.count(1), 1);
        x.go(79);
        due.is("79 more", x.count(1), 80);
        PlannedPages all = Due.full(0);
        all.go(80);
        due.is("80", all.count(1), 80);
        for (int asks : new int[] {0, -1, 81, Integer.MIN_VALUE, Integer.MAX_VALUE}) {
            due.refuses("go " + asks, Due::busy, Due.ARGUMENT, y -> y.go(asks));
            due.refuses("go " + asks + " with none to come", PlannedPages::new, Due.ARGUMENT, y -> y.go(asks));
        }
    }

    private static void goSoManyOrAll() {
        due.sentence("or all that are to come, if these are fewer");
        for (int asks = 1; asks <= 6; asks++) {
            PlannedPages x = Due.planned("abcd");
            due.is("reads of " + asks, x.go(asks), Math.min(asks, 4));
            due.is("done of " + asks, x.count(1), Math.min(asks, 4));
        }
        due.is("none to come", Due.full(80).go(80), 0);
        due.is("an empty plan", new PlannedPages().go(1), 0);
    }

    private static void goAsOneCall() {
        due.sentence("Undoable, as one call");
        PlannedPages x = Due.full(0);
        long before = x.digest();
        x.go(80);
        due.is("saved", x.count(9), 2);
        x.undo();
        due.is("all 80 are undone", x.digest(), before);
    }

    private static void goReads() {
        due.sentence("Returns how many pages are read in them");
        PlannedPages x = Due.planned(1, "abaabb");
        due.is("each a read", x.go(3), 3);
        due.is("hits only", x.go(1), 0);
        due.is("a read and a hit, but not those before", x.go(2), 1);
    }

    // ---- promise 7

    private static void pinPages() {
        due.sentence("Throws IllegalArgumentException if page is out of range (pin)");
        for (int page = 0; page <= 7; page++) {
            PlannedPages x = new PlannedPages();
            due.is("pin " + page, x.pin(page), 1);
            due.is("it is pinned", x.page(page, 2), 1);
        }
        for (int page : new int[] {-1, 8, Integer.MIN_VALUE, Integer.MAX_VALUE}) {
            due.refuses("pin " + page, PlannedPages::new, Due.ARGUMENT, x -> x.pin(page));
        }
    }

    private static void pinOrLetLoose() {
        due.sentence("Pins a page, or lets it loose, if it is pinned");
        PlannedPages x = new PlannedPages();
        due.is("pins it", x.pin(4), 1);
        due.is("lets it loose", x.pin(4), 0);
        due.is("it is loose", x.page(4, 2), 0);
        due.is("pins it again", x.pin(4), 1);
        due.is("another one, too", x.pin(5), 2);
        due.is("at the limit one is let loose", x.pin(4), 1);
        due.is("a third page then", x.pin(0), 2);
    }

    private static void pinLimit() {
        due.sentence("Throws IllegalStateException if it is not pinned, and as many as there are frames, less 1, are");
        due.refuses("one frame, none pinned", () -> Due.planned(1, "a"), Due.STATE, x -> x.pin(0));
        for (int frames = 2; frames <= 6; frames++) {
            int most = frames - 1;
            due.is("the last that can be", pinnedBut(most, 1).pin(7), most);
            due.is("a pinned one at the limit", pinnedBut(most, 0).pin(0), most - 1);
            due.refuses("one too many", () -> pinnedBut(most, 0), Due.STATE, x -> x.pin(7));
            due.refuses("one too many that is in a frame", () -> {
                PlannedPages x = pinnedBut(most, 0);
                Due.extend(x, "h");
                x.go(1);
                return x;
            }, Due.STATE, x -> x.pin(7));
        }
        PlannedPages more = pinnedBut(2, 0);
        more.frames(4);
        due.is("with one frame more", more.pin(7), 3);
    }

    /** One frame more than the most pinned pages, and but for so many the lowest pages pinned. */
    private static PlannedPages pinnedBut(int most, int loose) {
        PlannedPages x = new PlannedPages();
        x.frames(most + 1);
        for (int page = 0; page < most - loose; page++) {
            x.pin(page);
        }
        return x;
    }

    // ---- promise 8

    private static void framesRange() {
        due.sentence("Throws IllegalArgumentException if frames is out of range");
        for (int frames = 1; frames <= 6; frames++) {
            PlannedPages x = new PlannedPages();
            due.is("victims", x.frames(frames), 0);
            due.is("frames", x.count(2), frames);
        }
        for (int frames : new int[] {0, -1, 7, Integer.MIN_VALUE, Integer.MAX_VALUE}) {
            due.refuses("frames " + frames, Due::busy, Due.ARGUMENT, x -> x.frames(frames));
            due.refuses("frames " + frames + ", new", PlannedPages::new, Due.ARGUMENT, x -> x.frames(frames));
        }
    }

    private static void framesPinned() {
        due.sentence("Throws IllegalStateException if more pages are pinned than frames, less 1");
        for (int pins = 1; pins <= 5; pins++) {
            int pinned = pins;
            due.refuses("as many frames as pinned pages", () -> sixFrames(pinned), Due.STATE, x -> x.frames(pinned));
            due.refuses("one frame", () -> sixFrames(pinned), Due.STATE, x -> x.frames(1));
            PlannedPages x = sixFrames(pinned);
            due.is("one more than pinned pages", x.frames(pinned + 1), 5 - pinned);
            due.is("frames", x.count(2), pinned + 1);
            due.is("all pinned pages stay", x.count(4), pinned);
            due.is("and in their frames", x.frame(pinned - 1), pinned - 1);
        }
        due.is("none pinned, one frame", sixFrames(0).frames(1), 5);
        PlannedPages none = pinnedBut(2, 0);
        due.refuses("pinned pages that are in no frame", () -> pinnedBut(2, 0), Due.STATE, x -> x.frames(2));
        due.is("as many frames as now", none.frames(3), 0);
    }

    /** Six frames with the pages a to f, the lowest so many of them pinned, none asked for again. */
    private static PlannedPages sixFrames(int pinned) {
        PlannedPages x = Due.planned(6, "abcdef");
        x.go(6);
        for (int page = 0; page < pinned; page++) {
            x.pin(page);
        }
        return x;
    }

    private static void framesVictims() {
        due.sentence("as long as more pages are in frames than there will be frames, a victim goes");
        for (int in = 0; in <= 6; in++) {
            for (int frames = 1; frames <= 6; frames++) {
                PlannedPages x = Due.planned(6, "abcdef");
                if (in > 0) {
                    x.go(in);
                }
                due.is("victims of " + in + " in " + frames, x.frames(frames), Math.max(0, in - frames));
                due.is("pages left of " + in + " in " + frames, x.count(3), Math.min(in, frames));
            }
        }
    }

    private static void framesByAllAsksToCome() {
        due.sentence("(as told, by all asks to come)");
        PlannedPages next = Due.planned("abcab");
        next.go(3);
        next.frames(1);
        due.same("the next ask counts, too", Due.frames(next), "a");
        PlannedPages last = Due.planned("abcba");
        last.go(3);
        last.frames(1);
        due.same("b comes first", Due.frames(last), "b");
        PlannedPages done = Due.planned("cbaaa");
        done.go(5);
        done.frames(2);
        due.same("none to come: the lowest goes", Due.frames(done), "cb");
        PlannedPages pinned = Due.planned("abcbc");
        pinned.pin(0);
        pinned.go(3);
        due.is("one goes", pinned.frames(2), 1);
        due.same("a pinned one does not", Due.frames(pinned), "a!b");
    }

    private static void framesWrittenBack() {
        due.sentence("and is written back, if it is changed");
        PlannedPages x = Due.planned("AbCac");
        x.go(3);
        due.is("b goes", x.frames(2), 1);
        due.is("a clean one is not", x.count(7), 0);
        due.is("C goes", x.frames(1), 1);
        due.is("a changed one is", x.page(2, 6), 1);
        due.is("in all", x.count(7), 1);
        due.same("A stays changed", Due.frames(x), "A");
        PlannedPages more = Due.planned("AB");
        more.go(2);
        more.frames(6);
        more.frames(3);
        due.is("without a victim none is written back", more.count(7), 0);
        due.same("frames", Due.frames(more), "AB.");
    }

    private static void framesMoveDown() {
        due.sentence("then the pages that are left move down, in the order of their frames");
        PlannedPages x = Due.planned(6, "fedcbaace");
        x.go(6);
        due.is("two of b, d, f go", x.frames(4), 2);
        due.same("b and d went first", Due.frames(x), "feca");
        due.is("f goes", x.frames(3), 1);
        due.same("so that no empty frame is below one with a page", Due.frames(x), "eca");
        due.same("frames of the pages", Due.pageRow(x, 0), "2 -1 1 -1 0 -1 -1 -1");
        x.frames(6);
        due.same("more frames move nothing", Due.frames(x), "eca...");
        PlannedPages last = Due.planned("abcab");
        last.go(3);
        last.pin(2);
        last.frames(2);
        due.same("the last frame's page", Due.frames(last), "ac!");
    }

    // ---- promise 9

    private static void flushAllChanged() {
        due.sentence("Writes all changed pages in frames back: they are clean then");
        due.is("none in frames", new PlannedPages().flush(), 0);
        for (int changed = 0; changed <= 6; changed++) {
            PlannedPages x = Due.planned(6, "ABCDEF".substring(0, changed) + "abcdef".substring(changed));
            x.go(6);
            due.is("changed pages", x.count(8), changed);
            due.is("returns how many", x.flush(), changed);
            due.is("written back", x.count(7), changed);
            due.is("they are clean", x.count(8), 0);
            due.same("and in their frames", Due.frames(x), "abcdef");
            due.is("once more", x.flush(), 0);
            due.is("written back still", x.count(7), changed);
        }
        PlannedPages gone = Due.planned(1, "AB");
        gone.go(2);
        due.is("one that went was written back by the ask", gone.flush(), 1);
        due.same("each once", Due.pageRow(gone, 6), "1 1 0 0 0 0 0 0");
    }

    // ---- promises 10 to 13

    private static void appendCodes() {
        due.sentence("Throws IllegalArgumentException if code is not 33 to 126");
        for (int code = 33; code <= 126; code++) {
            due.is("append " + code, new PlannedPages().append(code), 1);
        }
        int[] bad = {32, 127, 0, -1, -33, 128, 255, 256 + 97, 65536 + 97, 97 - 65536, Integer.MIN_VALUE, Integer.MAX_VALUE};
        for (int code : bad) {
            due.refuses("append " + code, () -> Due.typed("ab"), Due.ARGUMENT, x -> x.append(code));
            due.refuses("append " + code + " to an empty buffer", PlannedPages::new, Due.ARGUMENT, x -> x.append(code));
        }
    }

    private static void appendLength() {
        due.sentence("Throws IllegalStateException if the buffer has 40 characters");
        PlannedPages x = new PlannedPages();
        for (int length = 1; length <= 40; length++) {
            due.is("returns the new length", x.append('a' + length % 8), length);
        }
        due.same("a 41st", Due.answer(() -> x.append('a')), "IllegalStateException");
        due.is("the first 40 are as they were", x.extend(), 40);
        due.same("their pages", Due.plan(x), "|" + "bcdefgha".repeat(5));
        for (int code : new int[] {33, 126, 'a'}) {
            due.refuses("a 41st, " + code, () -> Due.typed("a9".repeat(20)), Due.STATE, y -> y.append(code));
        }
        PlannedPages cleared = Due.typed("a".repeat(40));
        cleared.clearBuffer();
        due.is("behind clearBuffer", cleared.append('a'), 1);
    }

    private static void clearBuffer() {
        due.sentence("Clears the buffer. Returns the length that it had");
        for (int length : new int[] {0, 1, 39, 40}) {
            PlannedPages x = Due.typed("a".repeat(length));
            due.is("length", x.clearBuffer(), length);
            due.is("length then", x.clearBuffer(), 0);
            due.is("as a new object", x.digest(), new PlannedPages().digest());
        }
        PlannedPages shorter = Due.typed("ab9");
        shorter.clearBuffer();
        Due.type(shorter, "a");
        due.is("what was behind a shorter text is gone", shorter.extend(), 1);
        PlannedPages plan = Due.planned("ab");
        Due.type(plan, "c");
        plan.clearBuffer();
        due.same("the plan stays", Due.plan(plan), "|ab");
    }

    private static void firstErrorLength() {
        due.sentence("the length of the buffer if there is none");
        due.is("empty", new PlannedPages().firstError(), 0);
        due.is("one letter", Due.typed("a").firstError(), 1);
        due.is("one letter and a digit", Due.typed("a2").firstError(), 2);
        due.is("40 letters", Due.typed("h".repeat(40)).firstError(), 40);
        due.is("the 40th is the error", Due.typed("h".repeat(39) + "i").firstError(), 39);
        due.is("of two errors the first", Due.typed("ab!c?").firstError(), 2);
        due.is("the first is the error", Due.typed("5a").firstError(), 0);
        PlannedPages x = Due.typed("a1");
        long before = x.digest();
        x.firstError();
        due.is("the buffer stays", x.digest(), before);
    }

    private static void undoWithNone() {
        due.sentence("Throws IllegalStateException if there is none");
        due.refuses("a new object", PlannedPages::new, Due.STATE, PlannedPages::undo);
        due.refuses("all undone", () -> {
            PlannedPages x = Due.planned("ab");
            x.undo();
            return x;
        }, Due.STATE, PlannedPages::undo);
        PlannedPages one = Due.planned("ab");
        due.is("returns how many saved states are left", one.undo(), 0);
        PlannedPages six = Due.busy();
        due.is("six", six.count(9), 6);
        due.is("returns five", six.undo(), 5);
    }
}
