import java.math.BigInteger;

/** Promises 14 to 25: for each sentence that names a boundary a test of its own, just inside it and just outside. */
public final class LooksEdgesTest {
    private static final Due due = new Due();

    public static void main(String[] args) {
        askPlaces();
        askWhat();
        askToCome();
        askWithoutAVictim();
        pageArguments();
        pageFrame();
        pageChanged();
        pagePinned();
        pageNextUse();
        pageLatestAsk();
        pageRead();
        pageWrittenBack();
        pageToCome();
        frameNumbers();
        countWhat();
        countLeastAndMost();
        victimWithAnEmptyFrame();
        victimWithNoneToCome();
        victimButTheNextOne();
        byRuleArguments();
        byRuleReads();
        byRuleWrittenBack();
        byRuleFirstRead();
        fewestFromNow();
        framesForReads();
        framesForFromNow();
        framesForNone();
        ifDroppedPlaces();
        ifDroppedReads();
        bestPinOfThoseNotPinned();
        bestPinOfSeveral();
        bestPinNone();
        hitShare();
        digestStart();
        digestOverflow();
        digestEachValue();
        digestFramesFor();
        digestNextAsk();
        digestBuffer();
        looksChangeNothing();
        due.end("LooksEdgesTest");
    }

    // ---- promise 14

    private static void askPlaces() {
        due.sentence("Throws IndexOutOfBoundsException if there is no such ask");
        PlannedPages x = Due.full(40);
        due.is("the first", x.ask(0, 0), 0);
        due.is("the last", x.ask(79, 0), 1);
        for (int place : new int[] {-1, 80, Integer.MIN_VALUE, Integer.MAX_VALUE}) {
            due.refuses("ask " + place, () -> Due.full(40), Due.PLACE, y -> y.ask(place, 0));
        }
        due.refuses("an empty plan", PlannedPages::new, Due.PLACE, y -> y.ask(0, 0));
        due.refuses("one behind the last", () -> Due.planned("ab"), Due.PLACE, y -> y.ask(2, 0));
        due.refuses("one that was dropped", () -> {
            PlannedPages y = Due.planned("ab");
            y.drop(0);
            return y;
        }, Due.PLACE, y -> y.ask(1, 0));
    }

    private static void askWhat() {
        due.sentence("Throws IllegalArgumentException if what is not 0 to 3");
        PlannedPages x = Due.planned(1, "aB");
        x.go(2);
        int[] properties = {1, 1, 2, 0};
        for (int what = 0; what <= 3; what++) {
            due.is("property " + what, x.ask(1, what), properties[what]);
        }
        for (int what : new int[] {-1, 4, Integer.MIN_VALUE, Integer.MAX_VALUE}) {
            due.refuses("what " + what + " of a done one", Due::busy, Due.ARGUMENT, y -> y.ask(0, what));
            due.refuses("what " + what + " of one to come", Due::busy, Due.ARGUMENT, y -> y.ask(14, what));
        }
    }

    private static void askToCome() {
        due.sentence("NONE for 2 if it is to come");
        for (int done = 1; done <= 4; done++) {
            PlannedPages x = Due.planned("abca");
            x.go(done);
            due.is("the last that is done", x.ask(done - 1, 2), done == 4 ? 0 : 1);
            due.is("the first to come", done == 4 ? -1 : x.ask(done, 2), -1);
        }
        PlannedPages undone = Due.planned("ab");
        undone.go(2);
        undone.undo();
        due.same("undone", Due.askRow(undone, 2), "-1 -1");
        undone.insert(0, 0, false);
        due.same("moved on", Due.askRow(undone, 2), "-1 -1 -1");
    }

    private static void askWithoutAVictim() {
        due.sentence("for 3 without a victim");
        PlannedPages x = Due.planned(1, "aaBcd");
        x.go(4);
        due.same("an empty frame, a hit, two victims, to come", Due.askRow(x, 3), "-1 -1 0 1 -1");
        x.undo();
        due.same("undone", Due.askRow(x, 3), "-1 -1 -1 -1 -1");
    }

    // ---- promise 15

    private static void pageArguments() {
        due.sentence("Throws IllegalArgumentException if an argument is out of range (page)");
        for (int page = 0; page <= 7; page++) {
            for (int what = 0; what <= 7; what++) {
                due.is("a new object's", new PlannedPages().page(page, what), what == 3 ? 80 : what % 4 == 0 ? -1 : 0);
            }
        }
        for (int bad : new int[] {-1, 8, Integer.MIN_VALUE, Integer.MAX_VALUE}) {
            for (int good = 0; good <= 7; good += 7) {
                int fine = good;
                due.refuses("page " + bad, Due::busy, Due.ARGUMENT, x -> x.page(bad, fine));
                due.refuses("what " + bad, Due::busy, Due.ARGUMENT, x -> x.page(fine, bad));
            }
            due.refuses("both", Due::busy, Due.ARGUMENT, x -> x.page(bad, bad));
        }
    }

    private static void pageFrame() {
        due.sentence("0: its frame, NONE without one");
        PlannedPages x = Due.planned(6, "hgfedcb");
        due.same("before", Due.pageRow(x, 0), "-1 -1 -1 -1 -1 -1 -1 -1");
        x.go(6);
        due.same("six frames", Due.pageRow(x, 0), "-1 -1 5 4 3 2 1 0");
        x.go(1);
        due.same("c went", Due.pageRow(x, 0), "-1 5 -1 4 3 2 1 0");
    }

    private static void pageChanged() {
        due.sentence("1: 1 if it is changed in a frame, otherwise 0");
        PlannedPages x = Due.planned(1, "ABc");
        due.is("to come", x.page(0, 1), 0);
        x.go(1);
        due.is("in a frame", x.page(0, 1), 1);
        x.go(1);
        due.is("in none", x.page(0, 1), 0);
        due.is("the other one", x.page(1, 1), 1);
        x.go(1);
        due.same("none", Due.pageRow(x, 1), "0 0 0 0 0 0 0 0");
    }

    private static void pagePinned() {
        due.sentence("2: 1 if it is pinned, otherwise 0");
        PlannedPages x = Due.planned(2, "ab");
        due.is("not pinned", x.page(7, 2), 0);
        x.pin(7);
        due.same("pinned, in no frame", Due.pageRow(x, 2), "0 0 0 0 0 0 0 1");
        x.pin(7);
        due.is("loose", x.page(7, 2), 0);
    }

    private static void pageNextUse() {
        due.sentence("3: its next use");
        PlannedPages x = Due.planned("abca");
        due.same("nothing done", Due.pageRow(x, 3), "0 1 2 80 80 80 80 80");
        x.go(1);
        due.same("one done", Due.pageRow(x, 3), "3 1 2 80 80 80 80 80");
        x.insert(1, 0, false);
        due.same("behind insert", Due.pageRow(x, 3), "1 2 3 80 80 80 80 80");
        x.drop(2);
        due.same("behind drop", Due.pageRow(x, 3), "1 80 2 80 80 80 80 80");
        x.exchange(1, 2);
        due.same("behind exchange", Due.pageRow(x, 3), "2 80 1 80 80 80 80 80");
        x.go(80);
        due.same("all done", Due.pageRow(x, 3), "80 80 80 80 80 80 80 80");
    }

    private static void pageLatestAsk() {
        due.sentence("4: the number of its latest ask that was done, NONE without one");
        PlannedPages x = Due.planned(1, "abab");
        due.same("nothing done", Due.pageRow(x, 4), "-1 -1 -1 -1 -1 -1 -1 -1");
        x.go(1);
        due.same("the first ask", Due.pageRow(x, 4), "0 -1 -1 -1 -1 -1 -1 -1");
        x.go(2);
        due.same("the latest, also of a page in no frame", Due.pageRow(x, 4), "2 1 -1 -1 -1 -1 -1 -1");
        x.undo();
        due.is("undone", x.page(1, 4), -1);
        due.is("the last of 80", Due.full(80).page(1, 4), 79);
        due.is("the last one to come", Due.full(79).page(1, 4), 17);
    }

    private static void pageRead() {
        due.sentence("5: how often it was read so far");
        PlannedPages most = Due.hitsBehindReads(0, 80);
        due.same("40 times each", Due.pageRow(most, 5), "40 40 0 0 0 0 0 0");
        due.same("one read and hits", Due.pageRow(Due.hitsBehindReads(79, 1), 5), "1 0 0 0 0 0 0 0");
        due.same("to come", Due.pageRow(Due.full(0), 5), "0 0 0 0 0 0 0 0");
    }

    private static void pageWrittenBack() {
        due.sentence("6: how often it was written back so far (by asks, frames() and flush())");
        PlannedPages x = Due.planned(2, "AbAcbA");
        x.go(1);
        due.is("by none", x.page(0, 6), 0);
        x.flush();
        due.is("by flush", x.page(0, 6), 1);
        x.go(3);
        due.same("a went", Due.askRow(x, 3), "-1 -1 -1 0 -1 -1");
        due.is("by an ask, too", x.page(0, 6), 2);
        x.go(2);
        due.same("frames", Due.frames(x), "cA");
        x.frames(1);
        due.same("a went again", Due.frames(x), "c");
        due.is("by frames, too", x.page(0, 6), 3);
        due.is("in all", x.count(7), 3);
        due.same("the others never", Due.pageRow(x, 6), "3 0 0 0 0 0 0 0");
    }

    private static void pageToCome() {
        due.sentence("7: its asks to come");
        PlannedPages x = Due.planned("a9a9a9a9a9a9a9a9a8");
        due.is("80", x.page(0, 7), 80);
        x.go(79);
        due.is("1", x.page(0, 7), 1);
        x.go(1);
        due.is("0", x.page(0, 7), 0);
        PlannedPages y = Due.planned("abA");
        y.drop(2);
        due.same("behind drop", Due.pageRow(y, 7), "1 1 0 0 0 0 0 0");
    }

    // ---- promises 16 and 17

    private static void frameNumbers() {
        due.sentence("Throws IndexOutOfBoundsException if there is no such frame");
        for (int frames = 1; frames <= 6; frames++) {
            int count = frames;
            PlannedPages x = Due.planned(frames, "hgfedc");
            due.is("NONE if it is empty", x.frame(frames - 1), -1);
            x.go(frames);
            due.is("the first", x.frame(0), 7);
            due.is("the last", x.frame(frames - 1), 8 - frames);
            due.refuses("behind the last", () -> Due.planned(count, "a"), Due.PLACE, y -> y.frame(count));
            due.refuses("-1", () -> Due.planned(count, "a"), Due.PLACE, y -> y.frame(-1));
        }
        PlannedPages fewer = Due.planned(6, "abcdef");
        fewer.go(6);
        fewer.frames(5);
        due.same("a frame that is no more", Due.answer(() -> fewer.frame(5)), "IndexOutOfBoundsException");
    }

    private static void countWhat() {
        due.sentence("Throws IllegalArgumentException if what is not 0 to 9");
        due.same("0 to 9", Due.countRow(Due.busy()), "15 7 4 4 1 2 5 2 1 6");
        for (int what : new int[] {-1, 10, Integer.MIN_VALUE, Integer.MAX_VALUE}) {
            due.refuses("count " + what, Due::busy, Due.ARGUMENT, x -> x.count(what));
            due.refuses("count " + what + ", new", PlannedPages::new, Due.ARGUMENT, x -> x.count(what));
        }
    }

    private static void countLeastAndMost() {
        due.sentence("Returns a number");
        due.same("a new object", Due.countRow(new PlannedPages()), "0 0 3 0 0 0 0 0 0 0");
        due.same("80 asks to come", Due.countRow(Due.full(0)), "80 0 3 0 0 0 0 0 0 1");
        due.same("80 reads", Due.countRow(Due.hitsBehindReads(0, 80)), "80 80 1 1 0 0 80 0 0 4");
        due.same("79 hits", Due.countRow(Due.hitsBehindReads(79, 1)), "80 80 1 1 0 79 1 0 0 4");
        PlannedPages x = Due.planned(6, "ABCDEFGH");
        for (int page = 0; page < 5; page++) {
            x.pin(page);
        }
        x.go(80);
        due.same("six changed pages, five pinned", Due.countRow(x), "8 8 6 6 5 0 8 2 6 6");
        x.flush();
        due.same("written back", Due.countRow(x), "8 8 6 6 5 0 8 8 0 6");
    }

    // ---- promise 18

    private static void victimWithAnEmptyFrame() {
        due.sentence("NONE if a frame is empty");
        for (int frames = 1; frames <= 6; frames++) {
            PlannedPages x = Due.planned(frames, "abcdefgh");
            for (int done = 0; done < frames; done++) {
                due.is("victim with " + (frames - done) + " empty", x.victim(), -1);
                x.go(1);
            }
            due.is("victim with none empty", x.victim(), 0);
        }
        PlannedPages more = Due.planned("abcdefgh");
        more.go(3);
        more.frames(4);
        due.is("a new frame", more.victim(), -1);
    }

    private static void victimWithNoneToCome() {
        due.sentence("or no ask is to come");
        PlannedPages x = Due.planned("abca");
        x.go(3);
        due.is("one is to come", x.victim(), 0);
        x.go(1);
        due.is("none is to come", x.victim(), -1);
        due.is("none of 80", Due.full(80).victim(), -1);
        due.is("one of 80", Due.full(79).victim(), 0);
        due.is("an empty plan", new PlannedPages().victim(), -1);
    }

    private static void victimButTheNextOne() {
        due.sentence("Returns the victim, by all asks to come but the next one");
        PlannedPages x = Due.planned("abcabc");
        x.go(3);
        due.is("a, that the next one alone is for", x.victim(), 0);
        PlannedPages y = Due.planned("abcbca");
        y.go(3);
        due.is("by the others b is lowest of those without a use, not a", y.victim(), 1);
        y.pin(1);
        due.is("of those that are not pinned", y.victim(), 0);
        PlannedPages z = Due.planned("cbacbabca");
        z.go(3);
        due.is("a at 5, b at 4, c at 7", z.victim(), 2);
        due.is("as one would that is put in before", inserted(z, 3), 3);
    }

    /** The next use of d, once it is the next ask. */
    private static int inserted(PlannedPages x, int page) {
        x.insert(x.count(1), page, false);
        return x.page(page, 3);
    }

    // ---- promise 19

    private static void byRuleArguments() {
        due.sentence("Throws IllegalArgumentException if an argument is out of range (byRule)");
        for (int rule = 0; rule <= 2; rule++) {
            int fine = rule;
            for (int what = 0; what <= 2; what++) {
                due.is("a new object's", new PlannedPages().byRule(rule, what), what == 2 ? -1 : 0);
            }
            for (int bad : new int[] {-1, 3, Integer.MIN_VALUE, Integer.MAX_VALUE}) {
                due.refuses("rule " + bad, Due::busy, Due.ARGUMENT, x -> x.byRule(bad, fine));
                due.refuses("what " + bad, Due::busy, Due.ARGUMENT, x -> x.byRule(fine, bad));
                due.refuses("what " + bad + ", empty plan", PlannedPages::new, Due.ARGUMENT, x -> x.byRule(fine, bad));
                due.refuses("both " + bad, Due::busy, Due.ARGUMENT, x -> x.byRule(bad, bad));
            }
        }
    }

    private static void byRuleReads() {
        due.sentence("0: reads");
        for (int rule = 0; rule <= 2; rule++) {
            due.is("80 hits but one", Due.planned("a9a9a9a9a9a9a9a9a8").byRule(rule, 0), 1);
            PlannedPages most = Due.hitsBehindReads(0, 80);
            due.is("none to come", most.byRule(rule, 0), 0);
            most.undo();
            due.is("80 reads in one frame", most.byRule(rule, 0), 80);
            due.is("full plan", Due.full(0).byRule(rule, 0), rule == 0 ? 8 : 10);
        }
    }

    private static void byRuleWrittenBack() {
        due.sentence("1: pages written back");
        for (int rule = 0; rule <= 2; rule++) {
            PlannedPages x = Due.planned(1, "AbAbC");
            due.is("by victims that are changed, not at the end", x.byRule(rule, 1), 2);
            x.go(1);
            due.is("one that is changed now", x.byRule(rule, 1), 2);
            x.flush();
            due.is("it is clean now", x.byRule(rule, 1), 1);
            x.go(4);
            due.is("not those so far", x.byRule(rule, 1), 0);
            due.is("none written back", Due.full(0).byRule(rule, 1), 0);
        }
        PlannedPages rules = Due.planned("Abcadab");
        rules.go(4);
        due.is("a stays by rule 1", rules.byRule(1, 1), 0);
        due.is("A goes by rule 2", rules.byRule(2, 1), 1);
    }

    private static void byRuleFirstRead() {
        due.sentence("2: the number of the first ask that would read, NONE without one");
        for (int rule = 0; rule <= 2; rule++) {
            PlannedPages x = Due.planned("abcabcd");
            due.is("the first", x.byRule(rule, 2), 0);
            x.go(1);
            due.is("the next", x.byRule(rule, 2), 1);
            x.go(2);
            due.is("the last", x.byRule(rule, 2), 6);
            x.go(3);
            due.is("the last is the next", x.byRule(rule, 2), 6);
            x.drop(6);
            due.is("none to come", x.byRule(rule, 2), -1);
            PlannedPages full = Due.planned("a9a9a9a9a9a9a9a9a7B");
            full.go(1);
            due.is("the last of 80, to write", full.byRule(rule, 2), 79);
            full.drop(79);
            due.is("hits only", full.byRule(rule, 2), -1);
        }
    }

    // ---- promises 20 and 21

    private static void fewestFromNow() {
        due.sentence("Returns the fewest reads, from now to the end of the plan");
        PlannedPages x = Due.planned("abcdabeABcde");
        int[] fewest = {7, 6, 5, 4, 3, 3, 3, 2, 2, 2, 1, 0, 0, 0};
        for (int done = 0; done <= 13; done++) {
            due.is("with " + Math.min(done, 12) + " done", x.fewestReads(), fewest[done]);
            x.go(1);
        }
        due.is("an empty plan", new PlannedPages().fewestReads(), 0);
        due.is("a full plan", Due.full(0).fewestReads(), 8);
        PlannedPages most = Due.hitsBehindReads(0, 80);
        most.undo();
        due.is("80", most.fewestReads(), 80);
    }

    private static void framesForReads() {
        due.sentence("Throws IllegalArgumentException if reads is below 0");
        due.is("0, empty plan", new PlannedPages().framesFor(0), 3);
        due.is("0, a plan of hits", planOfHits().framesFor(0), 3);
        due.is("the most", Due.full(0).framesFor(Integer.MAX_VALUE), 3);
        for (int reads : new int[] {-1, -80, Integer.MIN_VALUE}) {
            due.refuses("framesFor " + reads, PlannedPages::new, Due.ARGUMENT, x -> x.framesFor(reads));
            due.refuses("framesFor " + reads + ", busy", Due::busy, Due.ARGUMENT, x -> x.framesFor(reads));
        }
    }

    private static PlannedPages planOfHits() {
        PlannedPages x = Due.planned("aaaa");
        x.go(1);
        return x;
    }

    private static void framesForFromNow() {
        due.sentence("the least number of frames, from that of now up to 6");
        // Reads of the plan with 1 to 6 frames.
        int[] reads = {16, 14, 13, 12, 11, 10};
        for (int now = 1; now <= 6; now++) {
            PlannedPages x = Due.planned(now, "abcdefghabcdefgh");
            for (int frames = 1; frames <= 6; frames++) {
                int least = Math.max(now, frames);
                due.is("reads that " + frames + " make, " + now + " now", x.framesFor(reads[frames - 1]), least);
                int oneLess = reads[frames - 1] - 1;
                int more = frames;
                while (more <= 6 && reads[more - 1] > oneLess) {
                    more++;
                }
                due.is("one read less, " + now + " now", x.framesFor(oneLess), more > 6 ? -1 : Math.max(now, more));
            }
        }
    }

    private static void framesForNone() {
        due.sentence("NONE if there is none");
        due.is("8 reads are enough for 8 pages", Due.planned("abcdefgh").framesFor(8), 3);
        due.is("7 are not", Due.planned("abcdefgh").framesFor(7), -1);
        due.is("0 are not", Due.planned(6, "a").framesFor(0), -1);
        due.is("1 is", Due.planned(6, "a").framesFor(1), 6);
    }

    // ---- promises 22 and 23

    private static void ifDroppedPlaces() {
        due.sentence("Throws IndexOutOfBoundsException if there is no such ask to come (ifDropped)");
        for (int done = 0; done <= 4; done++) {
            int first = done;
            if (done < 4) {
                due.is("the first to come", fourPages(done).ifDropped(done), 3 - done);
                due.is("the last", fourPages(done).ifDropped(3), 3 - done);
            }
            due.refuses("before the first to come", () -> fourPages(first), Due.PLACE, x -> x.ifDropped(first - 1));
            due.refuses("behind the last", () -> fourPages(first), Due.PLACE, x -> x.ifDropped(4));
        }
        due.refuses("an empty plan", PlannedPages::new, Due.PLACE, x -> x.ifDropped(0));
        due.is("the first of 80", Due.full(0).ifDropped(0), 8);
        due.is("the last of 80", Due.full(0).ifDropped(79), 8);
        due.refuses("80 of 80", () -> Due.full(0), Due.PLACE, x -> x.ifDropped(80));
    }

    private static PlannedPages fourPages(int done) {
        PlannedPages x = Due.planned("abcd");
        if (done > 0) {
            x.go(done);
        }
        return x;
    }

    private static void ifDroppedReads() {
        due.sentence("Returns how many reads the rule 0 would make then, to the end of the plan");
        PlannedPages x = Due.planned("abcdabcd");
        x.go(2);
        for (int place = 2; place < 8; place++) {
            PlannedPages dropped = Due.planned("abcdabcd");
            dropped.go(2);
            dropped.drop(place);
            due.is("as drop and byRule tell, " + place, x.ifDropped(place), dropped.byRule(0, 0));
        }
        PlannedPages one = Due.planned("a");
        due.is("the only one", one.ifDropped(0), 0);
        due.is("it is there still", one.count(0), 1);
    }

    private static void bestPinOfThoseNotPinned() {
        due.sentence("of the pages that are not pinned the one with which pinned, too, the rule 0 would make the fewest reads");
        PlannedPages x = new PlannedPages();
        x.frames(2);
        Due.extend(x, "abababcbcbcb");
        due.is("b", x.bestPin(), 1);
        // With two frames the pinned page leaves one to all others: h is asked for between them.
        due.is("h, the last page", Due.planned(2, "hahbhchdhehfhghah").bestPin(), 7);
        PlannedPages three = Due.planned(3, "hahbhchdhehfhghah");
        three.pin(7);
        due.is("a, that comes again, if h is pinned", three.bestPin(), 0);
        for (int pinned = 0; pinned <= 7; pinned++) {
            int best = -1;
            for (int page = 0; page <= 7; page++) {
                if (page != pinned && (best < 0 || readsPinned(pinned, page) < readsPinned(pinned, best))) {
                    best = page;
                }
            }
            PlannedPages y = Due.planned(3, "abcdefghabcdefgh");
            y.pin(pinned);
            due.is("with " + pinned + " pinned", y.bestPin(), best);
        }
    }

    private static int readsPinned(int one, int other) {
        PlannedPages x = Due.planned(3, "abcdefghabcdefgh");
        x.pin(one);
        x.pin(other);
        return x.byRule(0, 0);
    }

    private static void bestPinOfSeveral() {
        due.sentence("of several the lowest (bestPin)");
        due.is("an empty plan", new PlannedPages().bestPin(), 0);
        due.is("all are as good", Due.planned("abc").bestPin(), 0);
        // With a pinned b and c have one frame; with b, c or a page that is not asked for there are 3 reads.
        due.is("b, not a", Due.planned(2, "abcbcbc").bestPin(), 1);
    }

    private static void bestPinNone() {
        due.sentence("NONE if no more can be pinned");
        due.is("one frame", Due.planned(1, "ab").bestPin(), -1);
        for (int frames = 2; frames <= 6; frames++) {
            PlannedPages x = Due.planned(frames, "abcdefgh");
            for (int page = 0; page < frames - 1; page++) {
                due.is("with " + page + " pinned", x.bestPin() == -1 ? 1 : 0, 0);
                x.pin(page);
            }
            due.is("with " + (frames - 1) + " pinned", x.bestPin(), -1);
            x.pin(0);
            due.is("one let loose", x.bestPin() == -1 ? 1 : 0, 0);
        }
    }

    // ---- promises 24 and 25

    private static void hitShare() {
        due.sentence("Returns the hits so far, as a double, divided by the asks that are done; 1.0 without these");
        due.is("an empty plan", new PlannedPages().hitShare(), 1.0);
        due.is("80 to come", Due.full(0).hitShare(), 1.0);
        for (int reads = 1; reads <= 80; reads++) {
            due.is("reads only", Due.hitsBehindReads(0, reads).hitShare(), 0.0);
            int hits = 80 - reads;
            due.is(hits + " of 80", Due.hitsBehindReads(hits, reads).hitShare(), hits / 80.0);
        }
        due.is("79 of 80", Due.hitsBehindReads(79, 1).hitShare(), 0.9875);
        PlannedPages part = Due.planned("aaab");
        double[] shares = {1.0, 0.0, 1.0 / 2, 2.0 / 3, 2.0 / 4, 2.0 / 4};
        for (int done = 0; done <= 5; done++) {
            due.is("the asks to come do not count, done " + done, part.hitShare(), shares[done]);
            part.go(1);
        }
        PlannedPages x = Due.full(80);
        x.undo();
        due.is("undone", x.hitShare(), 1.0);
    }

    /** The hash of promise 25, with no bound on its numbers but at the end. */
    private static long hash(long... values) {
        BigInteger hash = BigInteger.valueOf(3001);
        for (long value : values) {
            hash = hash.multiply(BigInteger.valueOf(31)).add(BigInteger.valueOf(value));
        }
        return hash.longValue();
    }

    /** What the digest of a new object with so many frames takes in, but for its buffer. */
    private static long[] valuesOfNew(int frames, int saved, long... buffer) {
        long[] values = new long[10 + 64 + frames + 1 + 9 + 1 + 2 + 1 + 1 + buffer.length];
        values[2] = frames;
        values[9] = saved;
        int at = 10;
        for (int page = 0; page < 8; page++) {
            values[at] = -1;
            values[at + 3] = 80;
            values[at + 4] = -1;
            at += 8;
        }
        for (int i = 0; i <= frames; i++) {
            values[at++] = -1;
        }
        for (int rule = 0; rule <= 2; rule++) {
            values[at + 2] = -1;
            at += 3;
        }
        at++;
        values[at++] = frames;
        values[at++] = frames;
        values[at++] = frames == 1 ? -1 : 0;
        values[at++] = Double.doubleToLongBits(1.0);
        System.arraycopy(buffer, 0, values, at, buffer.length);
        return values;
    }

    private static void digestStart() {
        due.sentence("The hash starts at 3001");
        due.is("a new object", new PlannedPages().digest(), hash(valuesOfNew(3, 0, 0)));
    }

    private static void digestOverflow() {
        due.sentence("the hash becomes 31 * hash + v, in long arithmetic with overflow");
        int above = 0;
        int below = 0;
        for (int frames = 1; frames <= 6; frames++) {
            PlannedPages x = new PlannedPages();
            x.frames(frames);
            long digest = x.digest();
            due.is("empty, " + frames + " frames", digest, hash(valuesOfNew(frames, 1, 0)));
            above += digest > 0 ? 1 : 0;
            below += digest < 0 ? 1 : 0;
        }
        due.is("it went over into both signs", above > 0 && below > 0 ? 1 : 0, 1);
    }

    private static void digestEachValue() {
        due.sentence("The values are");
        due.is("busy", Due.busy().digest(), Due.digestOf(Due.busy(), "aB3z"));
        for (int done : new int[] {0, 1, 40, 79, 80}) {
            due.is("full, done " + done, Due.full(done).digest(), Due.digestOf(Due.full(done), ""));
        }
        due.is("reads only", Due.hitsBehindReads(0, 3).digest(), Due.digestOf(Due.hitsBehindReads(0, 3), ""));
        due.is("a share of 1/3", Due.hitsBehindReads(1, 2).digest(), Due.digestOf(Due.hitsBehindReads(1, 2), ""));
    }

    private static void digestFramesFor() {
        due.sentence("framesFor 5 and 10");
        // One read more or less asks for another number of frames.
        due.same("around 5", framesForRow(Due.planned("abcdabeABcde"), 4, 6), "-1 5 4");
        due.is("5", Due.planned("abcdabeABcde").digest(), Due.digestOf(Due.planned("abcdabeABcde"), ""));
        due.same("around 10", framesForRow(Due.planned("abcdefghabcdefgh"), 9, 11), "-1 6 5");
        due.is("10", Due.planned("abcdefghabcdefgh").digest(), Due.digestOf(Due.planned("abcdefghabcdefgh"), ""));
    }

    private static String framesForRow(PlannedPages x, int from, int to) {
        StringBuilder text = new StringBuilder();
        for (int reads = from; reads <= to; reads++) {
            text.append(reads == from ? "" : " ").append(x.framesFor(reads));
        }
        return text.toString();
    }

    private static void digestNextAsk() {
        due.sentence("ifDropped of the next ask, if one is to come");
        PlannedPages x = Due.planned(6, "ab");
        for (int done = 0; done <= 2; done++) {
            due.is("done " + done, x.digest(), Due.digestOf(x, ""));
            x.go(1);
        }
    }

    private static void digestBuffer() {
        due.sentence("the length of the buffer and each of its character codes");
        PlannedPages x = new PlannedPages();
        due.is("empty", x.digest(), hash(valuesOfNew(3, 0, 0)));
        x.append(33);
        due.is("the lowest code", x.digest(), hash(valuesOfNew(3, 0, 1, 33)));
        x.append(126);
        due.is("the highest code", x.digest(), hash(valuesOfNew(3, 0, 2, 33, 126)));
        x.clearBuffer();
        long[] full = new long[41];
        full[0] = 40;
        for (int i = 0; i < 40; i++) {
            full[i + 1] = 40 + i;
            x.append(40 + i);
        }
        due.is("40 codes", x.digest(), hash(valuesOfNew(3, 0, full)));
        x.clearBuffer();
        due.is("cleared", x.digest(), hash(valuesOfNew(3, 0, 0)));
    }

    private static void looksChangeNothing() {
        due.sentence("looks; nothing is changed / what would be; nothing is changed");
        PlannedPages x = Due.busy();
        for (int i = 0; i <= 9; i++) {
            int number = i;
            x.count(i);
            Due.answer(() -> x.ask(number, number % 4));
            Due.answer(() -> x.page(number, number));
            Due.answer(() -> x.frame(number));
            Due.answer(() -> x.byRule(number % 3, number / 3));
            Due.answer(() -> x.framesFor(number));
            Due.answer(() -> x.ifDropped(number + 5));
        }
        x.victim();
        x.fewestReads();
        x.bestPin();
        x.hitShare();
        x.digest();
        x.firstError();
        due.same("as if they had not been called", Due.story(x), Due.story(Due.busy()));
    }
}
