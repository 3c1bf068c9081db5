/** "Terms" to "Input text": for each sentence ahead of the promises that names a boundary, a test of its own. */
public final class TermsEdgesTest {
    private static final Due due = new Due();

    public static void main(String[] args) {
        eightPages();
        eightyAsks();
        doneFromTheFirst();
        nextUse();
        oneToSixFrames();
        noPageInTwoFrames();
        hit();
        lowestEmptyFrame();
        greatestNextUse();
        asksBehindThisOne();
        lowestOfSeveral();
        notPinned();
        changedVictim();
        cleanWhenRead();
        pinnedInNoFrame();
        mostPinned();
        brought();
        trialsOnACopy();
        pinsOfNow();
        ruleOne();
        ruleTwo();
        fewestOfAnyChoice();
        fortyCharacters();
        oneOrMoreLetters();
        digits();
        syntaxErrors();
        textsOfAnyLength();
        due.end("TermsEdgesTest");
    }

    private static void eightPages() {
        due.sentence("There are 8 pages, numbered from 0, and told by the letters \"a\" to \"h\" in texts");
        for (int page = 0; page < 8; page++) {
            PlannedPages x = Due.planned("" + (char) ('a' + page) + (char) ('A' + page));
            due.is("page of the small letter", x.ask(0, 0), page);
            due.is("page of the capital", x.ask(1, 0), page);
            due.is("asks to come of the page", x.page(page, 7), 2);
        }
        for (String letter : new String[] {"`", "i", "@", "I"}) {
            due.refuses("extend by " + letter, () -> Due.typed(letter), Due.ARGUMENT, PlannedPages::extend);
        }
        for (int page : new int[] {-1, 8}) {
            due.refuses("insert of page " + page, Due::busy, Due.ARGUMENT, x -> x.insert(15, page, true));
            due.refuses("pin of page " + page, Due::busy, Due.ARGUMENT, x -> x.pin(page));
            due.refuses("page " + page, Due::busy, Due.ARGUMENT, x -> x.page(page, 0));
        }
    }

    private static void eightyAsks() {
        due.sentence("The plan is a row of at most 80 asks, numbered from 0");
        PlannedPages x = Due.planned("a9b9c9d9e9f9g9h9a7");
        due.is("79 asks", x.count(0), 79);
        due.is("the 80th by insert", x.insert(79, 1, true), 80);
        due.is("the last one's number is 79", x.ask(79, 0), 1);
        due.is("the first one's number is 0", x.ask(0, 0), 0);
        due.is("the 80th by extend", Due.full(0).count(0), 80);
        for (int done : new int[] {0, 1, 79, 80}) {
            due.refuses("an 81st by insert, done " + done, () -> Due.full(done), Due.STATE, y -> y.insert(80, 0, false));
            due.refuses("an 81st by extend, done " + done, () -> {
                PlannedPages y = Due.full(done);
                Due.type(y, "c");
                return y;
            }, Due.STATE, PlannedPages::extend);
        }
    }

    private static void doneFromTheFirst() {
        due.sentence("Some of them are done, from the first one on; the others are to come");
        PlannedPages x = Due.planned("abAdb");
        for (int done = 0; done <= 5; done++) {
            due.is("asks that are done", x.count(1), done);
            for (int place = 0; place < 5; place++) {
                due.is("ask " + place + " is to come at " + done, x.ask(place, 2) == -1 ? 1 : 0, place < done ? 0 : 1);
            }
            x.go(1);
        }
    }

    private static void nextUse() {
        due.sentence("The next use of a page is the number of the first ask to come that is for it; 80 if there is none");
        PlannedPages x = Due.planned("a9a9a9a9a9a9a9a9a7b");
        due.is("the first ask", x.page(0, 3), 0);
        due.is("the last of 80", x.page(1, 3), 79);
        due.is("none", x.page(2, 3), 80);
        x.go(78);
        due.is("the first to come, not the first", x.page(0, 3), 78);
        x.go(1);
        due.is("done ones do not count", x.page(0, 3), 80);
        due.is("the last one is to come", x.page(1, 3), 79);
        x.go(1);
        due.is("the last one is done", x.page(1, 3), 80);
    }

    private static void oneToSixFrames() {
        due.sentence("There are 1 to 6 frames, at first 3, each empty or with a page");
        due.same("at first", Due.frames(new PlannedPages()), "...");
        for (int frames = 1; frames <= 6; frames++) {
            PlannedPages x = Due.planned(frames, "ab");
            due.same("empty", Due.frames(x), "......".substring(0, frames));
            x.go(1);
            due.same("with a page", Due.frames(x), "a.....".substring(0, frames));
        }
        due.refuses("no frame", Due::busy, Due.ARGUMENT, x -> x.frames(0));
        due.refuses("7 frames", Due::busy, Due.ARGUMENT, x -> x.frames(7));
    }

    private static void noPageInTwoFrames() {
        due.sentence("no page is in two frames");
        for (int frames = 1; frames <= 6; frames++) {
            PlannedPages x = Due.planned(frames, "aAbBaCcBdDaeEfagGbhHaA");
            for (int done = 1; done <= 22; done++) {
                x.go(1);
                String in = Due.frames(x).toLowerCase().replace(".", "");
                due.is("different pages in " + in, in.chars().distinct().count(), in.length());
            }
        }
    }

    private static void hit() {
        due.sentence("if its page is in a frame, it is a hit");
        PlannedPages x = Due.planned(6, "abcdefafA");
        x.pin(0);
        x.go(6);
        due.is("in the first frame, pinned", x.go(1), 0);
        due.is("in the last frame", x.go(1), 0);
        due.is("with an ask to write", x.go(1), 0);
        due.same("they brought", Due.askRow(x, 2), "1 1 1 1 1 1 0 0 0");
        due.is("hits", x.count(5), 3);
        PlannedPages empty = Due.planned("aa");
        empty.go(2);
        due.same("a hit leaves empty frames empty", Due.frames(empty), "a..");
        PlannedPages gone = Due.planned(1, "aba");
        gone.go(3);
        due.same("a page that went is no hit", Due.askRow(gone, 2), "1 2 2");
    }

    private static void lowestEmptyFrame() {
        due.sentence("Otherwise the page is read into the lowest empty frame");
        PlannedPages x = Due.planned(6, "hgfedcb");
        for (int done = 1; done <= 6; done++) {
            x.go(1);
            due.same("pages in frames", Due.frames(x), "hgfedc".substring(0, done) + "......".substring(done));
        }
        x.go(1);
        due.same("if there is none, into the frame of the victim", Due.frames(x), "hgfedb");
        PlannedPages more = Due.planned("abcde");
        more.go(3);
        more.frames(5);
        more.go(1);
        due.same("of two new frames the lower one", Due.frames(more), "abcd.");
        PlannedPages fewer = Due.planned(4, "abcdbcdae");
        fewer.go(4);
        fewer.frames(2);
        fewer.frames(4);
        due.same("behind fewer and more frames", Due.frames(fewer), "bc..");
        fewer.go(3);
        due.same("the lowest one then", Due.frames(fewer), "bcd.");
    }

    private static void greatestNextUse() {
        due.sentence("of the pages that are in frames and not pinned the one with the greatest next use");
        due.is("at 79, and at none", victimOfThird("abc9c9c9c9c9c9c9c9c5a"), 1);
        due.is("at none, and at 79", victimOfThird("abc9c9c9c9c9c9c9c9c5b"), 0);
        due.is("at 78, and at 79", victimOfThird("abc9c9c9c9c9c9c9c9c4ab"), 1);
        due.is("at 79, and at 78", victimOfThird("abc9c9c9c9c9c9c9c9c4ba"), 0);
        due.is("at 3, and at 4", victimOfThird("abcab"), 1);
        due.is("at 4, and at 3", victimOfThird("abcba"), 0);
    }

    /** Which page goes for the third ask with two frames. */
    private static int victimOfThird(String plan) {
        PlannedPages x = Due.planned(2, plan);
        x.go(3);
        return x.ask(2, 3);
    }

    private static void asksBehindThisOne() {
        due.sentence("(asks behind this one alone are looked at)");
        PlannedPages x = Due.planned(2, "bbbacb");
        x.go(5);
        due.is("a, that was asked for last, is asked for no more", x.ask(4, 3), 0);
        PlannedPages other = Due.planned(2, "aaabcb");
        other.go(5);
        due.is("a, though asked for often before", other.ask(4, 3), 0);
        PlannedPages last = Due.planned(2, "bac");
        last.go(3);
        due.is("behind the last one no page has a next use", last.ask(2, 3), 0);
    }

    private static void lowestOfSeveral() {
        due.sentence("of several the lowest");
        PlannedPages x = Due.planned("cbad");
        x.go(4);
        due.is("the lowest page, in the highest frame", x.ask(3, 3), 0);
        due.same("its frame", Due.frames(x), "cbd");
        PlannedPages pinned = Due.planned("cbad");
        pinned.pin(0);
        pinned.go(4);
        due.is("the lowest that is not pinned", pinned.ask(3, 3), 1);
        PlannedPages high = Due.planned(2, "hgf");
        high.go(3);
        due.is("of g and h", high.ask(2, 3), 6);
    }

    private static void notPinned() {
        due.sentence("and not pinned");
        PlannedPages x = Due.planned("abcdc");
        x.pin(0);
        x.pin(1);
        x.go(5);
        due.same("the only loose one goes, though it is the next", Due.askRow(x, 3), "-1 -1 -1 2 3");
        due.same("frames", Due.frames(x), "a!b!c");
        PlannedPages loose = Due.planned("abcd");
        loose.pin(0);
        loose.go(3);
        loose.pin(0);
        loose.go(1);
        due.is("let loose in time", loose.ask(3, 3), 0);
    }

    private static void changedVictim() {
        due.sentence("A victim that is changed is written back");
        PlannedPages changed = Due.planned(1, "Ab");
        changed.go(1);
        due.is("not yet", changed.count(7), 0);
        changed.go(1);
        due.is("written back", changed.page(0, 6), 1);
        due.is("in all", changed.count(7), 1);
        due.is("no longer changed", changed.page(0, 1), 0);
        PlannedPages clean = Due.planned(1, "aB");
        clean.go(2);
        due.is("a clean one is not", clean.count(7), 0);
        PlannedPages flushed = Due.planned(1, "Ab");
        flushed.go(1);
        flushed.flush();
        flushed.go(1);
        due.is("not once more behind flush", flushed.page(0, 6), 1);
    }

    private static void cleanWhenRead() {
        due.sentence("A page that is read is clean; an ask to write makes its page changed then");
        Object[][] cases = {{"a", 0}, {"A", 1}, {"aA", 1}, {"Aa", 1}, {"aa", 0}, {"Aba", 0}, {"abA", 1}, {"AbA", 1}};
        for (Object[] one : cases) {
            PlannedPages x = Due.planned(1, (String) one[0]);
            x.go(80);
            due.is("a is changed behind " + one[0], x.page(0, 1), (Integer) one[1]);
            due.is("changed pages behind " + one[0], x.count(8), (Integer) one[1]);
        }
    }

    private static void pinnedInNoFrame() {
        due.sentence("Pages can be pinned, also if they are in no frame");
        PlannedPages x = Due.planned(2, "abhab");
        due.is("pin h", x.pin(7), 1);
        due.is("h is pinned", x.page(7, 2), 1);
        due.is("h is in no frame", x.page(7, 0), -1);
        due.is("no page is in a frame", x.count(3), 0);
        x.go(5);
        due.same("once it is in, it stays", Due.frames(x), "bh!");
    }

    private static void mostPinned() {
        due.sentence("at most as many as there are frames, less 1");
        for (int most = 0; most <= 5; most++) {
            int pinned = most;
            PlannedPages x = allButOnePinned(pinned + 1);
            due.is("pinned in " + (pinned + 1) + " frames", x.count(4), pinned);
            due.refuses("one more", () -> allButOnePinned(pinned + 1), Due.STATE, y -> y.pin(7));
        }
    }

    /** So many frames, and the lowest pages pinned, as many as can be. */
    private static PlannedPages allButOnePinned(int frames) {
        PlannedPages x = Due.planned(frames, "abcdefgh");
        for (int page = 0; page < frames - 1; page++) {
            x.pin(page);
        }
        return x;
    }

    private static void brought() {
        due.sentence("0: a hit; 1: a read into an empty frame; 2: a read with a clean victim; 3: a read with a changed victim");
        PlannedPages x = Due.planned(2, "AabcbDC");
        x.go(7);
        due.same("brought", Due.askRow(x, 2), "1 0 1 3 0 2 0");
        due.same("victims", Due.askRow(x, 3), "-1 -1 -1 0 -1 1 -1");
        // That the read is for an ask to write makes no difference; what its victim was does.
        PlannedPages write = Due.planned(1, "aBCd");
        write.go(4);
        due.same("brought by asks to write", Due.askRow(write, 2), "1 2 3 3");
    }

    private static void trialsOnACopy() {
        due.sentence("Trials go on a copy, from now to the end of the plan");
        PlannedPages x = Due.busy();
        PlannedPages twin = Due.busy();
        for (int rule = 0; rule <= 2; rule++) {
            x.byRule(rule, 0);
        }
        x.fewestReads();
        x.framesFor(0);
        x.ifDropped(7);
        x.bestPin();
        due.same("as if they had not been", Due.story(x), Due.story(twin));
        PlannedPages y = Due.planned("abcd");
        due.is("from the first ask", y.byRule(0, 0), 4);
        y.go(3);
        due.is("from now", y.byRule(0, 0), 1);
        y.go(1);
        due.is("at the end", y.byRule(0, 0), 0);
    }

    private static void pinsOfNow() {
        due.sentence("with the pins of now");
        // To come are d, a, d: d takes the place of a (rules 1 and 2) or b, but never of a pinned page.
        int[][] reads = {{1, 2, 2}, {1, 1, 1}, {1, 2, 2}};
        for (int pin = -1; pin <= 1; pin++) {
            PlannedPages x = Due.planned("abcdad");
            x.go(3);
            if (pin >= 0) {
                x.pin(pin);
            }
            for (int rule = 0; rule <= 2; rule++) {
                due.is("reads by rule " + rule + " with " + pin + " pinned", x.byRule(rule, 0), reads[pin + 1][rule]);
            }
        }
        PlannedPages loose = Due.planned("abcdad");
        loose.pin(0);
        loose.go(3);
        loose.pin(0);
        due.is("the pin of before does not count", loose.byRule(1, 0), 2);
    }

    private static void ruleOne() {
        due.sentence("by the rule 1 the victim is the one that was asked for longest ago");
        due.is("a, that was hit at 3, stays", Due.planned("abcada").byRule(1, 0), 4);
        due.is("b went", Due.planned("abcadb").byRule(1, 0), 5);
        for (int done = 3; done <= 4; done++) {
            PlannedPages x = Due.planned("abcadb");
            x.go(done);
            due.is("the same with " + done + " done", x.byRule(1, 0), 2);
        }
        PlannedPages far = Due.planned("abcabcabcabcabcabcabcabcabcabcabcabca");
        Due.extend(far, "bcabcabcabcabcabcabcabcabcabcabcabcabcda");
        due.is("77 asks", far.count(0), 77);
        due.is("a went, asked for at 72", far.byRule(1, 0), 5);
    }

    private static void ruleTwo() {
        due.sentence("by the rule 2 the one that was read longest ago");
        due.is("a went, though it was hit at 3", Due.planned("abcada").byRule(2, 0), 5);
        due.is("b stays", Due.planned("abcadb").byRule(2, 0), 4);
        due.is("the latest ask that read it counts", Due.planned(2, "abcada").byRule(2, 0), 5);
        for (int done = 3; done <= 4; done++) {
            PlannedPages x = Due.planned("abcada");
            x.go(done);
            due.is("the same with " + done + " done", x.byRule(2, 0), 2);
        }
    }

    private static void fewestOfAnyChoice() {
        due.sentence("The fewest reads are the least number of reads that any choice of victims (not pinned ones) makes");
        for (int number = 0; number < 1 << 12; number++) {
            int[] plan = new int[6];
            StringBuilder text = new StringBuilder();
            for (int i = 0; i < 6; i++) {
                plan[i] = number >> 2 * i & 3;
                text.append((char) ('a' + plan[i]));
            }
            for (int pinned = 0; pinned <= 3; pinned += 3) {
                PlannedPages x = Due.planned(2, text.toString());
                if (pinned != 0) {
                    x.pin(pinned);
                }
                due.is("of " + text + " with " + pinned + " pinned", x.fewestReads(),
                        leastReads(plan, 0, 0, pinned == 0 ? 0 : 1 << pinned));
            }
        }
    }

    /** Tries each choice: two frames, sets of pages as bits. */
    private static int leastReads(int[] plan, int place, int in, int pinned) {
        if (place == plan.length) {
            return 0;
        }
        int page = 1 << plan[place];
        if ((in & page) != 0) {
            return leastReads(plan, place + 1, in, pinned);
        }
        if (Integer.bitCount(in) < 2) {
            return 1 + leastReads(plan, place + 1, in | page, pinned);
        }
        int least = Integer.MAX_VALUE;
        for (int out = 1; out < 256; out *= 2) {
            if ((in & ~pinned & out) != 0) {
                least = Math.min(least, 1 + leastReads(plan, place + 1, in & ~out | page, pinned));
            }
        }
        return least;
    }

    private static void fortyCharacters() {
        due.sentence("The buffer has at most 40 characters");
        String thirtyNine = "~".repeat(39);
        PlannedPages x = Due.typed(thirtyNine);
        due.is("the 40th", x.append('a'), 40);
        due.refuses("a 41st", () -> Due.typed(thirtyNine + "~"), Due.STATE, y -> y.append('a'));
        due.is("all 40 are kept", x.clearBuffer(), 40);
    }

    private static void oneOrMoreLetters() {
        due.sentence("Asks as a text are one or more letters");
        due.refuses("none", PlannedPages::new, Due.ARGUMENT, PlannedPages::extend);
        due.is("one", Due.planned("h").count(0), 1);
        due.same("one of each kind", Due.plan(Due.planned("abcdefghABCDEFGH")), "|abcdefghABCDEFGH");
        due.is("forty", Due.planned("g".repeat(40)).count(0), 40);
    }

    private static void digits() {
        due.sentence("behind a letter a digit, 2 to 9, tells that it stands so many times");
        for (int times = 2; times <= 9; times++) {
            PlannedPages x = Due.planned("aB" + times + "c");
            due.same("B" + times, Due.plan(x), "|a" + "B".repeat(times) + "c");
        }
        for (String bad : new String[] {"a0", "a1", "a:", "a/", "2", "a22", "a2a22", "2a"}) {
            due.refuses("extend by " + bad, () -> Due.typed(bad), Due.ARGUMENT, PlannedPages::extend);
        }
    }

    private static void syntaxErrors() {
        due.sentence("a character is a syntax error if no asks as a text, of any length, begin with the characters before it "
                + "and this character");
        String letters = "abcdefghABCDEFGH";
        for (int code = 33; code <= 126; code++) {
            char sign = (char) code;
            boolean letter = letters.indexOf(sign) >= 0;
            boolean digit = "23456789".indexOf(sign) >= 0;
            due.is("first: " + sign, Due.typed("" + sign).firstError(), letter ? 1 : 0);
            due.is("behind a letter: " + sign, Due.typed("h" + sign).firstError(), letter || digit ? 2 : 1);
            due.is("behind a digit: " + sign, Due.typed("H9" + sign).firstError(), letter ? 3 : 2);
            due.is("behind an error: " + sign, Due.typed("1" + sign + "a").firstError(), 0);
        }
    }

    private static void textsOfAnyLength() {
        due.sentence("of any length");
        // It tells 180 asks, more than a plan can have: no character is an error for that.
        due.is("a9, 20 times", Due.typed("a9".repeat(20)).firstError(), 40);
        due.is("with no place for a letter more", Due.typed("a".repeat(39) + "9").firstError(), 40);
        due.is("in a full plan", fullAndTyped("ab").firstError(), 2);
    }

    private static PlannedPages fullAndTyped(String text) {
        PlannedPages x = Due.full(0);
        Due.type(x, text);
        return x;
    }
}
