/** Promises 18 to 25: victim, byRule, fewestReads, framesFor, ifDropped, bestPin, hitShare, digest. */
public final class OutlookTest {
    private static final Due due = new Due();

    public static void main(String[] args) {
        victim();
        byRule();
        byRuleFromNow();
        byRuleRefuses();
        fewestReads();
        framesFor();
        ifDropped();
        bestPin();
        hitShare();
        digest();
        nothingIsChanged();
        due.end("OutlookTest");
    }

    private static void victim() {
        PlannedPages x = Due.planned("abcdcba");
        due.is("victim with empty frames", x.victim(), -1);
        x.go(2);
        due.is("victim with one empty frame", x.victim(), -1);
        x.go(1);
        due.is("the latest asked for again", x.victim(), 0);
        x.pin(0);
        due.is("a pinned one is not", x.victim(), 1);
        x.undo();
        x.go(3);
        due.same("frames", Due.frames(x), "dbc");
        due.is("the next ask does not count", x.victim(), 1);
        x.go(1);
        due.is("no ask to come", x.victim(), -1);
        // To come are b and c: but for the next one, c alone, so that a and b are never asked for again.
        PlannedPages next = Due.planned("abcbc");
        next.go(3);
        next.pin(0);
        due.is("b, though the next ask is for it", next.victim(), 1);
    }

    private static String rules(PlannedPages x) {
        StringBuilder text = new StringBuilder();
        for (int rule = 0; rule < 3; rule++) {
            text.append(rule == 0 ? "" : " / ");
            for (int what = 0; what < 3; what++) {
                text.append(what == 0 ? "" : " ").append(x.byRule(rule, what));
            }
        }
        return text.toString();
    }

    private static void byRule() {
        due.same("rules of an empty plan", rules(new PlannedPages()), "0 0 -1 / 0 0 -1 / 0 0 -1");
        due.same("rules of a plan", rules(Due.planned("abcdabeABcde")), "7 2 0 / 10 2 0 / 9 2 0");
        // Behind A, b, c, a: the rule 1 lets b go for d, the rule 2 lets A go.
        PlannedPages x = Due.planned("Abcadab");
        x.go(4);
        due.same("rules from place 4", rules(x), "1 0 4 / 2 0 4 / 3 1 4");
        // An ask that is a hit comes before the first that would read.
        PlannedPages late = Due.planned("abcabcd");
        late.go(3);
        due.same("first read late", rules(late), "1 0 6 / 1 0 6 / 1 0 6");
        late.drop(6);
        due.same("none would read", rules(late), "0 0 -1 / 0 0 -1 / 0 0 -1");
    }

    private static void byRuleFromNow() {
        PlannedPages x = Due.planned("ABcdABCd");
        x.pin(1);
        x.go(3);
        // Only what is to come counts; pins hold under each rule.
        due.same("rules with a pin", rules(x), "2 1 3 / 4 2 3 / 4 2 3");
        x.go(80);
        due.same("all done", rules(x), "0 0 -1 / 0 0 -1 / 0 0 -1");
    }

    private static void byRuleRefuses() {
        PlannedPages x = Due.planned("abcd");
        due.refused("rule -1", x, IllegalArgumentException.class, () -> x.byRule(-1, 0));
        due.refused("rule 3", x, IllegalArgumentException.class, () -> x.byRule(3, 0));
        due.refused("what -1", x, IllegalArgumentException.class, () -> x.byRule(0, -1));
        due.refused("what 3", x, IllegalArgumentException.class, () -> x.byRule(2, 3));
    }

    private static void fewestReads() {
        due.is("fewest of an empty plan", new PlannedPages().fewestReads(), 0);
        PlannedPages x = Due.planned("abcdabeABcde");
        due.is("fewest of a plan", x.fewestReads(), 7);
        x.go(4);
        due.is("fewest from place 4", x.fewestReads(), 3);
        x.go(80);
        due.is("fewest at the end", x.fewestReads(), 0);
        PlannedPages pinned = Due.planned("abcabdabdab");
        pinned.go(3);
        due.is("fewest, d for c", pinned.fewestReads(), 1);
        pinned.pin(2);
        due.is("fewest with c pinned", pinned.fewestReads(), 3);
    }

    private static void framesFor() {
        PlannedPages x = Due.planned("abcdabeABcde");
        due.is("5 reads", x.framesFor(5), 5);
        due.is("6 reads", x.framesFor(6), 4);
        due.is("7 reads", x.framesFor(7), 3);
        due.is("most reads: not fewer frames than now", x.framesFor(Integer.MAX_VALUE), 3);
        due.is("4 reads", x.framesFor(4), -1);
        due.is("0 reads", x.framesFor(0), -1);
        due.refused("-1 reads", x, IllegalArgumentException.class, () -> x.framesFor(-1));
        due.refused("least reads", x, IllegalArgumentException.class, () -> x.framesFor(Integer.MIN_VALUE));
        x.frames(6);
        due.is("six frames now", x.framesFor(80), 6);
        PlannedPages all = Due.planned("abcdefghabcdefgh");
        due.is("five frames are enough", all.framesFor(11), 5);
        due.is("six frames are enough", all.framesFor(10), 6);
        due.is("six frames are not", all.framesFor(9), -1);
        all.go(80);
        due.is("no asks to come", all.framesFor(0), 3);
    }

    private static void ifDropped() {
        PlannedPages x = Due.planned("abcda");
        due.is("without c", x.ifDropped(2), 3);
        due.is("without the last", x.ifDropped(4), 4);
        due.is("without the first", x.ifDropped(0), 4);
        x.go(2);
        due.is("reads to come only", x.ifDropped(4), 2);
        due.refused("a done one", x, IndexOutOfBoundsException.class, () -> x.ifDropped(1));
        due.refused("behind the end", x, IndexOutOfBoundsException.class, () -> x.ifDropped(5));
        due.refused("-1", x, IndexOutOfBoundsException.class, () -> x.ifDropped(-1));
        PlannedPages empty = new PlannedPages();
        due.refused("an empty plan", empty, IndexOutOfBoundsException.class, () -> empty.ifDropped(0));
        PlannedPages full = Due.planned("a9b9c9d9e9f9g9h9A7B");
        due.is("the last of 80", full.ifDropped(79), 8);
        // Dropping the next use of a page can change which one goes.
        PlannedPages other = Due.planned("abcdacbd");
        due.is("all asks", other.byRule(0, 0), 5);
        due.is("without the next a", other.ifDropped(4), 4);
    }

    private static void bestPin() {
        PlannedPages x = new PlannedPages();
        due.is("best of an empty plan", x.bestPin(), 0);
        x.pin(0);
        due.is("the lowest that is not pinned", x.bestPin(), 1);
        x.pin(3);
        due.is("no more can be pinned", x.bestPin(), -1);
        PlannedPages one = Due.planned("ab");
        one.frames(1);
        due.is("one frame", one.bestPin(), -1);
        // With two frames a pinned page leaves one for the others.
        PlannedPages two = new PlannedPages();
        two.frames(2);
        Due.extend(two, "abababcbcbcb");
        due.is("b is best pinned", two.bestPin(), 1);
        two.pin(1);
        due.is("none but b", two.bestPin(), -1);
        PlannedPages many = Due.planned("abcdefghabcdefgh");
        many.frames(6);
        many.go(8);
        many.pin(0);
        due.is("best of many", many.bestPin(), 1);
    }

    private static void hitShare() {
        PlannedPages x = Due.planned("aaabaaab");
        due.is("share of none", x.hitShare(), 1.0);
        x.go(1);
        due.is("share of one read", x.hitShare(), 0.0);
        x.go(1);
        due.is("1 of 2", x.hitShare(), 0.5);
        x.go(1);
        due.is("2 of 3", x.hitShare(), 2.0 / 3.0);
        x.go(5);
        due.is("6 of 8", x.hitShare(), 0.75);
        x.undo();
        due.is("undone", x.hitShare(), 2.0 / 3.0);
    }

    private static void digest() {
        PlannedPages x = new PlannedPages();
        due.is("digest of a new object", x.digest(), Due.digestOf(x, ""));
        Due.type(x, "~a");
        due.is("digest with a buffer", x.digest(), Due.digestOf(x, "~a"));
        x.clearBuffer();
        Due.extend(x, "aBcdEaBcFgH2abe");
        x.pin(2);
        for (int done = 1; done <= 16; done++) {
            x.go(1);
            due.is("digest, done " + done, x.digest(), Due.digestOf(x, ""));
        }
        // All shares of hits that can be: n hits behind k reads, in one frame.
        for (int reads = 1; reads <= 80; reads++) {
            for (int hits = 0; hits <= 80 - reads; hits++) {
                PlannedPages shares = Due.hitsBehindReads(hits, reads);
                due.is("digest at " + hits + " hits and " + reads + " reads", shares.digest(), Due.digestOf(shares, ""));
            }
        }
    }

    private static void nothingIsChanged() {
        PlannedPages x = Due.planned("aBcdEaBcFgH2abe");
        x.go(5);
        String before = Due.countRow(x) + Due.plan(x) + Due.frames(x) + Due.askRow(x, 2) + Due.pageRow(x, 5);
        x.victim();
        x.byRule(1, 0);
        x.fewestReads();
        x.framesFor(0);
        x.ifDropped(7);
        x.bestPin();
        x.hitShare();
        x.digest();
        String behind = Due.countRow(x) + Due.plan(x) + Due.frames(x) + Due.askRow(x, 2) + Due.pageRow(x, 5);
        due.same("state behind the outlooks", behind, before);
    }
}
