import java.util.function.Consumer;
import java.util.function.Supplier;
import java.util.function.ToLongFunction;

/** "Undo" and "Exceptions": for each sentence of theirs a test of its own, and calls with numbers far off. */
public final class UndoEdgesTest {
    private static final int[] FAR = {Integer.MIN_VALUE, Integer.MIN_VALUE + 1, -256, -82, -81, -80, -2, -1, 0, 1, 2, 3, 6,
        7, 8, 9, 10, 32, 33, 79, 80, 81, 82, 126, 127, 128, 65536, 65536 + 97, Integer.MAX_VALUE - 1, Integer.MAX_VALUE};

    private static final Due due = new Due();

    public static void main(String[] args) {
        eachUndoableSaves();
        alsoIfItChangesNothing();
        throwingSavesNothing();
        otherCallsSaveNothing();
        allIsSaved();
        notTheBuffer();
        notTheSavedStates();
        atMostSix();
        oldestFirst();
        throwingChangesNothing();
        firstNamed();
        farNumbers();
        lastOf512Calls();
        due.end("UndoEdgesTest");
    }

    private static void eachUndoableSaves() {
        due.sentence("Each method that is marked \"undoable\" and does not throw an exception saves the state from before it");
        saves("insert", x -> x.insert(3, 7, true));
        saves("drop", x -> x.drop(3));
        saves("exchange", x -> x.exchange(3, 4));
        saves("go", x -> x.go(2));
        saves("pin", x -> x.pin(7));
        saves("let loose", x -> x.pin(0));
        saves("frames", x -> x.frames(2));
        saves("flush", PlannedPages::flush);
        PlannedPages x = started();
        long before = x.digest();
        Due.type(x, "ab");
        x.extend();
        due.is("saved by extend", x.count(9), 4);
        due.is("undo of extend", x.undo(), 3);
        due.is("digest behind undo of extend", x.digest(), before);
    }

    /** Three frames with two pages that are changed, a pin, five asks, three saved states. */
    private static PlannedPages started() {
        PlannedPages x = Due.planned("ABacd");
        x.pin(0);
        x.go(3);
        return x;
    }

    private static void saves(String name, Consumer<PlannedPages> call) {
        PlannedPages x = started();
        long before = x.digest();
        call.accept(x);
        due.is("saved by " + name, x.count(9), 4);
        due.is(name + " changed the state", x.digest() == before ? 0 : 1, 1);
        due.is("undo of " + name, x.undo(), 3);
        due.is("digest behind undo of " + name, x.digest(), before);
    }

    private static void alsoIfItChangesNothing() {
        due.sentence("(also if it changes nothing)");
        changesNothing("exchange with itself", Due.planned("ab"), x -> x.exchange(1, 1));
        changesNothing("exchange of two that are alike", Due.planned("aba"), x -> x.exchange(0, 2));
        changesNothing("go in an empty plan", new PlannedPages(), x -> x.go(1));
        changesNothing("go with none to come", Due.full(80), x -> x.go(80));
        changesNothing("frames, as many", Due.planned(6, "a"), x -> x.frames(6));
        changesNothing("frames, as many, pinned", started(), x -> x.frames(3));
        changesNothing("flush of empty frames", new PlannedPages(), PlannedPages::flush);
        changesNothing("flush of clean pages", Due.hitsBehindReads(0, 1), PlannedPages::flush);
    }

    private static void changesNothing(String name, PlannedPages x, Consumer<PlannedPages> call) {
        int saved = x.count(9);
        long before = x.digest();
        call.accept(x);
        due.is("saved by " + name, x.count(9), saved + 1);
        due.is("undo of " + name, x.undo(), saved);
        due.is("digest behind undo of " + name, x.digest(), before);
    }

    private static void throwingSavesNothing() {
        due.sentence("and does not throw an exception");
        for (int saved = 0; saved <= 7; saved++) {
            PlannedPages x = withSaved(saved);
            PlannedPages twin = withSaved(saved);
            Due.answer(x::extend);
            Due.answer(() -> x.insert(-1, 0, false));
            Due.answer(() -> x.drop(80));
            Due.answer(() -> x.exchange(0, 80));
            Due.answer(() -> x.go(0));
            Due.answer(() -> x.pin(8));
            Due.answer(() -> x.frames(7));
            due.is("saved states", x.count(9), Math.min(saved, 6));
            due.same("all of them", Due.story(x), Due.story(twin));
        }
    }

    /** So many undoable calls: pages b, c, d, .. inserted ahead of one another. */
    private static PlannedPages withSaved(int calls) {
        PlannedPages x = new PlannedPages();
        for (int i = 1; i <= calls; i++) {
            x.insert(0, i % 8, false);
        }
        return x;
    }

    private static void otherCallsSaveNothing() {
        due.sentence("Each method that is marked \"undoable\"");
        PlannedPages x = started();
        x.append('a');
        x.clearBuffer();
        x.firstError();
        x.ask(0, 0);
        x.page(0, 0);
        x.frame(0);
        x.victim();
        x.byRule(0, 0);
        x.fewestReads();
        x.framesFor(0);
        x.ifDropped(3);
        x.bestPin();
        x.hitShare();
        x.digest();
        due.is("the others save nothing", x.count(9), 3);
        due.is("undo saves nothing", x.undo(), 2);
        due.is("saved behind undo", x.count(9), 2);
    }

    private static void allIsSaved() {
        due.sentence("all, also what is counted so far");
        PlannedPages x = Due.planned("AbCdaBce");
        x.pin(1);
        x.go(5);
        String before = looks(x);
        x.go(2);
        x.flush();
        x.pin(1);
        x.frames(2);
        x.insert(7, 6, true);
        x.go(2);
        due.is("another state", before.equals(looks(x)) ? 0 : 1, 1);
        for (int i = 0; i < 6; i++) {
            x.undo();
        }
        due.same("all looks behind six undos", looks(x), before);
    }

    private static String looks(PlannedPages x) {
        StringBuilder text = new StringBuilder(Due.plan(x)).append(' ').append(Due.frames(x));
        for (int what = 0; what <= 8; what++) {
            text.append(" / ").append(x.count(what));
        }
        for (int what = 0; what <= 7; what++) {
            text.append(" / ").append(Due.pageRow(x, what));
        }
        return text.append(" / ").append(Due.askRow(x, 2)).append(" / ").append(Due.askRow(x, 3)).toString();
    }

    private static void notTheBuffer() {
        due.sentence("but the buffer and the saved states");
        PlannedPages x = Due.planned("ab");
        x.go(1);
        Due.type(x, "cd");
        x.undo();
        due.is("what was typed behind go stays", x.firstError(), 2);
        x.undo();
        due.is("and extend gives nothing back", x.clearBuffer(), 2);
        Due.type(x, "e2");
        x.extend();
        Due.type(x, "f");
        x.undo();
        due.is("what was typed behind extend stays", x.extend(), 1);
        due.is("its page", x.ask(0, 0), 5);
        x.append('a');
        x.flush();
        x.clearBuffer();
        x.undo();
        due.is("what was cleared stays so", x.clearBuffer(), 0);
    }

    private static void notTheSavedStates() {
        due.sentence("Restores the latest saved state, and drops it");
        PlannedPages x = withSaved(3);
        due.is("undo", x.undo(), 2);
        due.same("the latest one", Due.plan(x), "|cb");
        x.insert(0, 7, true);
        due.is("saved then", x.count(9), 3);
        x.undo();
        due.same("the dropped one does not come again", Due.plan(x), "|cb");
        x.undo();
        due.same("the one before it", Due.plan(x), "|b");
        x.undo();
        due.same("the first", Due.plan(x), "|");
        due.is("none is left", x.count(9), 0);
    }

    private static void atMostSix() {
        due.sentence("At most 6 states are saved");
        for (int calls = 0; calls <= 14; calls++) {
            PlannedPages x = withSaved(calls);
            int saved = Math.min(calls, 6);
            due.is("behind " + calls + " calls", x.count(9), saved);
            for (int left = saved - 1; left >= 0; left--) {
                due.is("left", x.undo(), left);
            }
            due.same("one more", Due.answer(x::undo), "IllegalStateException");
        }
    }

    private static void oldestFirst() {
        due.sentence("the oldest one is dropped first");
        String[] plans = {"|", "|b", "|cb", "|dcb", "|edcb", "|fedcb", "|gfedcb", "|hgfedcb", "|ahgfedcb"};
        for (int calls = 5; calls <= 8; calls++) {
            PlannedPages x = withSaved(calls);
            for (int back = 1; back <= Math.min(calls, 6); back++) {
                x.undo();
                due.same(calls + " calls, " + back + " back", Due.plan(x), plans[calls - back]);
            }
        }
        PlannedPages again = withSaved(8);
        again.undo();
        again.undo();
        again.insert(0, 2, true);
        again.insert(0, 3, true);
        again.insert(0, 4, true);
        due.is("six again", again.count(9), 6);
        for (int i = 0; i < 6; i++) {
            again.undo();
        }
        due.same("three of eight and one of three were dropped", Due.plan(again), plans[3]);
    }

    private static void throwingChangesNothing() {
        due.sentence("A call that throws an exception changes nothing");
        everywhere("extend", PlannedPages::extend, Due.ARGUMENT);
        everywhere("insert", x -> x.insert(81, 0, false), Due.PLACE);
        everywhere("insert page", x -> x.insert(x.count(0), 8, false), Due.ARGUMENT);
        everywhere("drop", x -> x.drop(80), Due.PLACE);
        everywhere("exchange", x -> x.exchange(80, 80), Due.PLACE);
        everywhere("go", x -> x.go(81), Due.ARGUMENT);
        everywhere("pin", x -> x.pin(8), Due.ARGUMENT);
        everywhere("frames", x -> x.frames(7), Due.ARGUMENT);
        everywhere("append", x -> x.append(127), Due.ARGUMENT);
        everywhere("ask", x -> x.ask(80, 0), Due.PLACE);
        everywhere("page", x -> x.page(8, 0), Due.ARGUMENT);
        everywhere("frame", x -> x.frame(6), Due.PLACE);
        everywhere("count", x -> x.count(10), Due.ARGUMENT);
        everywhere("byRule", x -> x.byRule(3, 0), Due.ARGUMENT);
        everywhere("framesFor", x -> x.framesFor(-1), Due.ARGUMENT);
        everywhere("ifDropped", x -> x.ifDropped(80), Due.PLACE);
        due.refuses("undo", PlannedPages::new, Due.STATE, PlannedPages::undo);
        due.refuses("undo with a buffer", () -> Due.typed("aB2"), Due.STATE, PlannedPages::undo);
    }

    private static void everywhere(String name, ToLongFunction<PlannedPages> call, Class<? extends RuntimeException> want) {
        due.refuses(name + ", new object", PlannedPages::new, want, call);
        due.refuses(name + ", busy object", Due::busy, want, call);
        due.refuses(name + ", full plan", () -> Due.full(0), want, call);
        due.refuses(name + ", full plan, half done", () -> Due.full(40), want, call);
        due.refuses(name + ", full plan, all done", () -> Due.full(80), want, call);
    }

    private static void firstNamed() {
        due.sentence("If several exceptions apply, the one that is named first in the throws clause is thrown");
        due.refuses("extend: no text, full plan", () -> Due.full(0), Due.ARGUMENT, PlannedPages::extend);
        due.refuses("extend: an error behind too many asks", () -> Due.typed("a9b9c9d9e9f9g9h9a9z"), Due.ARGUMENT,
                PlannedPages::extend);
        due.refuses("insert: place and page", Due::busy, Due.PLACE, x -> x.insert(6, 8, true));
        due.refuses("insert: place and full plan", () -> Due.full(1), Due.PLACE, x -> x.insert(0, 0, true));
        due.refuses("insert: page and full plan", () -> Due.full(1), Due.ARGUMENT, x -> x.insert(1, -1, true));
        due.refuses("insert: all three", () -> Due.full(1), Due.PLACE, x -> x.insert(81, 8, true));
        due.refuses("pin: page and limit", () -> Due.planned(1, "a"), Due.ARGUMENT, x -> x.pin(8));
        due.refuses("pin: page -1 and limit", () -> Due.planned(1, "a"), Due.ARGUMENT, x -> x.pin(-1));
        due.refuses("frames: range and pins", UndoEdgesTest::started, Due.ARGUMENT, x -> x.frames(0));
        due.refuses("frames: range without pins", PlannedPages::new, Due.ARGUMENT, x -> x.frames(0));
        due.refuses("frames: far below, and pins", UndoEdgesTest::started, Due.ARGUMENT,
                x -> x.frames(Integer.MIN_VALUE));
        due.refuses("append: code and full buffer", () -> Due.typed("a".repeat(40)), Due.ARGUMENT, x -> x.append(127));
        due.refuses("append: low code and full buffer", () -> Due.typed("a".repeat(40)), Due.ARGUMENT, x -> x.append(32));
        due.refuses("ask: place and what", Due::busy, Due.PLACE, x -> x.ask(16, 4));
        due.refuses("ask: place -1 and what -1", Due::busy, Due.PLACE, x -> x.ask(-1, -1));
    }

    private static void farNumbers() {
        due.sentence("A call that throws an exception changes nothing (numbers far off)");
        for (int a : FAR) {
            far("drop", x -> x.drop(a), Due.PLACE);
            far("go", x -> x.go(a), Due.ARGUMENT);
            far("pin", x -> x.pin(a), Due.ARGUMENT);
            far("frames", x -> x.frames(a), Due.ARGUMENT);
            far("append", x -> x.append(a), Due.ARGUMENT);
            far("frame", x -> x.frame(a), Due.PLACE);
            far("count", x -> x.count(a), Due.ARGUMENT);
            far("framesFor", x -> x.framesFor(a), Due.ARGUMENT);
            far("ifDropped", x -> x.ifDropped(a), Due.PLACE);
            for (int b : FAR) {
                far("insert", x -> x.insert(a, b, true), Due.PLACE);
                far("exchange", x -> x.exchange(a, b), Due.PLACE);
                far("ask", x -> x.ask(a, b), Due.PLACE);
                far("page", x -> x.page(a, b), Due.ARGUMENT);
                far("byRule", x -> x.byRule(a, b), Due.ARGUMENT);
            }
        }
    }

    // Which of these calls are refused is for the promises; here that a refused one throws what the document
    // names, and changes nothing.
    private static void far(String name, ToLongFunction<PlannedPages> call, Class<? extends RuntimeException> usual) {
        far(name, PlannedPages::new, call, usual);
        far(name, Due::busy, call, usual);
        far(name, () -> Due.full(79), call, usual);
    }

    private static void far(String name, Supplier<PlannedPages> made, ToLongFunction<PlannedPages> call,
            Class<? extends RuntimeException> usual) {
        PlannedPages x = made.get();
        long before = x.digest();
        int saved = x.count(9);
        String answer = Due.answer(() -> call.applyAsLong(x));
        if (answer.endsWith("Exception")) {
            boolean second = answer.equals("IllegalArgumentException") && (name.equals("insert") || name.equals("ask"));
            boolean third = answer.equals("IllegalStateException")
                    && (name.equals("insert") || name.equals("pin") || name.equals("frames"));
            due.same(name + " throws", answer, second || third ? answer : usual.getSimpleName());
            due.is(name + " changed nothing", x.digest(), before);
            due.is(name + " saved nothing", x.count(9), saved);
        }
    }

    private static void lastOf512Calls() {
        due.sentence("An object is used for at most 512 calls after it has been made");
        PlannedPages x = eightyInserted();
        PlannedPages twin = eightyInserted();
        for (int calls = 80; calls < 510; calls += 2) {
            x.exchange(0, 79);
            x.undo();
        }
        twin.exchange(0, 79);
        twin.undo();
        due.is("the 511th call", x.go(80), twin.go(80));
        due.is("the 512th call", x.digest(), twin.digest());
    }

    private static PlannedPages eightyInserted() {
        PlannedPages x = new PlannedPages();
        for (int i = 0; i < 80; i++) {
            x.insert(i, i * i % 11 % 8, i % 3 == 0);
        }
        return x;
    }
}
