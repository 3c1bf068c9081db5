/** Promises 6 to 9: go, pin, frames, flush. */
public final class ActsTest {
    private static final Due due = new Due();

    public static void main(String[] args) {
        go();
        goChoosesVictims();
        goAtTheEdges();
        pin();
        framesMore();
        framesFewer();
        framesRefuse();
        flush();
        due.end("ActsTest");
    }

    private static void go() {
        PlannedPages x = Due.planned("abcAdaBd");
        due.is("go 3", x.go(3), 3);
        due.same("frames filled from the lowest", Due.frames(x), "abc");
        due.is("a hit that writes", x.go(1), 0);
        due.same("frames then", Due.frames(x), "Abc");
        due.is("d for c", x.go(1), 1);
        due.same("c is asked for no more", Due.frames(x), "Abd");
        due.is("the rest", x.go(80), 0);
        due.same("at the end", Due.frames(x), "ABd");
        due.same("brought", Due.askRow(x, 2), "1 1 1 0 2 0 0 0");
        due.same("victims", Due.askRow(x, 3), "-1 -1 -1 -1 2 -1 -1 -1");
        due.same("counts", Due.countRow(x), "8 8 3 3 0 4 4 0 2 5");
        due.is("undo", x.undo(), 4);
        due.same("one call is undone at once", Due.plan(x), "abcAd|aBd");
    }

    private static void goChoosesVictims() {
        // d takes the place of c, the latest asked for again; then e that of A, the lowest of three without a use.
        PlannedPages x = Due.planned("Abcdabcde");
        x.go(9);
        due.same("victims", Due.askRow(x, 3), "-1 -1 -1 2 -1 -1 0 -1 1");
        due.same("brought", Due.askRow(x, 2), "1 1 1 2 0 0 3 0 2");
        due.same("frames", Due.frames(x), "ced");
        due.same("written back", Due.pageRow(x, 6), "1 0 0 0 0 0 0 0");
        due.same("reads", Due.pageRow(x, 5), "1 1 2 1 1 0 0 0");
        // A page that was changed and went is clean when it is read again.
        PlannedPages again = new PlannedPages();
        again.frames(1);
        Due.extend(again, "Aba");
        again.go(3);
        due.same("brought in one frame", Due.askRow(again, 2), "1 3 2");
        due.same("frame", Due.frames(again), "a");
        // A pinned page stays, though its next use is the latest.
        PlannedPages pinned = Due.planned("abcdbca");
        pinned.pin(0);
        due.is("go with a pinned page", pinned.go(80), 5);
        due.same("victims then", Due.askRow(pinned, 3), "-1 -1 -1 2 -1 1 -1");
        // A pinned page that is in no frame comes in like any other, and stays.
        PlannedPages late = Due.planned("abcdacb");
        late.pin(3);
        late.go(80);
        due.same("pinned page read late", Due.askRow(late, 3), "-1 -1 -1 1 -1 -1 0");
        due.same("frames then", Due.frames(late), "bd!c");
    }

    private static void goAtTheEdges() {
        PlannedPages x = new PlannedPages();
        due.is("go in an empty plan", x.go(1), 0);
        due.is("it saves, too", x.count(9), 1);
        due.refused("go 0", x, IllegalArgumentException.class, () -> x.go(0));
        due.refused("go 81", x, IllegalArgumentException.class, () -> x.go(81));
        due.refused("go -1", x, IllegalArgumentException.class, () -> x.go(-1));
        due.refused("go least", x, IllegalArgumentException.class, () -> x.go(Integer.MIN_VALUE));
        PlannedPages full = Due.planned("a9b9c9d9e9f9g9h9A7B");
        due.is("go 80 of 80", full.go(80), 8);
        due.is("all are done", full.count(1), 80);
        due.is("go with none to come", full.go(80), 0);
        // a is to come again at 72, b at 79: so c, d, .. went.
        due.is("the last is a hit", full.ask(79, 2), 0);
        due.same("frames", Due.frames(full), "ABh");
        due.is("saved", full.count(9), 3);
    }

    private static void pin() {
        PlannedPages x = Due.planned("ab");
        due.is("pin 3", x.pin(3), 1);
        due.is("pin 7", x.pin(7), 2);
        due.same("pinned", Due.pageRow(x, 2), "0 0 0 1 0 0 0 1");
        due.refused("pin a third with 3 frames", x, IllegalStateException.class, () -> x.pin(0));
        due.is("let 3 loose at the limit", x.pin(3), 1);
        due.same("loose", Due.pageRow(x, 2), "0 0 0 0 0 0 0 1");
        due.refused("pin -1", x, IllegalArgumentException.class, () -> x.pin(-1));
        due.refused("pin 8", x, IllegalArgumentException.class, () -> x.pin(8));
        due.is("undo letting loose", x.undo(), 3);
        due.refused("pin 8 at the limit", x, IllegalArgumentException.class, () -> x.pin(8));
        due.same("pinned again", Due.pageRow(x, 2), "0 0 0 1 0 0 0 1");
        PlannedPages one = new PlannedPages();
        one.frames(1);
        due.refused("pin with one frame", one, IllegalStateException.class, () -> one.pin(0));
        PlannedPages six = new PlannedPages();
        six.frames(6);
        for (int page = 0; page < 5; page++) {
            due.is("pin of " + page + " in six", six.pin(page), page + 1);
        }
        due.refused("pin a sixth", six, IllegalStateException.class, () -> six.pin(5));
        Due.extend(six, "abcdefghabcde");
        due.is("all pinned but one frame", six.go(80), 8);
        due.same("frames", Due.frames(six), "a!b!c!d!e!h");
    }

    private static void framesMore() {
        PlannedPages x = Due.planned("abcdef");
        x.go(3);
        due.is("more frames", x.frames(5), 0);
        due.same("new ones are empty", Due.frames(x), "abc..");
        x.go(3);
        due.same("filled, then the lowest goes", Due.frames(x), "fbcde");
        due.is("the same number", x.frames(5), 0);
        due.is("saved", x.count(9), 5);
        due.is("undo", x.undo(), 4);
        due.is("six frames", x.frames(6), 0);
    }

    private static void framesFewer() {
        PlannedPages x = new PlannedPages();
        x.frames(6);
        Due.extend(x, "AbCdEffbdA");
        x.go(6);
        due.same("six pages", Due.frames(x), "AbCdEf");
        // To come: f 6, b 7, d 8, A 9; c and e have no next use, c is the lower one.
        due.is("four frames", x.frames(4), 2);
        due.same("moved down in their order", Due.frames(x), "Abdf");
        due.same("written back", Due.pageRow(x, 6), "0 0 1 0 1 0 0 0");
        due.is("written back in all", x.count(7), 2);
        due.same("frames by page", Due.pageRow(x, 0), "0 1 -1 2 -1 3 -1 -1");
        x.pin(0);
        due.is("a pinned page stays", x.frames(2), 2);
        due.same("a and f are left", Due.frames(x), "A!f");
        due.is("clean victims are not written back", x.count(7), 2);
        x.pin(0);
        due.is("one frame", x.frames(1), 1);
        due.same("f is left", Due.frames(x), "f");
        due.is("a was written back", x.page(0, 6), 1);
        due.is("changed pages", x.count(8), 0);
        x.undo();
        due.same("undone", Due.frames(x), "Af");
        due.is("so is the count", x.count(7), 2);
        PlannedPages half = Due.planned("ab");
        half.go(1);
        due.is("fewer frames, none goes", half.frames(1), 0);
        due.same("one page in one frame", Due.frames(half), "a");
        // All asks to come count, the next one too.
        PlannedPages next = Due.planned("abcab");
        next.go(3);
        due.is("down to one", next.frames(1), 2);
        due.same("the next page stays", Due.frames(next), "a");
    }

    private static void framesRefuse() {
        PlannedPages x = Due.planned("abc");
        x.go(3);
        x.pin(0);
        due.refused("frames 0", x, IllegalArgumentException.class, () -> x.frames(0));
        due.refused("frames 7", x, IllegalArgumentException.class, () -> x.frames(7));
        due.refused("frames -1", x, IllegalArgumentException.class, () -> x.frames(-1));
        due.refused("frames 1 with a pinned page", x, IllegalStateException.class, () -> x.frames(1));
        due.is("frames 2 with a pinned page", x.frames(2), 1);
        x.frames(3);
        x.pin(7);
        due.refused("frames 2 with two", x, IllegalStateException.class, () -> x.frames(2));
        due.refused("both would apply", x, IllegalArgumentException.class, () -> x.frames(0));
        due.is("frames 3 with two", x.frames(3), 0);
    }

    private static void flush() {
        PlannedPages x = Due.planned("AbCAbC");
        due.is("flush of empty frames", x.flush(), 0);
        due.is("it saves, too", x.count(9), 2);
        x.go(3);
        x.pin(0);
        due.is("flush two", x.flush(), 2);
        due.same("clean, in their frames, pinned", Due.frames(x), "a!bc");
        due.same("by page", Due.pageRow(x, 6), "1 0 1 0 0 0 0 0");
        due.is("written back", x.count(7), 2);
        due.is("flush again", x.flush(), 0);
        x.go(1);
        due.is("flush one", x.flush(), 1);
        due.is("written back then", x.page(0, 6), 2);
        x.undo();
        due.same("undone", Due.frames(x), "A!bc");
        due.is("the count, too", x.count(7), 2);
    }
}
