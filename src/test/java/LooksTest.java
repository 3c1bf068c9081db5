/** Promises 14 to 17: ask, page, frame, count. */
public final class LooksTest {
    private static final Due due = new Due();

    public static void main(String[] args) {
        ask();
        page();
        pageRefuses();
        frame();
        count();
        due.end("LooksTest");
    }

    private static void ask() {
        PlannedPages x = Due.planned("aBcDaeB");
        x.go(6);
        due.same("pages", Due.askRow(x, 0), "0 1 2 3 0 4 1");
        due.same("writes", Due.askRow(x, 1), "0 1 0 1 0 0 1");
        due.same("brought", Due.askRow(x, 2), "1 1 1 2 0 2 -1");
        due.same("victims", Due.askRow(x, 3), "-1 -1 -1 2 -1 0 -1");
        x.undo();
        due.same("brought, undone", Due.askRow(x, 2), "-1 -1 -1 -1 -1 -1 -1");
        due.same("victims, undone", Due.askRow(x, 3), "-1 -1 -1 -1 -1 -1 -1");
        due.refused("ask 7", x, IndexOutOfBoundsException.class, () -> x.ask(7, 0));
        due.refused("ask -1", x, IndexOutOfBoundsException.class, () -> x.ask(-1, 0));
        due.refused("what 4", x, IllegalArgumentException.class, () -> x.ask(0, 4));
        due.refused("what -1", x, IllegalArgumentException.class, () -> x.ask(6, -1));
        due.refused("both", x, IndexOutOfBoundsException.class, () -> x.ask(7, 4));
        PlannedPages empty = new PlannedPages();
        due.refused("ask of an empty plan", empty, IndexOutOfBoundsException.class, () -> empty.ask(0, 0));
        PlannedPages full = Due.planned("a9b9c9d9e9f9g9h9A7B");
        due.is("the last of 80", full.ask(79, 0), 1);
        due.refused("ask 80 of 80", full, IndexOutOfBoundsException.class, () -> full.ask(80, 0));
        // A changed victim: 3.
        PlannedPages one = new PlannedPages();
        one.frames(1);
        Due.extend(one, "Abc");
        one.go(3);
        due.same("brought in one frame", Due.askRow(one, 2), "1 3 2");
        due.same("victims in one frame", Due.askRow(one, 3), "-1 0 1");
    }

    private static void page() {
        PlannedPages x = Due.planned("aBcDaeBhAA");
        x.pin(6);
        x.go(6);
        due.same("brought", Due.askRow(x, 2), "1 1 1 2 0 3 -1 -1 -1 -1");
        due.same("frame", Due.pageRow(x, 0), "0 1 -1 -1 2 -1 -1 -1");
        due.same("changed", Due.pageRow(x, 1), "0 1 0 0 0 0 0 0");
        due.same("pinned", Due.pageRow(x, 2), "0 0 0 0 0 0 1 0");
        due.same("next use", Due.pageRow(x, 3), "8 6 80 80 80 80 80 7");
        due.same("latest ask", Due.pageRow(x, 4), "4 1 2 3 5 -1 -1 -1");
        due.same("reads", Due.pageRow(x, 5), "1 1 1 1 1 0 0 0");
        due.same("written back", Due.pageRow(x, 6), "0 0 0 1 0 0 0 0");
        due.same("asks to come", Due.pageRow(x, 7), "2 1 0 0 0 0 0 1");
        x.drop(6);
        due.same("next use behind drop", Due.pageRow(x, 3), "7 80 80 80 80 80 80 6");
        x.insert(6, 0, false);
        due.same("next use behind insert", Due.pageRow(x, 3), "6 80 80 80 80 80 80 7");
        due.same("latest asks stay", Due.pageRow(x, 4), "4 1 2 3 5 -1 -1 -1");
        PlannedPages full = Due.planned("a9a9a9a9a9a9a9a9a7b");
        due.is("next use at the last place", full.page(1, 3), 79);
        due.is("asks to come", full.page(0, 7), 79);
        full.go(80);
        due.is("latest ask at the last place", full.page(1, 4), 79);
        due.is("next use, all done", full.page(0, 3), 80);
    }

    private static void pageRefuses() {
        PlannedPages x = Due.planned("ab");
        due.refused("page -1", x, IllegalArgumentException.class, () -> x.page(-1, 0));
        due.refused("page 8", x, IllegalArgumentException.class, () -> x.page(8, 0));
        due.refused("what -1", x, IllegalArgumentException.class, () -> x.page(0, -1));
        due.refused("what 8", x, IllegalArgumentException.class, () -> x.page(0, 8));
    }

    private static void frame() {
        PlannedPages x = Due.planned("hb");
        x.go(2);
        due.is("frame 0", x.frame(0), 7);
        due.is("frame 1", x.frame(1), 1);
        due.is("an empty one", x.frame(2), -1);
        due.refused("frame 3 of 3", x, IndexOutOfBoundsException.class, () -> x.frame(3));
        due.refused("frame -1", x, IndexOutOfBoundsException.class, () -> x.frame(-1));
        x.frames(6);
        due.is("frame 5 of 6", x.frame(5), -1);
        due.refused("frame 6 of 6", x, IndexOutOfBoundsException.class, () -> x.frame(6));
        x.frames(1);
        due.refused("frame 1 of 1", x, IndexOutOfBoundsException.class, () -> x.frame(1));
    }

    private static void count() {
        PlannedPages x = Due.planned("aBcDaeBhAA");
        x.pin(6);
        x.go(7);
        due.same("counts", Due.countRow(x), "10 7 3 3 1 2 5 1 1 3");
        x.flush();
        due.same("counts behind flush", Due.countRow(x), "10 7 3 3 1 2 5 2 0 4");
        x.go(3);
        due.same("counts at the end", Due.countRow(x), "10 10 3 3 1 4 6 2 1 5");
        x.frames(2);
        due.same("counts behind frames", Due.countRow(x), "10 10 2 2 1 4 6 3 0 6");
        due.refused("count -1", x, IllegalArgumentException.class, () -> x.count(-1));
        due.refused("count 10", x, IllegalArgumentException.class, () -> x.count(10));
    }
}
