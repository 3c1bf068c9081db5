/** Promises 1 to 5: a new object, extend, insert, drop, exchange. */
public final class PlanTest {
    private static final Due due = new Due();

    public static void main(String[] args) {
        newObject();
        extend();
        extendRefuses();
        insert();
        insertRefuses();
        drop();
        exchange();
        due.end("PlanTest");
    }

    private static void newObject() {
        PlannedPages x = new PlannedPages();
        due.is("NONE", PlannedPages.NONE, -1);
        due.same("new, counts", Due.countRow(x), "0 0 3 0 0 0 0 0 0 0");
        due.same("new, frames", Due.frames(x), "...");
        due.same("new, plan", Due.plan(x), "|");
        due.is("new, firstError", x.firstError(), 0);
        due.is("new, clearBuffer", x.clearBuffer(), 0);
        due.same("new, pinned", Due.pageRow(x, 2), "0 0 0 0 0 0 0 0");
        due.same("new, undo", Due.answer(x::undo), "IllegalStateException");
    }

    private static void extend() {
        PlannedPages x = new PlannedPages();
        Due.type(x, "aB3h");
        due.is("extend to 5", x.extend(), 5);
        due.same("plan of aB3h", Due.plan(x), "|aBBBh");
        due.is("buffer behind extend", x.clearBuffer(), 0);
        due.is("saved by extend", x.count(9), 1);
        x.go(2);
        Due.type(x, "H9");
        due.is("extend to 14", x.extend(), 14);
        due.same("plan then", Due.plan(x), "aB|BBhHHHHHHHHH");
        due.is("undo extend", x.undo(), 2);
        due.same("plan behind undo", Due.plan(x), "aB|BBh");
        due.is("undo leaves the buffer cleared", x.clearBuffer(), 0);
        // An old digit behind the end of a shorter buffer tells nothing.
        Due.type(x, "c9");
        x.clearBuffer();
        Due.type(x, "c");
        due.is("extend with c", x.extend(), 6);
    }

    private static void extendRefuses() {
        PlannedPages x = new PlannedPages();
        due.refused("extend by an empty buffer", x, IllegalArgumentException.class, x::extend);
        for (String bad : new String[] {"2", "a1", "a0", "a22", "ai", "I", "a2b33", "9a", "a~", "!a"}) {
            x.clearBuffer();
            Due.type(x, bad);
            due.refused("extend by " + bad, x, IllegalArgumentException.class, x::extend);
            due.is("buffer kept " + bad, x.clearBuffer(), bad.length());
        }
        PlannedPages full = Due.planned("a9b9c9d9e9f9g9h9a7");
        due.is("plan of 79", full.count(0), 79);
        Due.type(full, "a2");
        due.refused("extend to 81", full, IllegalStateException.class, full::extend);
        full.clearBuffer();
        Due.type(full, "B");
        due.is("extend to 80", full.extend(), 80);
        Due.type(full, "c");
        due.refused("extend of a full plan", full, IllegalStateException.class, full::extend);
        Due.type(full, "i");
        due.refused("both apply", full, IllegalArgumentException.class, full::extend);
        full.clearBuffer();
        due.refused("full plan, empty buffer", full, IllegalArgumentException.class, full::extend);
        full.go(80);
        Due.type(full, "c");
        due.refused("extend of a full plan that is done", full, IllegalStateException.class, full::extend);
    }

    private static void insert() {
        PlannedPages x = new PlannedPages();
        due.is("insert into an empty plan", x.insert(0, 3, true), 1);
        due.is("insert at the first place", x.insert(0, 0, false), 2);
        due.is("insert at the end", x.insert(2, 7, true), 3);
        due.is("insert in the middle", x.insert(1, 2, false), 4);
        due.same("plan then", Due.plan(x), "|acDH");
        x.go(2);
        due.is("insert at the first ask to come", x.insert(2, 1, true), 3);
        due.same("plan behind go", Due.plan(x), "ac|BDH");
        due.same("what they brought", Due.askRow(x, 2), "1 1 -1 -1 -1");
        x.go(3);
        due.is("insert with all done", x.insert(5, 0, false), 1);
        due.same("plan with all done", Due.plan(x), "acBDH|a");
        due.is("saved", x.count(9), 6);
        x.undo();
        due.same("plan behind undo", Due.plan(x), "acBDH|");
        PlannedPages full = Due.planned("a9a9a9a9a9a9a9a9a6H");
        due.is("insert to 80", full.insert(0, 1, true), 80);
        due.is("the last moves on", full.ask(79, 0), 7);
        due.is("the last still writes", full.ask(79, 1), 1);
        due.is("the first is new", full.ask(0, 0), 1);
    }

    private static void insertRefuses() {
        PlannedPages x = Due.planned("abc");
        x.go(1);
        due.refused("insert among the done", x, IndexOutOfBoundsException.class, () -> x.insert(0, 0, false));
        due.refused("insert at -1", x, IndexOutOfBoundsException.class, () -> x.insert(-1, 0, false));
        due.refused("insert behind the end", x, IndexOutOfBoundsException.class, () -> x.insert(4, 0, false));
        due.refused("insert far off", x, IndexOutOfBoundsException.class,
                () -> x.insert(Integer.MAX_VALUE, 0, false));
        due.refused("insert page -1", x, IllegalArgumentException.class, () -> x.insert(1, -1, false));
        due.refused("insert page 8", x, IllegalArgumentException.class, () -> x.insert(3, 8, true));
        due.refused("place and page", x, IndexOutOfBoundsException.class, () -> x.insert(4, 8, true));
        PlannedPages full = Due.planned("a9a9a9a9a9a9a9a9a8");
        due.refused("insert into a full plan", full, IllegalStateException.class, () -> full.insert(0, 0, false));
        due.refused("insert behind a full plan", full, IllegalStateException.class, () -> full.insert(80, 0, false));
        due.refused("full, page", full, IllegalArgumentException.class, () -> full.insert(80, 9, false));
        due.refused("full, place", full, IndexOutOfBoundsException.class, () -> full.insert(81, 9, false));
        full.go(80);
        due.refused("full, all done", full, IllegalStateException.class, () -> full.insert(80, 0, false));
        due.refused("full, all done, place", full, IndexOutOfBoundsException.class, () -> full.insert(79, 0, false));
    }

    private static void drop() {
        PlannedPages x = Due.planned("aBcDe");
        due.is("drop in the middle", x.drop(2), 2);
        due.same("plan then", Due.plan(x), "|aBDe");
        due.is("drop the last", x.drop(3), 4);
        due.is("drop the first", x.drop(0), 0);
        due.same("plan of two", Due.plan(x), "|BD");
        due.is("undo a drop", x.undo(), 3);
        due.same("plan behind undo", Due.plan(x), "|aBD");
        x.go(1);
        due.refused("drop a done ask", x, IndexOutOfBoundsException.class, () -> x.drop(0));
        due.refused("drop behind the end", x, IndexOutOfBoundsException.class, () -> x.drop(3));
        due.refused("drop -1", x, IndexOutOfBoundsException.class, () -> x.drop(-1));
        due.is("drop the first to come", x.drop(1), 1);
        due.is("drop the only one to come", x.drop(1), 3);
        due.same("plan with none to come", Due.plan(x), "a|");
        due.refused("drop with none to come", x, IndexOutOfBoundsException.class, () -> x.drop(1));
        PlannedPages full = Due.planned("a9b9c9d9e9f9g9h9a7B");
        due.is("drop the first of 80", full.drop(0), 0);
        due.is("the last comes up", full.ask(78, 0), 1);
        due.is("the last still writes", full.ask(78, 1), 1);
        due.is("drop the last of 79", full.drop(78), 1);
        due.is("the last then", full.ask(77, 0), 0);
        due.is("asks then", full.count(0), 78);
        PlannedPages empty = new PlannedPages();
        due.refused("drop of an empty plan", empty, IndexOutOfBoundsException.class, () -> empty.drop(0));
    }

    private static void exchange() {
        PlannedPages x = Due.planned("aBcDe");
        due.is("exchange first and last", x.exchange(0, 4), 4);
        due.same("plan then", Due.plan(x), "|eBcDa");
        due.is("exchange a write and a read", x.exchange(2, 1), 1);
        due.same("writes go along", Due.plan(x), "|ecBDa");
        due.is("exchange with itself", x.exchange(3, 3), 3);
        due.is("saved, also if nothing changes", x.count(9), 4);
        due.same("plan the same", Due.plan(x), "|ecBDa");
        x.undo();
        x.undo();
        due.same("plan behind undo", Due.plan(x), "|eBcDa");
        x.go(2);
        due.refused("exchange a done one", x, IndexOutOfBoundsException.class, () -> x.exchange(1, 2));
        due.refused("exchange with a done one", x, IndexOutOfBoundsException.class, () -> x.exchange(2, 1));
        due.refused("exchange behind the end", x, IndexOutOfBoundsException.class, () -> x.exchange(5, 2));
        due.refused("exchange with behind the end", x, IndexOutOfBoundsException.class, () -> x.exchange(2, 5));
        due.refused("exchange -1", x, IndexOutOfBoundsException.class, () -> x.exchange(-1, -1));
        due.is("exchange the last two", x.exchange(3, 4), 0);
        due.same("plan at the end", Due.plan(x), "eB|caD");
        PlannedPages empty = new PlannedPages();
        due.refused("exchange of an empty plan", empty, IndexOutOfBoundsException.class, () -> empty.exchange(0, 0));
    }
}
