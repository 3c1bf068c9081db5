/** Promises 10 to 13: append, clearBuffer, firstError, undo. */
public final class BufferTest {
    private static final Due due = new Due();

    public static void main(String[] args) {
        append();
        clearBuffer();
        firstError();
        undo();
        undoAtTheLimit();
        due.end("BufferTest");
    }

    private static void append() {
        PlannedPages x = new PlannedPages();
        due.is("append the lowest code", x.append(33), 1);
        due.is("append the highest code", x.append(126), 2);
        due.is("append saves nothing", x.count(9), 0);
        due.refused("append 32", x, IllegalArgumentException.class, () -> x.append(32));
        due.refused("append 127", x, IllegalArgumentException.class, () -> x.append(127));
        due.refused("append -1", x, IllegalArgumentException.class, () -> x.append(-1));
        for (int length = 3; length <= 40; length++) {
            due.is("append to " + length, x.append('a'), length);
        }
        due.refused("append to a full buffer", x, IllegalStateException.class, () -> x.append('a'));
        due.refused("both apply", x, IllegalArgumentException.class, () -> x.append(200));
        due.is("clear the full one", x.clearBuffer(), 40);
        due.is("append then", x.append('a'), 1);
    }

    private static void clearBuffer() {
        PlannedPages x = new PlannedPages();
        due.is("clear an empty buffer", x.clearBuffer(), 0);
        Due.type(x, "abc");
        due.is("clear three", x.clearBuffer(), 3);
        due.is("clear again", x.clearBuffer(), 0);
        due.is("it saves nothing", x.count(9), 0);
    }

    private static void firstError() {
        Object[][] cases = {
            {"", 0}, {"a", 1}, {"h", 1}, {"i", 0}, {"A", 1}, {"H", 1}, {"I", 0}, {"@", 0}, {"`", 0},
            {"2", 0}, {"a1", 1}, {"a2", 2}, {"a9", 2}, {"a0", 1}, {"a:", 1}, {"a22", 2}, {"a2b", 3}, {"a2b3", 4},
            {"ab2C9d", 6}, {"abz", 2}, {"abz2", 2}, {"a,b", 1}, {"z2", 0}, {"H9H9H9H9H9H9H9H9H9H9", 20},
            {"aaaaaaaaaaaaaaaaaaaaaaaaaaaaaaaaaaaaaaa1", 39}, {"aaaaaaaaaaaaaaaaaaaaaaaaaaaaaaaaaaaaaaa9", 40},
        };
        for (Object[] one : cases) {
            PlannedPages x = new PlannedPages();
            Due.type(x, (String) one[0]);
            due.is("firstError of " + one[0], x.firstError(), (Integer) one[1]);
            due.is("buffer kept " + one[0], x.clearBuffer(), ((String) one[0]).length());
        }
    }

    private static void undo() {
        PlannedPages x = new PlannedPages();
        due.refused("undo of a new object", x, IllegalStateException.class, x::undo);
        long fresh = x.digest();
        Due.extend(x, "aBcd");
        long planned = x.digest();
        x.go(4);
        Due.type(x, "xy");
        due.is("undo go", x.undo(), 1);
        due.is("undo leaves the buffer", x.clearBuffer(), 2);
        due.is("as before go", x.digest(), planned);
        due.same("counts", Due.countRow(x), "4 0 3 0 0 0 0 0 0 1");
        due.is("undo extend", x.undo(), 0);
        due.is("as new", x.digest(), fresh);
        due.refused("undo with none left", x, IllegalStateException.class, x::undo);
        // Each undoable method saves; a call that throws, a look or a buffer call does not.
        Due.extend(x, "aB");
        x.insert(2, 2, false);
        x.drop(0);
        x.exchange(0, 1);
        due.is("saved so far", x.count(9), 4);
        x.pin(0);
        x.frames(2);
        due.is("six saved", x.count(9), 6);
        x.undo();
        due.is("frames undone", x.count(2), 3);
        x.undo();
        due.is("pin undone", x.count(4), 0);
        x.undo();
        due.same("exchange undone", Due.plan(x), "|Bc");
        x.undo();
        due.same("drop undone", Due.plan(x), "|aBc");
        x.undo();
        due.same("insert undone", Due.plan(x), "|aB");
        x.flush();
        due.is("flush saves", x.count(9), 2);
    }

    private static void undoAtTheLimit() {
        PlannedPages x = new PlannedPages();
        for (int i = 1; i <= 6; i++) {
            x.insert(0, i, false);
            due.is("saved " + i, x.count(9), i);
        }
        x.insert(0, 7, false);
        x.insert(0, 0, true);
        due.is("no more than six are saved", x.count(9), 6);
        for (int left = 5; left >= 0; left--) {
            due.is("undo, left " + left, x.undo(), left);
        }
        due.same("the two oldest were dropped", Due.plan(x), "|cb");
        due.refused("undo then", x, IllegalStateException.class, x::undo);
        x.insert(0, 3, false);
        due.is("a state is saved again", x.count(9), 1);
        due.is("and restored", x.undo(), 0);
        due.same("as it was", Due.plan(x), "|cb");
    }
}
