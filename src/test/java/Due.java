import java.util.ArrayList;
import java.util.List;
import java.util.function.LongSupplier;
import java.util.function.Supplier;
import java.util.function.ToLongFunction;

/** Counts the answers of one test class, and prints each that is not the one that is due. */
final class Due {
    static final Class<IllegalArgumentException> ARGUMENT = IllegalArgumentException.class;
    static final Class<IllegalStateException> STATE = IllegalStateException.class;
    static final Class<IndexOutOfBoundsException> PLACE = IndexOutOfBoundsException.class;

    private int asked = 0;
    private int wrong = 0;
    private int sentences = 0;
    private String sentence = "";

    /** The sentence of the document that the answers from here on are about. */
    void sentence(String words) {
        sentences++;
        sentence = "\"" + words + "\": ";
    }

    /** What a call answered: a number, or the name of what it threw. */
    static String answer(LongSupplier call) {
        try {
            return String.valueOf(call.getAsLong());
        } catch (RuntimeException e) {
            return e.getClass().getSimpleName();
        }
    }

    void same(String what, String got, String want) {
        asked++;
        if (!got.equals(want)) {
            wrong++;
            System.out.println(sentence + what + " answered " + got + ", due is " + want);
        }
    }

    void is(String what, long got, long want) {
        same(what, String.valueOf(got), String.valueOf(want));
    }

    void is(String what, double got, double want) {
        same(what, String.valueOf(got), String.valueOf(want));
    }

    /** A call that throws changes nothing: the digest, the saved states and the buffer stay. */
    void refused(String what, PlannedPages pages, Class<? extends RuntimeException> want, LongSupplier call) {
        long before = pages.digest();
        same(what, answer(call), want.getSimpleName());
        is(what + ", digest behind it", pages.digest(), before);
    }

    /** A call that throws changes nothing: the object goes on like its twin that was not called. */
    void refuses(String what, Supplier<PlannedPages> made, Class<? extends RuntimeException> want,
            ToLongFunction<PlannedPages> call) {
        PlannedPages called = made.get();
        PlannedPages twin = made.get();
        same(what, answer(() -> call.applyAsLong(called)), want.getSimpleName());
        same(what + ", behind it", story(called), story(twin));
    }

    /** All that can still be seen of an object: now, behind each undo, and of its buffer; the object is used up. */
    static String story(PlannedPages pages) {
        StringBuilder text = new StringBuilder(countRow(pages));
        text.append(' ').append(plan(pages)).append(' ').append(frames(pages));
        text.append(" digests ").append(pages.digest());
        for (int left = pages.count(9); left > 0; left--) {
            text.append(" undo ").append(pages.undo()).append(' ').append(pages.digest());
        }
        text.append(" buffer ").append(pages.firstError()).append(' ').append(pages.clearBuffer());
        return text.toString();
    }

    void end(String name) {
        String told = sentences == 0 ? "" : sentences + " sentences, ";
        System.out.println(name + ": " + told + asked + " answers, " + wrong + " wrong");
        if (wrong != 0) {
            System.exit(1);
        }
    }

    static void type(PlannedPages pages, String text) {
        for (int i = 0; i < text.length(); i++) {
            pages.append(text.charAt(i));
        }
    }

    /** A new object with this plan, nothing of it done. */
    static PlannedPages planned(String text) {
        PlannedPages pages = new PlannedPages();
        extend(pages, text);
        return pages;
    }

    static void extend(PlannedPages pages, String text) {
        type(pages, text);
        pages.extend();
    }

    /** A new object with this in its buffer. */
    static PlannedPages typed(String text) {
        PlannedPages pages = new PlannedPages();
        type(pages, text);
        return pages;
    }

    /** A new object with so many frames and this plan, nothing of it done. */
    static PlannedPages planned(int frames, String text) {
        PlannedPages pages = new PlannedPages();
        pages.frames(frames);
        extend(pages, text);
        return pages;
    }

    /** An object with some of everything: done asks and asks to come, pins, changed pages, a buffer, six saved states. */
    static PlannedPages busy() {
        PlannedPages pages = planned(4, "aBcdEaBcFgH2abe");
        pages.pin(2);
        pages.go(6);
        pages.flush();
        pages.insert(8, 5, true);
        pages.go(1);
        pages.exchange(7, 9);
        pages.drop(10);
        type(pages, "aB3z");
        return pages;
    }

    /** A plan of 80 asks, so many of them done: a9 b9 c9 d9 e9 f9 g9 h9 a7 B. */
    static PlannedPages full(int done) {
        PlannedPages pages = planned("a9b9c9d9e9f9g9h9a7B");
        if (done > 0) {
            pages.go(done);
        }
        return pages;
    }

    /** One frame, a plan of reads and then hits, all done. */
    static PlannedPages hitsBehindReads(int hits, int reads) {
        PlannedPages pages = new PlannedPages();
        pages.frames(1);
        for (int i = 0; i < reads + hits; i++) {
            pages.append('a' + Math.min(i, reads - 1) % 2);
            if (i % 40 == 39 || i == reads + hits - 1) {
                pages.extend();
            }
        }
        pages.go(80);
        return pages;
    }

    /** The plan as letters, "|" before the first ask to come. */
    static String plan(PlannedPages pages) {
        StringBuilder text = new StringBuilder();
        for (int i = 0; i < pages.count(0); i++) {
            if (i == pages.count(1)) {
                text.append('|');
            }
            text.append((char) ((pages.ask(i, 1) == 1 ? 'A' : 'a') + pages.ask(i, 0)));
        }
        if (pages.count(0) == pages.count(1)) {
            text.append('|');
        }
        return text.toString();
    }

    /** What is in the frames: letters, capital if changed, "!" behind a pinned one, "." for an empty frame. */
    static String frames(PlannedPages pages) {
        StringBuilder text = new StringBuilder();
        for (int i = 0; i < pages.count(2); i++) {
            int page = pages.frame(i);
            if (page == PlannedPages.NONE) {
                text.append('.');
                continue;
            }
            text.append((char) ((pages.page(page, 1) == 1 ? 'A' : 'a') + page));
            if (pages.page(page, 2) == 1) {
                text.append('!');
            }
        }
        return text.toString();
    }

    /** One property of all asks, or of all pages, in a row. */
    static String askRow(PlannedPages pages, int what) {
        StringBuilder text = new StringBuilder();
        for (int i = 0; i < pages.count(0); i++) {
            text.append(i == 0 ? "" : " ").append(pages.ask(i, what));
        }
        return text.toString();
    }

    static String pageRow(PlannedPages pages, int what) {
        StringBuilder text = new StringBuilder();
        for (int i = 0; i < 8; i++) {
            text.append(i == 0 ? "" : " ").append(pages.page(i, what));
        }
        return text.toString();
    }

    static String countRow(PlannedPages pages) {
        StringBuilder text = new StringBuilder();
        for (int i = 0; i < 10; i++) {
            text.append(i == 0 ? "" : " ").append(pages.count(i));
        }
        return text.toString();
    }

    /** The list of promise 25, written out once more by the looks of the face. */
    static long digestOf(PlannedPages x, String buffer) {
        List<Long> values = new ArrayList<>();
        for (int what = 0; what <= 9; what++) {
            values.add((long) x.count(what));
        }
        int asks = x.count(0);
        for (int place = 0; place < asks; place++) {
            for (int what = 0; what <= 3; what++) {
                values.add((long) x.ask(place, what));
            }
        }
        for (int page = 0; page <= 7; page++) {
            for (int what = 0; what <= 7; what++) {
                values.add((long) x.page(page, what));
            }
        }
        int frames = x.count(2);
        for (int frame = 0; frame < frames; frame++) {
            values.add((long) x.frame(frame));
        }
        values.add((long) x.victim());
        for (int rule = 0; rule <= 2; rule++) {
            for (int what = 0; what <= 2; what++) {
                values.add((long) x.byRule(rule, what));
            }
        }
        values.add((long) x.fewestReads());
        values.add((long) x.framesFor(5));
        values.add((long) x.framesFor(10));
        int done = x.count(1);
        if (done < asks) {
            values.add((long) x.ifDropped(done));
        }
        values.add((long) x.bestPin());
        values.add(Double.doubleToLongBits(x.hitShare()));
        values.add((long) buffer.length());
        for (char code : buffer.toCharArray()) {
            values.add((long) code);
        }
        long hash = 3001;
        for (long value : values) {
            hash = 31 * hash + value;
        }
        return hash;
    }
}
