import java.util.function.LongSupplier;

/** Counts the answers of one test class, and prints each that is not the one that is due. */
final class Due {
    private int asked = 0;
    private int wrong = 0;

    /** What a call answered: a number, or the name of what it threw. */
    static String answer(LongSupplier call) {
        try {
            return String.valueOf(call.getAsLong());
        } catch (RuntimeException e) {
            return e.getClass().getSimpleName();
        }
    }

    void same(String what, String got, String want) {
        asked++;
        if (!got.equals(want)) {
            wrong++;
            System.out.println(what + " answered " + got + ", due is " + want);
        }
    }

    void is(String what, long got, long want) {
        same(what, String.valueOf(got), String.valueOf(want));
    }

    void is(String what, double got, double want) {
        same(what, String.valueOf(got), String.valueOf(want));
    }

    /** A call that throws changes nothing: the digest, the saved states and the buffer stay. */
    void refused(String what, PlannedPages pages, Class<? extends RuntimeException> want, LongSupplier call) {
        long before = pages.digest();
        same(what, answer(call), want.getSimpleName());
        is(what + ", digest behind it", pages.digest(), before);
    }

    void end(String name) {
        System.out.println(name + ": " + asked + " answers, " + wrong + " wrong");
        if (wrong != 0) {
            System.exit(1);
        }
    }

    static void type(PlannedPages pages, String text) {
        for (int i = 0; i < text.length(); i++) {
            pages.append(text.charAt(i));
        }
    }

    /** A new object with this plan, nothing of it done. */
    static PlannedPages planned(String text) {
        PlannedPages pages = new PlannedPages();
        extend(pages, text);
        return pages;
    }

    static void extend(PlannedPages pages, String text) {
        type(pages, text);
        pages.extend();
    }

    /** The plan as letters, "|" before the first ask to come. */
    static String plan(PlannedPages pages) {
        StringBuilder text = new StringBuilder();
        for (int i = 0; i < pages.count(0); i++) {
            if (i == pages.count(1)) {
                text.append('|');
            }
            text.append((char) ((pages.ask(i, 1) == 1 ? 'A' : 'a') + pages.ask(i, 0)));
        }
        if (pages.count(0) == pages.count(1)) {
            text.append('|');
        }
        return text.toString();
    }

    /** What is in the frames: letters, capital if changed, "!" behind a pinned one, "." for an empty frame. */
    static String frames(PlannedPages pages) {
        StringBuilder text = new StringBuilder();
        for (int i = 0; i < pages.count(2); i++) {
            int page = pages.frame(i);
            if (page == PlannedPages.NONE) {
                text.append('.');
                continue;
            }
            text.append((char) ((pages.page(page, 1) == 1 ? 'A' : 'a') + page));
            if (pages.page(page, 2) == 1) {
                text.append('!');
            }
        }
        return text.toString();
    }

    /** One property of all asks, or of all pages, in a row. */
    static String askRow(PlannedPages pages, int what) {
        StringBuilder text = new StringBuilder();
        for (int i = 0; i < pages.count(0); i++) {
            text.append(i == 0 ? "" : " ").append(pages.ask(i, what));
        }
        return text.toString();
    }

    static String pageRow(PlannedPages pages, int what) {
        StringBuilder text = new StringBuilder();
        for (int i = 0; i < 8; i++) {
            text.append(i == 0 ? "" : " ").append(pages.page(i, what));
        }
        return text.toString();
    }

    static String countRow(PlannedPages pages) {
        StringBuilder text = new StringBuilder();
        for (int i = 0; i < 10; i++) {
            text.append(i == 0 ? "" : " ").append(pages.count(i));
        }
        return text.toString();
    }
}
