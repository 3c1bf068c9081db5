import java.util.ArrayDeque;
import java.util.ArrayList;
import java.util.Deque;
import java.util.HashMap;
import java.util.List;
import java.util.Map;
import java.util.TreeSet;

/** The document once more, slowly and with the Java library, to hold the program against. */
final class SlowPages {
    private static final class Ask {
        final int page;
        final boolean write;
        int brought = -1;
        int victim = -1;

        Ask(int page, boolean write) {
            this.page = page;
            this.write = write;
        }

        Ask copy() {
            Ask ask = new Ask(page, write);
            ask.brought = brought;
            ask.victim = victim;
            return ask;
        }
    }

    private static final class World {
        List<Ask> plan = new ArrayList<>();
        int done = 0;
        List<Integer> frames = new ArrayList<>(List.of(-1, -1, -1));
        TreeSet<Integer> changed = new TreeSet<>();
        TreeSet<Integer> pinned = new TreeSet<>();
        int[] reads = new int[8];
        int[] written = new int[8];

        World copy() {
            World world = new World();
            for (Ask ask : plan) {
                world.plan.add(ask.copy());
            }
            world.done = done;
            world.frames = new ArrayList<>(frames);
            world.changed = new TreeSet<>(changed);
            world.pinned = new TreeSet<>(pinned);
            world.reads = reads.clone();
            world.written = written.clone();
            return world;
        }

        int nextUse(int page, int from) {
            for (int i = from; i < plan.size(); i++) {
                if (plan.get(i).page == page) {
                    return i;
                }
            }
            return 80;
        }

        int latest(int page, boolean read) {
            for (int i = done - 1; i >= 0; i--) {
                if (plan.get(i).page == page && (!read || plan.get(i).brought > 0)) {
                    return i;
                }
            }
            return -1;
        }

        int choose(int rule, int from) {
            int best = -1;
            for (int page : new TreeSet<>(frames)) {
                if (page < 0 || pinned.contains(page)) {
                    continue;
                }
                boolean better = best < 0;
                if (!better && rule == 0) {
                    better = nextUse(page, from) > nextUse(best, from);
                }
                if (!better && rule > 0) {
                    better = latest(page, rule == 2) < latest(best, rule == 2);
                }
                if (better) {
                    best = page;
                }
            }
            return best;
        }

        void putOut(int page) {
            if (changed.remove(page)) {
                written[page]++;
            }
            frames.set(frames.indexOf(page), -1);
        }

        void step(int rule) {
            Ask ask = plan.get(done);
            ask.brought = 0;
            if (!frames.contains(ask.page)) {
                ask.brought = 1;
                int frame = frames.indexOf(-1);
                if (frame < 0) {
                    ask.victim = choose(rule, done + 1);
                    ask.brought = changed.contains(ask.victim) ? 3 : 2;
                    frame = frames.indexOf(ask.victim);
                    putOut(ask.victim);
                }
                frames.set(frame, ask.page);
                reads[ask.page]++;
            }
            if (ask.write) {
                changed.add(ask.page);
            }
            done++;
        }

        World end(int rule) {
            World world = copy();
            while (world.done < world.plan.size()) {
                world.step(rule);
            }
            return world;
        }

        int readsToEnd() {
            return sum(end(0).reads) - sum(reads);
        }
    }

    private World now = new World();
    private final Deque<World> saved = new ArrayDeque<>();
    private String buffer = "";

    private static int sum(int[] row) {
        int sum = 0;
        for (int one : row) {
            sum += one;
        }
        return sum;
    }

    private void save() {
        saved.addLast(now.copy());
        if (saved.size() > 6) {
            saved.removeFirst();
        }
    }

    private void toCome(int place) {
        if (place < now.done || place >= now.plan.size()) {
            throw new IndexOutOfBoundsException();
        }
    }

    private static void argument(boolean good) {
        if (!good) {
            throw new IllegalArgumentException();
        }
    }

    private static void state(boolean good) {
        if (!good) {
            throw new IllegalStateException();
        }
    }

    int extend() {
        argument(buffer.matches("([a-hA-H][2-9]?)+"));
        List<Ask> more = new ArrayList<>();
        for (char c : buffer.toCharArray()) {
            if (Character.isDigit(c)) {
                Ask last = more.get(more.size() - 1);
                for (int i = 1; i < c - '0'; i++) {
                    more.add(last.copy());
                }
            } else {
                more.add(new Ask(Character.toLowerCase(c) - 'a', Character.isUpperCase(c)));
            }
        }
        state(now.plan.size() + more.size() <= 80);
        save();
        now.plan.addAll(more);
        buffer = "";
        return now.plan.size();
    }

    int insert(int place, int page, boolean write) {
        if (place != now.plan.size()) {
            toCome(place);
        }
        argument(page >= 0 && page < 8);
        state(now.plan.size() < 80);
        save();
        now.plan.add(place, new Ask(page, write));
        return now.plan.size() - now.done;
    }

    int drop(int place) {
        toCome(place);
        save();
        return now.plan.remove(place).page;
    }

    int exchange(int one, int other) {
        toCome(one);
        toCome(other);
        save();
        java.util.Collections.swap(now.plan, one, other);
        return now.plan.get(one).page;
    }

    int go(int asks) {
        argument(asks >= 1 && asks <= 80);
        save();
        int before = sum(now.reads);
        for (int i = 0; i < asks && now.done < now.plan.size(); i++) {
            now.step(0);
        }
        return sum(now.reads) - before;
    }

    int pin(int page) {
        argument(page >= 0 && page < 8);
        state(now.pinned.contains(page) || now.pinned.size() < now.frames.size() - 1);
        save();
        if (!now.pinned.remove(page)) {
            now.pinned.add(page);
        }
        return now.pinned.size();
    }

    int frames(int frames) {
        argument(frames >= 1 && frames <= 6);
        state(now.pinned.size() <= frames - 1);
        save();
        int gone = 0;
        while (count(3) > frames) {
            now.putOut(now.choose(0, now.done));
            gone++;
        }
        if (frames < now.frames.size()) {
            now.frames.removeIf(page -> page < 0);
        }
        while (now.frames.size() < frames) {
            now.frames.add(-1);
        }
        return gone;
    }

    int flush() {
        save();
        int changed = now.changed.size();
        for (int page : now.changed) {
            now.written[page]++;
        }
        now.changed.clear();
        return changed;
    }

    int append(int code) {
        argument(code >= 33 && code <= 126);
        state(buffer.length() < 40);
        buffer += (char) code;
        return buffer.length();
    }

    int clearBuffer() {
        int length = buffer.length();
        buffer = "";
        return length;
    }

    int firstError() {
        int length = 0;
        while (length < buffer.length() && buffer.substring(0, length + 1).matches("([a-hA-H][2-9]?)+")) {
            length++;
        }
        return length;
    }

    int undo() {
        state(!saved.isEmpty());
        now = saved.removeLast();
        return saved.size();
    }

    int ask(int place, int what) {
        if (place < 0 || place >= now.plan.size()) {
            throw new IndexOutOfBoundsException();
        }
        argument(what >= 0 && what <= 3);
        Ask ask = now.plan.get(place);
        return new int[] {ask.page, ask.write ? 1 : 0, ask.brought, ask.victim}[what];
    }

    int page(int page, int what) {
        argument(page >= 0 && page < 8 && what >= 0 && what < 8);
        int toCome = 0;
        for (int i = now.done; i < now.plan.size(); i++) {
            toCome += now.plan.get(i).page == page ? 1 : 0;
        }
        return new int[] {now.frames.indexOf(page), now.changed.contains(page) ? 1 : 0,
            now.pinned.contains(page) ? 1 : 0, now.nextUse(page, now.done), now.latest(page, false),
            now.reads[page], now.written[page], toCome}[what];
    }

    int frame(int frame) {
        if (frame < 0 || frame >= now.frames.size()) {
            throw new IndexOutOfBoundsException();
        }
        return now.frames.get(frame);
    }

    int count(int what) {
        argument(what >= 0 && what <= 9);
        int full = 0;
        for (int page : now.frames) {
            full += page < 0 ? 0 : 1;
        }
        int hits = 0;
        for (Ask ask : now.plan) {
            hits += ask.brought == 0 ? 1 : 0;
        }
        return new int[] {now.plan.size(), now.done, now.frames.size(), full, now.pinned.size(), hits,
            sum(now.reads), sum(now.written), now.changed.size(), saved.size()}[what];
    }

    int victim() {
        return now.frames.contains(-1) || now.done == now.plan.size() ? -1 : now.choose(0, now.done + 1);
    }

    int byRule(int rule, int what) {
        argument(rule >= 0 && rule <= 2 && what >= 0 && what <= 2);
        World end = now.end(rule);
        if (what < 2) {
            return what == 0 ? sum(end.reads) - sum(now.reads) : sum(end.written) - sum(now.written);
        }
        for (int i = now.done; i < end.plan.size(); i++) {
            if (end.plan.get(i).brought > 0) {
                return i;
            }
        }
        return -1;
    }

    /** Tries every choice of victims: the least reads from each set of pages in frames that can come about. */
    int fewestReads() {
        int first = 0;
        for (int page : now.frames) {
            first |= page < 0 ? 0 : 1 << page;
        }
        Map<Integer, Integer> least = new HashMap<>();
        least.put(first, 0);
        for (int i = now.done; i < now.plan.size(); i++) {
            int page = now.plan.get(i).page;
            Map<Integer, Integer> then = new HashMap<>();
            for (Map.Entry<Integer, Integer> one : least.entrySet()) {
                int in = one.getKey();
                if ((in >> page & 1) == 1) {
                    then.merge(in, one.getValue(), Math::min);
                } else if (Integer.bitCount(in) < now.frames.size()) {
                    then.merge(in | 1 << page, one.getValue() + 1, Math::min);
                } else {
                    for (int out = 0; out < 8; out++) {
                        if ((in >> out & 1) == 1 && !now.pinned.contains(out)) {
                            then.merge((in | 1 << page) & ~(1 << out), one.getValue() + 1, Math::min);
                        }
                    }
                }
            }
            least = then;
        }
        return java.util.Collections.min(least.values());
    }

    int framesFor(int reads) {
        argument(reads >= 0);
        World more = now.copy();
        while (more.readsToEnd() > reads) {
            if (more.frames.size() == 6) {
                return -1;
            }
            more.frames.add(-1);
        }
        return more.frames.size();
    }

    int ifDropped(int place) {
        toCome(place);
        World without = now.copy();
        without.plan.remove(place);
        return without.readsToEnd();
    }

    int bestPin() {
        if (now.pinned.size() >= now.frames.size() - 1) {
            return -1;
        }
        int best = -1;
        int fewest = Integer.MAX_VALUE;
        for (int page = 0; page < 8; page++) {
            World with = now.copy();
            if (with.pinned.add(page) && with.readsToEnd() < fewest) {
                best = page;
                fewest = with.readsToEnd();
            }
        }
        return best;
    }

    double hitShare() {
        return now.done == 0 ? 1.0 : (double) count(5) / now.done;
    }

    long digest() {
        long hash = 3001;
        for (long value : digestValues()) {
            hash = 31 * hash + value;
        }
        return hash;
    }

    List<Long> digestValues() {
        List<Long> values = new ArrayList<>();
        for (int what = 0; what <= 9; what++) {
            values.add((long) count(what));
        }
        for (int place = 0; place < now.plan.size(); place++) {
            for (int what = 0; what <= 3; what++) {
                values.add((long) ask(place, what));
            }
        }
        for (int page = 0; page <= 7; page++) {
            for (int what = 0; what <= 7; what++) {
                values.add((long) page(page, what));
            }
        }
        for (int page : now.frames) {
            values.add((long) page);
        }
        values.add((long) victim());
        for (int rule = 0; rule <= 2; rule++) {
            for (int what = 0; what <= 2; what++) {
                values.add((long) byRule(rule, what));
            }
        }
        values.add((long) fewestReads());
        values.add((long) framesFor(5));
        values.add((long) framesFor(10));
        if (now.done < now.plan.size()) {
            values.add((long) ifDropped(now.done));
        }
        values.add((long) bestPin());
        values.add(Double.doubleToLongBits(hitShare()));
        values.add((long) buffer.length());
        for (char code : buffer.toCharArray()) {
            values.add((long) code);
        }
        return values;
    }
}
