import java.util.function.LongSupplier;

/** All promises: long runs of calls, each answer held against SlowPages, behind each change the digest, too. */
public final class RunsTest {
    private static final int RUNS = 300;
    private static final int CALLS = 500;
    private static final Due due = new Due();

    private final int run;
    private final PlannedPages fast = new PlannedPages();
    private final SlowPages slow = new SlowPages();
    private final StringBuilder story = new StringBuilder();
    private long seed;
    private int calls = 0;
    private boolean differed = false;

    private RunsTest(int run) {
        this.run = run;
        this.seed = run * 7919L + 17;
    }

    public static void main(String[] args) {
        for (int run = 0; run < RUNS; run++) {
            new RunsTest(run).play();
        }
        due.end("RunsTest");
    }

    // The same numbers each time: a failure can be looked at again.
    private int pick(int below) {
        seed = seed * 6364136223846793005L + 1442695040888963407L;
        return (int) ((seed >>> 33) % below);
    }

    // Mostly a number in range, at times one at or beyond an edge.
    private int near(int from, int to) {
        int kind = pick(12);
        if (kind == 0) {
            return from - 1;
        }
        if (kind == 1) {
            return to + 1;
        }
        if (kind == 2 && pick(4) == 0) {
            return pick(2) == 0 ? Integer.MIN_VALUE : Integer.MAX_VALUE;
        }
        return to < from ? from : from + pick(to - from + 1);
    }

    private void both(String call, LongSupplier got, LongSupplier want) {
        calls++;
        String have = Due.answer(got);
        String should = Due.answer(want);
        story.append(call).append(" = ").append(should).append('\n');
        due.same("run " + run + ": " + call, have, should);
        if (!have.equals(should) && !differed) {
            differed = true;
            System.out.println("the calls before:\n" + story);
        }
    }

    private void play() {
        while (calls < CALLS && !differed) {
            int kind = pick(10);
            if (kind < 4) {
                type();
            } else if (kind < 8) {
                change();
                both("digest()", fast::digest, slow::digest);
            } else {
                look();
            }
        }
    }

    private void type() {
        int most = pick(3) == 0 ? 3 : 1 + run % 5;
        for (int i = pick(most + 1); i >= 0; i--) {
            int code = nextCode();
            both("append(" + code + ")", () -> fast.append(code), () -> slow.append(code));
        }
        both("firstError()", fast::firstError, slow::firstError);
        if (pick(9) == 0) {
            both("clearBuffer()", fast::clearBuffer, slow::clearBuffer);
        }
        both("extend()", fast::extend, slow::extend);
        if (pick(3) == 0) {
            both("clearBuffer()", fast::clearBuffer, slow::clearBuffer);
        }
    }

    private int nextCode() {
        int kind = pick(30);
        if (kind == 0) {
            return near(33, 126);
        }
        if (kind < 6 + run % 7) {
            return '1' + pick(9);
        }
        int pages = 1 + (run + kind) % 8;
        return (pick(3) == 0 ? 'A' : 'a') + pick(pages);
    }

    private void change() {
        int size = slow.count(0);
        int done = slow.count(1);
        switch (pick(9)) {
            case 0: {
                int place = near(done, size);
                int page = near(0, 7);
                boolean write = pick(2) == 0;
                both("insert(" + place + ", " + page + ", " + write + ")",
                        () -> fast.insert(place, page, write), () -> slow.insert(place, page, write));
                break;
            }
            case 1: {
                int place = near(done, size - 1);
                both("drop(" + place + ")", () -> fast.drop(place), () -> slow.drop(place));
                break;
            }
            case 2: {
                int one = near(done, size - 1);
                int other = near(done, size - 1);
                both("exchange(" + one + ", " + other + ")",
                        () -> fast.exchange(one, other), () -> slow.exchange(one, other));
                break;
            }
            case 3:
            case 4: {
                int asks = pick(4) == 0 ? near(1, 80) : 1 + pick(4);
                both("go(" + asks + ")", () -> fast.go(asks), () -> slow.go(asks));
                break;
            }
            case 5: {
                int page = near(0, 7);
                both("pin(" + page + ")", () -> fast.pin(page), () -> slow.pin(page));
                break;
            }
            case 6: {
                int frames = near(1, 6);
                both("frames(" + frames + ")", () -> fast.frames(frames), () -> slow.frames(frames));
                break;
            }
            case 7:
                both("flush()", fast::flush, slow::flush);
                break;
            default:
                for (int i = pick(pick(5) == 0 ? 8 : 2); i >= 0; i--) {
                    both("undo()", fast::undo, slow::undo);
                }
        }
    }

    private void look() {
        int size = slow.count(0);
        int done = slow.count(1);
        int what = near(0, 7);
        switch (pick(10)) {
            case 0: {
                int place = near(0, size - 1);
                both("ask(" + place + ", " + what + ")", () -> fast.ask(place, what), () -> slow.ask(place, what));
                break;
            }
            case 1: {
                int page = near(0, 7);
                both("page(" + page + ", " + what + ")", () -> fast.page(page, what), () -> slow.page(page, what));
                break;
            }
            case 2: {
                int frame = near(0, 5);
                both("frame(" + frame + ")", () -> fast.frame(frame), () -> slow.frame(frame));
                break;
            }
            case 3: {
                int number = near(0, 9);
                both("count(" + number + ")", () -> fast.count(number), () -> slow.count(number));
                break;
            }
            case 4:
                both("victim()", fast::victim, slow::victim);
                break;
            case 5: {
                int rule = near(0, 2);
                int number = near(0, 2);
                both("byRule(" + rule + ", " + number + ")",
                        () -> fast.byRule(rule, number), () -> slow.byRule(rule, number));
                break;
            }
            case 6:
                both("fewestReads()", fast::fewestReads, slow::fewestReads);
                break;
            case 7: {
                int reads = near(0, 20);
                both("framesFor(" + reads + ")", () -> fast.framesFor(reads), () -> slow.framesFor(reads));
                break;
            }
            case 8: {
                int place = near(done, size - 1);
                both("ifDropped(" + place + ")", () -> fast.ifDropped(place), () -> slow.ifDropped(place));
                break;
            }
            default:
                both("bestPin()", fast::bestPin, slow::bestPin);
                both("hitShare()", () -> Double.doubleToLongBits(fast.hitShare()),
                        () -> Double.doubleToLongBits(slow.hitShare()));
        }
    }
}
