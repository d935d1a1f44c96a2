import java.util.ArrayList;
import java.util.List;
import java.util.NoSuchElementException;
import java.util.Random;

/** Random runs of calls, on StreamHall and on PlainHall, whose answers must be the same. */
public final class FuzzTest {
    private static final int RUNS = 3000;
    private static final int CALLS = 512;
    /** What an answer that is an exception is written as. */
    private static final long ARGUMENT = Long.MIN_VALUE + 1;
    private static final long STATE = Long.MIN_VALUE + 2;
    private static final long ELEMENT = Long.MIN_VALUE + 3;
    private static final long FOREIGN = Long.MIN_VALUE + 4;

    private final Random random;
    private final StreamHall hall = new StreamHall();
    private final PlainHall plain = new PlainHall();
    private final StringBuilder story = new StringBuilder();
    private final int tame;
    /** In a busy run most calls are of streams that were opened and of frames that are on the line. */
    private final boolean busy;
    /** In a crowded run side 0 opens as many streams of BOTH ways as there can be. */
    private final boolean crowded;
    private final List<Integer> opened = new ArrayList<>();
    private final List<Integer> laid = new ArrayList<>();
    private final int[] kinds = {4, 5, 8, 8, 8, 16, 17, 17, 18, 19, 20, 21, 22, 23};

    private FuzzTest(long seed) {
        random = new Random(seed);
        tame = random.nextInt(4);
        busy = random.nextInt(2) == 0;
        crowded = random.nextInt(8) == 0;
    }

    public static void main(String[] args) {
        for (int seed = 0; seed < RUNS; seed++) {
            String fault = new FuzzTest(seed).run();
            if (fault != null) {
                System.out.println("FuzzTest, seed " + seed + ":\n" + fault);
                System.exit(1);
            }
        }
        System.out.println("FuzzTest: " + RUNS + " runs are as due");
    }

    private String run() {
        int calls = 0;
        if (crowded) {
            calls++;
            hall.grant(1, 8, 64);
            plain.grant(1, 8, 64);
        }
        int grants = random.nextInt(8);
        for (int i = 0; i < grants; i++) {
            calls++;
            if (!same(1, side(), 4 + random.nextInt(6), grantSize(), 0, 0)) {
                return story.toString();
            }
        }
        while (calls < CALLS) {
            calls++;
            if (!step(calls)) {
                return story.toString();
            }
        }
        return sameInside() ? null : story.toString();
    }

    private int grantSize() {
        switch (random.nextInt(4)) {
            case 0: return random.nextInt(70);
            case 1: return random.nextInt(20);
            case 2: return 64 + random.nextInt(3);
            default: return random.nextInt(66000);
        }
    }

    private boolean step(int calls) {
        int which = random.nextInt(100);
        if (calls < 20 && random.nextInt(8) == 0) {
            return same(2, 0, 0, 0, 0, 0);
        }
        if (crowded && random.nextInt(4) == 0) {
            return same(4, 0, 1, 0, 0, 0);
        }
        if (which < 14) {
            return same(3, random.nextInt(30) == 0 ? random.nextInt(20) - 5 : 1 + random.nextInt(8),
                random.nextLong(), 0, 0, 0);
        }
        if (which < 20) {
            return same(4, side(), random.nextInt(2), 0, 0, 0);
        }
        if (which < 30) {
            return same(5, side(), id(), 0, 0, 0);
        }
        if (which < 34) {
            return same(6, side(), id(), 0, 0, 0);
        }
        if (which < 36) {
            return same(7, side(), id(), code(), 0, 0);
        }
        if (which < 38) {
            return same(8, side(), id(), code(), 0, 0);
        }
        if (which < 47) {
            return same(9, side(), id(), random.nextInt(20) == 0 ? random.nextInt(2100) - 20 : random.nextInt(40), 0, 0);
        }
        if (which < 62) {
            return same(10, side(), random.nextInt(30) == 0 ? random.nextInt(1300) - 20 : 1 + random.nextInt(30), 0, 0, 0);
        }
        if (which < 73) {
            return same(11, place(), 0, 0, 0, 0);
        }
        if (which < 82) {
            return same(12, place(), random.nextInt(2), 0, 0, 0);
        }
        if (which < 82 + 3 * tame) {
            return takeSomething();
        }
        return ask();
    }

    private boolean takeSomething() {
        int kind = random.nextInt(50) == 0 ? random.nextInt(26) : kinds[random.nextInt(kinds.length)];
        long a = kind >= 4 && kind <= 8 || kind == 17 || kind == 21 ? id() : number();
        long b = kind == 4 || kind == 5 ? code() : number();
        long c = kind == 8 ? random.nextInt(20) / 19 + random.nextInt(2) : number();
        return same(13, side(), kind, a, b, c);
    }

    private boolean ask() {
        switch (random.nextInt(5)) {
            case 0: return same(14, place(), random.nextInt(9) - 1, 0, 0, 0);
            case 1: return same(15, place(), random.nextInt(12) - 1, 0, 0, 0);
            case 2: return same(16, random.nextInt(12) - 1, 0, 0, 0, 0);
            case 3: return same(17, side(), id(), random.nextInt(17) - 1, 0, 0);
            default: return same(18, side(), random.nextInt(16) - 1, 0, 0, 0);
        }
    }

    private int side() {
        return random.nextInt(60) == 0 ? random.nextInt(5) - 2 : random.nextInt(2);
    }

    private int id() {
        if (busy && !opened.isEmpty() && random.nextInt(8) != 0) {
            return opened.get(random.nextInt(opened.size()));
        }
        switch (random.nextInt(20)) {
            case 0: return random.nextInt(300) - 20;
            case 1: return random.nextInt(30);
            default: return random.nextInt(10);
        }
    }

    private int place() {
        if (busy && !laid.isEmpty() && random.nextInt(8) != 0) {
            return laid.get(random.nextInt(laid.size()));
        }
        return random.nextInt(30) == 0 ? random.nextInt(70) - 3 : random.nextInt(12);
    }

    private long code() {
        return random.nextInt(20) == 0 ? random.nextLong() : number();
    }

    private long number() {
        switch (random.nextInt(10)) {
            case 0: return random.nextLong() >>> 2;
            case 1: return PlainHall.TOP + random.nextInt(2);
            case 2: return random.nextInt(70000);
            case 3: return 60 + random.nextInt(8);
            case 4: return 4611686018427380000L + random.nextInt(2);
            case 5: return random.nextInt(3000);
            default: return random.nextInt(40);
        }
    }

    private boolean same(int call, long p, long q, long r, long s, long t) {
        long got;
        try {
            got = ofHall(call, (int) p, q, r, s, t);
        } catch (IllegalArgumentException e) {
            got = ARGUMENT;
        } catch (IllegalStateException e) {
            got = STATE;
        } catch (NoSuchElementException e) {
            got = ELEMENT;
        } catch (RuntimeException e) {
            story.append("threw ").append(e).append('\n');
            got = FOREIGN;
        }
        long due;
        try {
            due = ofPlain(call, (int) p, q, r, s, t);
        } catch (IllegalArgumentException e) {
            due = ARGUMENT;
        } catch (IllegalStateException e) {
            due = STATE;
        } catch (NoSuchElementException e) {
            due = ELEMENT;
        }
        story.append(call).append('(').append(p).append(", ").append(q).append(", ").append(r).append(", ")
            .append(s).append(", ").append(t).append(") ").append(got).append(", due ").append(due).append('\n');
        remember(call, (int) p, got);
        return got == due;
    }

    private void remember(int call, int p, long got) {
        if (call == 4 && got >= 0) {
            opened.add((int) got);
        } else if (call == 10 && got >= 0) {
            laid.add((int) got);
        } else if (call == 12 && got == 0) {
            laid.remove(Integer.valueOf(p));
        }
    }

    private long ofHall(int call, int p, long q, long r, long s, long t) {
        switch (call) {
            case 1: hall.grant(p, (int) q, (int) r); return 0;
            case 2: hall.join(); return 0;
            case 3: return hall.feed(p, q);
            case 4: return hall.open(p, q == 1);
            case 5: return hall.write(p, (int) q);
            case 6: return hall.finish(p, (int) q) ? 1 : 0;
            case 7: return hall.reset(p, (int) q, r) ? 1 : 0;
            case 8: return hall.stop(p, (int) q, r) ? 1 : 0;
            case 9: return hall.read(p, (int) q, (int) r);
            case 10: return hall.fill(p, (int) q);
            case 11: return hall.deliver(p);
            case 12: hall.gone(p, q == 1); return 0;
            case 13: return hall.take(p, (int) q, r, s, t);
            case 14: return hall.line(p, (int) q);
            case 15: return hall.data(p, (int) q);
            case 16: return hall.outs(p);
            case 17: return hall.stream(p, (int) q, (int) r);
            default: return hall.side(p, (int) q);
        }
    }

    private long ofPlain(int call, int p, long q, long r, long s, long t) {
        switch (call) {
            case 1: plain.grant(p, (int) q, (int) r); return 0;
            case 2: plain.join(); return 0;
            case 3: return plain.feed(p, q);
            case 4: return plain.open(p, q == 1);
            case 5: return plain.write(p, (int) q);
            case 6: return plain.finish(p, (int) q) ? 1 : 0;
            case 7: return plain.reset(p, (int) q, r) ? 1 : 0;
            case 8: return plain.stop(p, (int) q, r) ? 1 : 0;
            case 9: return plain.read(p, (int) q, (int) r);
            case 10: return plain.fill(p, (int) q);
            case 11: return plain.deliver(p);
            case 12: plain.gone(p, q == 1); return 0;
            case 13: return plain.take(p, (int) q, r, s, t);
            case 14: return plain.line(p, (int) q);
            case 15: return plain.data(p, (int) q);
            case 16: return plain.outs(p);
            case 17: return plain.stream(p, (int) q, (int) r);
            default: return plain.side(p, (int) q);
        }
    }

    /** Asks for all that can be asked, so that no difference stays unseen at the end of a run. */
    private boolean sameInside() {
        boolean same = true;
        for (int s = 0; s < 2 && same; s++) {
            for (int what = 0; what <= 13 && same; what++) {
                same = same(18, s, what, 0, 0, 0);
            }
            for (int id = 0; id < 256 && same; id++) {
                for (int what = 0; what <= 14 && same; what++) {
                    same = same(17, s, id, what, 0, 0);
                }
            }
        }
        for (int place = 0; place < 64 && same; place++) {
            for (int what = 0; what <= 6 && same; what++) {
                same = same(14, place, what, 0, 0, 0);
            }
            for (int k = 0; k < 30 && same; k++) {
                same = same(15, place, k, 0, 0, 0);
            }
        }
        return same;
    }
}
