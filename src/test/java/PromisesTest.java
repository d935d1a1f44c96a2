import java.util.NoSuchElementException;

/** Each promise of the document: ordinary answers, the edges that it names, and wrong inputs. */
public final class PromisesTest {
    private static final long TOP = 4611686018427387903L;
    private static final Class<?> ARGUMENT = IllegalArgumentException.class;
    private static final Class<?> STATE = IllegalStateException.class;
    private static final Class<?> ELEMENT = NoSuchElementException.class;

    private static int wrong = 0;
    private static String part = "";

    private interface Call {
        long answer();
    }

    public static void main(String[] args) {
        promise1();
        promise2();
        promise3();
        promise4();
        promise5();
        promise6();
        promise7();
        promise8();
        promise9();
        promise10();
        promise10GrantsGrow();
        promise11Sizes();
        promise11Order();
        promise11Blocked();
        promise11Streams();
        promise11Ends();
        promise12();
        promise13Streams();
        promise13Others();
        promise13Over();
        promise14Errors();
        promise14Streams();
        promise14Resets();
        promise14Limits();
        promise15();
        promise16();
        promise17();
        promise18();
        promise19();
        System.out.println(wrong == 0 ? "PromisesTest: all is as due" : "PromisesTest: " + wrong + " faults");
        if (wrong != 0) {
            System.exit(1);
        }
    }

    private static void due(String what, long got, long want) {
        if (got != want) {
            wrong++;
            System.out.println(part + ": " + what + " is " + got + ", due is " + want);
        }
    }

    private static void due(String what, boolean got, boolean want) {
        due(what, got ? 1 : 0, want ? 1 : 0);
    }

    private static void thrown(String what, Class<?> want, Call call) {
        Class<?> got = null;
        try {
            call.answer();
        } catch (RuntimeException e) {
            got = e.getClass();
        }
        if (got != want) {
            wrong++;
            System.out.println(part + ": " + what + " throws " + got + ", due is " + want);
        }
    }

    /** Byte k that fed() feeds is k % 251 + 1. */
    private static void fed(StreamHall h, int n) {
        for (int k = 0; k < n; k++) {
            h.feed(1, k % 251 + 1);
        }
    }

    private static void written(StreamHall h, int side, int id, int n) {
        fed(h, n);
        due("write", h.write(side, id), n);
    }

    private static int taken(StreamHall h, int side, long id, long offset, int n, int end) {
        fed(h, n);
        return h.take(side, 8, id, offset, end);
    }

    private static StreamHall joined() {
        StreamHall h = new StreamHall();
        h.join();
        return h;
    }

    /** Grants 4 to 9 of side 1. */
    private static StreamHall joinedTo(int... grants) {
        StreamHall h = new StreamHall();
        for (int k = 0; k < grants.length; k++) {
            h.grant(1, 4 + k, grants[k]);
        }
        h.join();
        return h;
    }

    private static void frame(StreamHall h, int place, long... want) {
        for (int what = 0; what < want.length; what++) {
            due("line(" + place + ", " + what + ")", h.line(place, what), want[what]);
        }
    }

    private static void send(StreamHall h, int side, int id) {
        int place = h.fill(side, 1200);
        due("kind of the frame sent", h.line(place, 1), 8);
        due("stream of the frame sent", h.line(place, 2), id);
        due("deliver", h.deliver(place), 0);
        h.gone(place, true);
    }

    private static void promise1() {
        part = "1 new";
        StreamHall h = new StreamHall();
        thrown("outs(0)", ELEMENT, () -> h.outs(0));
        for (int place = 0; place < 64; place++) {
            int at = place;
            thrown("line", ELEMENT, () -> h.line(at, 0));
        }
        for (int id = 0; id < 256; id++) {
            due("stream(0, id, 0)", h.stream(0, id, 0), -1);
            due("stream(1, id, 8)", h.stream(1, id, 8), -1);
        }
        due("the tape", h.feed(1, 0), 1);
        thrown("open", STATE, () -> h.open(0, true));
        due("what is granted", h.side(0, 11), 4);
        due("the limit before the join", h.side(0, 1), 0);
        due("the limit of streams before the join", h.side(0, 7), 0);
        due("side(1, 13)", h.side(1, 13), 0);
    }

    private static void promise2() {
        part = "2 grant";
        StreamHall h = new StreamHall();
        thrown("side -1", ARGUMENT, () -> { h.grant(-1, 4, 0); return 0; });
        thrown("side 2", ARGUMENT, () -> { h.grant(2, 4, 0); return 0; });
        thrown("id 3", ARGUMENT, () -> { h.grant(0, 3, 0); return 0; });
        thrown("id 10", ARGUMENT, () -> { h.grant(0, 10, 0); return 0; });
        for (int id = 4; id <= 9; id++) {
            int at = id;
            int top = id < 8 ? 65536 : 64;
            thrown("too little", ARGUMENT, () -> { h.grant(0, at, -1); return 0; });
            thrown("too much", ARGUMENT, () -> { h.grant(0, at, top + 1); return 0; });
            h.grant(0, id, top);
            h.grant(0, id, 0);
            h.grant(0, id, top - id);
        }
        h.join();
        thrown("joined", STATE, () -> { h.grant(0, 4, 0); return 0; });
        thrown("joined, wrong side", ARGUMENT, () -> { h.grant(2, 4, 0); return 0; });
        due("limit of data", h.side(1, 1), 65532);
        due("data grant", h.side(0, 4), 65532);
        due("limit of streams BOTH", h.side(1, 7), 56);
        due("limit of streams ONE", h.side(1, 8), 55);
        due("granted BOTH", h.side(0, 11), 56);
        due("granted ONE", h.side(0, 12), 55);
        due("the other side's grants stay", h.side(0, 1), 4096);
        h.open(1, true);
        h.open(1, false);
        h.take(0, 21, 1, 0, 0);
        h.take(0, 21, 3, 0, 0);
        h.open(0, true);
        h.take(1, 21, 0, 0, 0);
        due("6 limits what the other one opens", h.stream(1, 1, 3), 65530);
        due("6 is its grant", h.stream(0, 1, 13), 65530);
        due("7 limits ONE way", h.stream(1, 3, 3), 65529);
        due("7 is its grant", h.stream(0, 3, 13), 65529);
        due("5 limits what it opens itself", h.stream(1, 0, 3), 65531);
        due("5 is its grant", h.stream(0, 0, 13), 65531);
        due("the first grant", h.stream(0, 0, 3), 1024);
    }

    private static void promise3() {
        part = "3 join";
        StreamHall h = new StreamHall();
        thrown("take before", STATE, () -> h.take(0, 16, 0, 0, 0));
        thrown("fill before", STATE, () -> h.fill(0, 1));
        h.join();
        thrown("again", STATE, () -> { h.join(); return 0; });
        due("limit of data", h.side(0, 1), 4096);
        due("limit BOTH", h.side(0, 7), 4);
        due("limit ONE", h.side(1, 8), 4);
        due("take", h.take(0, 16, 0, 0, 0), 0);
        due("fill", h.fill(0, 1), -1);
    }

    private static void promise4() {
        part = "4 feed";
        StreamHall h = new StreamHall();
        thrown("0", ARGUMENT, () -> h.feed(0, 1));
        thrown("9", ARGUMENT, () -> h.feed(9, 1));
        thrown("-1", ARGUMENT, () -> h.feed(-1, 1));
        due("3 bytes", h.feed(3, 0x7fffffff04fb02ffL), 3);
        due("8 bytes", h.feed(8, -2L), 11);
        h.join();
        h.open(0, false);
        due("write", h.write(0, 2), 11);
        int place = h.fill(0, 100);
        int[] bytes = {255, 2, 251, 254, 255, 255, 255, 255, 255, 255, 255};
        for (int k = 0; k < bytes.length; k++) {
            due("byte " + k, h.data(place, k), bytes[k]);
        }
        for (int k = 1; k <= 255; k++) {
            due("feed", h.feed(8, 0), 8 * k);
        }
        due("feed", h.feed(7, 0), 2047);
        thrown("2049", STATE, () -> h.feed(2, 0));
        thrown("2049, wrong too", ARGUMENT, () -> h.feed(9, 0));
        due("2048", h.feed(1, 0), 2048);
        thrown("full", STATE, () -> h.feed(1, 0));
        due("all of it", h.write(0, 2), 2048);
        due("empty again", h.feed(1, 0), 1);
    }

    private static void promise5() {
        part = "5 open";
        StreamHall early = new StreamHall();
        thrown("before the join", STATE, () -> early.open(1, false));
        thrown("before the join, no side", ARGUMENT, () -> early.open(2, false));
        StreamHall h = joinedTo(4096, 1024, 1024, 1024, 2, 64);
        thrown("no side", ARGUMENT, () -> h.open(-1, true));
        due("BOTH", h.open(0, true), 0);
        due("ONE", h.open(0, false), 2);
        due("BOTH", h.open(0, true), 4);
        due("the limit", h.open(0, true), -1);
        due("ONE of 1", h.open(1, false), 3);
        due("BOTH of 1", h.open(1, true), 1);
        for (int n = 1; n < 64; n++) {
            due("ONE", h.open(0, false), 4 * n + 2);
        }
        due("beyond 63", h.open(0, false), -1);
        due("BOTH refused is told", h.fill(0, 2), 0);
        frame(h, 0, 0, 22, 2, 0, 0, 0, 2);
        due("64 takes two bytes", h.fill(0, 2), -1);
        due("ONE refused is told", h.fill(0, 3), 1);
        frame(h, 1, 0, 23, 64, 0, 0, 0, 3);
        due("told once", h.fill(0, 100), -1);
        due("there here", h.stream(0, 254, 0), 0);
        due("not there", h.stream(1, 254, 8), -1);
        promise5Last();
    }

    private static void promise5Last() {
        StreamHall h = new StreamHall();
        h.grant(0, 9, 64);
        h.join();
        for (int n = 0; n < 64; n++) {
            due("ONE", h.open(1, false), 4 * n + 3);
        }
        written(h, 1, 255, 2);
        due("fill", h.fill(1, 6), 0);
        frame(h, 0, 1, 8, 255, 0, 0, 2, 6);
        due("deliver", h.deliver(0), 0);
        due("all of them", h.side(0, 10), 64);
        due("stop", h.stop(0, 255, 1), true);
        due("STOP", h.fill(0, 4), 1);
        due("deliver", h.deliver(1), 0);
        due("RESET", h.fill(1, 5), 2);
        frame(h, 2, 1, 4, 255, 1, 2, 0, 5);
        due("no more", h.fill(1, 100), -1);
    }

    private static void promise6() {
        part = "6 write";
        StreamHall h = joined();
        thrown("no side", ARGUMENT, () -> h.write(2, 0));
        due("no stream", h.write(0, 0), -1);
        due("no id", h.write(0, -1), -1);
        due("no id", h.write(0, 256), -1);
        h.open(0, true);
        h.open(0, false);
        written(h, 0, 0, 5);
        written(h, 0, 0, 3);
        written(h, 0, 0, 0);
        due("WRITTEN", h.stream(0, 0, 1), 8);
        due("all written", h.side(0, 13), 8);
        due("SENT", h.stream(0, 0, 2), 0);
        due("the other side has it not", h.write(1, 0), -1);
        send(h, 0, 0);
        written(h, 1, 0, 2);
        h.finish(0, 0);
        fed(h, 4);
        due("finished", h.write(0, 0), -1);
        due("the tape is used up", h.feed(1, 0), 1);
        h.reset(0, 2, 1);
        due("reset", h.write(0, 2), -1);
        promise6Grows();
        promise6Most();
    }

    /** What was written and sent before stays, however much is written behind it. */
    private static void promise6Grows() {
        StreamHall h = joined();
        h.open(0, false);
        written(h, 0, 2, 3);
        due("fill", h.fill(0, 5), 0);
        due("fill", h.fill(0, 5), 1);
        h.gone(0, false);
        written(h, 0, 2, 100);
        due("LOST", h.fill(0, 100), 0);
        frame(h, 0, 0, 8, 2, 0, 0, 2, 5);
        due("byte", h.data(0, 1), 2);
        due("deliver", h.deliver(0), 0);
        due("deliver", h.deliver(1), 0);
        due("the rest", h.fill(0, 1200), 2);
        frame(h, 2, 0, 8, 2, 3, 0, 100, 105);
        due("byte", h.data(2, 0), 1);
        due("deliver", h.deliver(2), 0);
        due("read", h.read(1, 2, 2048), 103);
        due("OUT", h.outs(0), 0x0504030201030201L);
        due("OUT", h.outs(102), 100);
    }

    private static void promise6Most() {
        StreamHall h = joined();
        h.open(0, false);
        h.open(0, false);
        for (int k = 0; k < 31; k++) {
            for (int n = 0; n < 256; n++) {
                h.feed(8, 0);
            }
            due("2048", h.write(0, k % 2 == 0 ? 2 : 6), 2048);
        }
        fed(h, 2040);
        due("2040", h.write(0, 2), 2040);
        fed(h, 9);
        due("as many as there is room for", h.write(0, 6), 8);
        due("used up", h.feed(1, 0), 1);
        due("no room", h.write(0, 2), 0);
        due("all", h.side(0, 13), 65536);
    }

    private static void promise7() {
        part = "7 finish";
        StreamHall h = joined();
        thrown("no side", ARGUMENT, () -> h.finish(2, 0) ? 1 : 0);
        due("none", h.finish(0, 0), false);
        due("no id", h.finish(0, 256), false);
        due("no id", h.finish(0, -4), false);
        h.open(0, true);
        h.open(0, false);
        due("end", h.stream(0, 0, 7), 0);
        due("open", h.finish(0, 0), true);
        due("state", h.stream(0, 0, 0), 1);
        due("end", h.stream(0, 0, 7), 1);
        due("again", h.finish(0, 0), false);
        send(h, 0, 0);
        due("arrived", h.stream(0, 0, 0), 2);
        due("arrived", h.finish(0, 0), false);
        due("the other part is open", h.finish(1, 0), true);
        h.reset(0, 2, 0);
        due("reset", h.finish(0, 2), false);
        due("state", h.stream(0, 2, 0), 3);
        h.open(1, false);
        h.take(0, 21, 3, 0, 0);
        due("no sending part", h.finish(0, 3), false);
    }

    private static void promise8() {
        part = "8 reset";
        StreamHall h = joined();
        thrown("no side", ARGUMENT, () -> h.reset(2, 0, 0) ? 1 : 0);
        thrown("code", ARGUMENT, () -> h.reset(0, 0, -1) ? 1 : 0);
        thrown("code", ARGUMENT, () -> h.reset(0, 0, TOP + 1) ? 1 : 0);
        due("none", h.reset(0, 0, 0), false);
        due("no id", h.reset(0, 300, 0), false);
        h.open(0, true);
        h.open(0, false);
        written(h, 0, 0, 7);
        due("place", h.fill(0, 8), 0);
        due("open", h.reset(0, 0, TOP), true);
        due("again", h.reset(0, 0, 1), false);
        due("state", h.stream(0, 0, 0), 3);
        due("code", h.stream(0, 0, 4), TOP);
        due("no room", h.fill(0, 10), -1);
        due("room", h.fill(0, 11), 1);
        frame(h, 1, 0, 4, 0, TOP, 5, 0, 11);
        due("sent once", h.fill(0, 100), -1);
        h.finish(0, 2);
        due("finished", h.reset(0, 2, 9), true);
        due("end stays", h.stream(0, 2, 7), 1);
        due("code", h.stream(0, 2, 4), 9);
    }

    private static void promise9() {
        part = "9 stop";
        StreamHall h = joined();
        thrown("no side", ARGUMENT, () -> h.stop(-1, 0, 0) ? 1 : 0);
        thrown("code", ARGUMENT, () -> h.stop(0, 0, -1) ? 1 : 0);
        thrown("code", ARGUMENT, () -> h.stop(0, 0, TOP + 1) ? 1 : 0);
        due("none", h.stop(1, 0, 0), false);
        due("no id", h.stop(1, 256, 0), false);
        h.open(0, false);
        due("no receiving part", h.stop(0, 2, 0), false);
        due("take", taken(h, 1, 2, 4, 3, 1), 0);
        due("sized", h.stop(1, 2, 64), true);
        due("second time", h.stop(1, 2, 64), false);
        due("no room", h.fill(1, 3), -1);
        due("room", h.fill(1, 4), 0);
        frame(h, 0, 1, 5, 2, 64, 0, 0, 4);
        due("once", h.fill(1, 100), -1);
        due("second time", h.stop(1, 2, 5), false);
        due("deliver", h.deliver(0), 0);
        due("reset by it", h.stream(0, 2, 0), 3);
        due("its code", h.stream(0, 2, 4), 64);
        due("whole", taken(h, 1, 0, 0, 3, 1), 0);
        due("whole", h.stream(1, 0, 8), 2);
        due("whole", h.stop(1, 0, 0), false);
        due("reset", h.take(1, 4, 4, 7, 0), 0);
        due("reset", h.stop(1, 4, 0), false);
        due("take", taken(h, 1, 8, 4, 3, 1), 0);
        due("to be sent", h.stop(1, 8, 3), true);
        due("whole now", taken(h, 1, 8, 0, 4, 0), 0);
        due("not sent any more", h.fill(1, 100), -1);
        h.open(0, true);
        due("its own", h.stop(0, 0, 3), true);
        due("the RESET of 2", h.fill(0, 100), 1);
        due("STOP of 0", h.fill(0, 100), 2);
        frame(h, 2, 0, 5, 0, 3, 0, 0, 3);
    }

    private static void promise10() {
        part = "10 read";
        StreamHall h = joined();
        thrown("no side", ARGUMENT, () -> h.read(2, 0, 0));
        thrown("most", ARGUMENT, () -> h.read(0, 0, -1));
        thrown("most", ARGUMENT, () -> h.read(0, 0, 2049));
        due("none", h.read(0, 0, 2048), -1);
        due("no id", h.read(0, 256, 1), -1);
        due("no id", h.read(0, -1, 1), -1);
        due("a gap", taken(h, 1, 0, 2, 4, 0), 0);
        due("nothing ready", h.read(1, 0, 10), 0);
        due("no gap", taken(h, 1, 0, 0, 3, 0), 0);
        due("READY", h.stream(1, 0, 10), 6);
        due("at most", h.read(1, 0, 4), 4);
        due("OUT: the first bytes of a place stay", h.outs(0), 0x02010201L);
        thrown("most", ARGUMENT, () -> h.read(1, 0, 2049));
        due("OUT stays behind a throw", h.outs(3), 2);
        due("READ", h.stream(1, 0, 9), 4);
        due("0", h.read(1, 0, 0), 0);
        thrown("OUT is empty", ELEMENT, () -> h.outs(0));
        due("the rest", h.read(1, 0, 2048), 2);
        due("OUT", h.outs(0), 0x0403L);
        due("none", h.read(1, 4, 1), -1);
        thrown("OUT is empty", ELEMENT, () -> h.outs(0));
        due("end", h.take(1, 8, 0, 6, 1), 0);
        due("READ", h.stream(1, 0, 8), 3);
        due("read all", h.read(1, 0, 5), 0);
        due("WHOLE", taken(h, 1, 4, 0, 5, 1), 0);
        due("WHOLE", h.stream(1, 4, 8), 2);
        due("not all", h.read(1, 4, 4), 4);
        due("WHOLE", h.stream(1, 4, 8), 2);
        due("all", h.read(1, 4, 4), 1);
        due("READ", h.stream(1, 4, 8), 3);
        due("data", taken(h, 1, 8, 0, 5, 0), 0);
        due("read", h.read(1, 8, 1), 1);
        due("reset", h.take(1, 4, 8, 3, 5), 0);
        due("reset", h.read(1, 8, 4), -2);
        thrown("OUT is empty", ELEMENT, () -> h.outs(0));
        h.open(0, false);
        due("no receiving part", h.read(0, 2, 4), -1);
    }

    private static void promise10GrantsGrow() {
        part = "10 grants grow";
        StreamHall h = joinedTo(20, 1024, 9, 1024, 4, 4);
        due("take", taken(h, 1, 0, 0, 9, 0), 0);
        due("read", h.read(1, 0, 4), 4);
        due("8 is less than 9", h.stream(1, 0, 13), 9);
        due("nothing to tell", h.fill(1, 100), -1);
        due("read", h.read(1, 0, 1), 1);
        due("10 is not", h.stream(1, 0, 13), 14);
        due("DATA GRANT", h.side(1, 4), 20);
        due("no room", h.fill(1, 2), -1);
        due("told", h.fill(1, 3), 0);
        frame(h, 0, 1, 17, 0, 14, 0, 0, 3);
        due("told once", h.fill(1, 100), -1);
        due("read", h.read(1, 0, 4), 4);
        due("5 more", taken(h, 1, 0, 9, 5, 0), 0);
        due("read", h.read(1, 0, 1), 1);
        due("20 is as much as 20", h.side(1, 4), 30);
        due("CONSUMED", h.side(1, 3), 10);
        due("19", h.stream(1, 0, 13), 19);
        due("DATA first", h.fill(1, 100), 1);
        frame(h, 1, 1, 16, 30, 0, 0, 0, 2);
        due("the size", h.take(1, 8, 0, 19, 1), 0);
        due("state 0 alone is told", h.fill(1, 100), -1);
        due("the rest", taken(h, 1, 0, 14, 5, 0), 0);
        due("read", h.read(1, 0, 8), 8);
        due("a sized one does not grow", h.stream(1, 0, 13), 19);
        promise10Most();
    }

    private static void promise10Most() {
        StreamHall h = joinedTo(65536, 1024, 65535, 1024, 4, 4);
        due("take", h.take(1, 4, 0, 0, 40000), 0);
        due("DATA GRANT is at most 65536", h.side(1, 4), 65536);
        due("nothing to tell", h.fill(1, 100), -1);
        StreamHall g = joinedTo(60000, 1024, 60000, 60000, 4, 4);
        due("take", g.take(1, 4, 0, 0, 30000), 0);
        due("DATA GRANT is at most 65536", g.side(1, 4), 65536);
        due("told", g.fill(1, 5), 0);
        frame(g, 0, 1, 16, 65536, 0, 0, 0, 5);
        StreamHall f = joinedTo(60000, 0, 2000, 0, 4, 4);
        due("take", taken(f, 1, 0, 0, 2000, 0), 0);
        due("read", f.read(1, 0, 999), 999);
        due("too early", f.stream(1, 0, 13), 2000);
        due("read", f.read(1, 0, 1), 1);
        due("grown", f.stream(1, 0, 13), 3000);
    }

    private static void promise11Sizes() {
        part = "11 sizes";
        StreamHall early = new StreamHall();
        thrown("no side", ARGUMENT, () -> early.fill(2, 1));
        thrown("room", ARGUMENT, () -> early.fill(0, 0));
        thrown("not joined", STATE, () -> early.fill(0, 1));
        StreamHall h = joinedTo(65536, 65536, 65536, 65536, 64, 64);
        thrown("room", ARGUMENT, () -> h.fill(0, 1201));
        thrown("room", ARGUMENT, () -> h.fill(0, -1));
        h.open(0, true);
        written(h, 0, 0, 2000);
        written(h, 0, 0, 2000);
        written(h, 0, 0, 2000);
        int[][] rooms = {
            // room, place of the first byte, bytes, size
            {4, 0, 1, 4}, {5, 1, 1, 5}, {67, 2, 63, 67}, {3, -1, 0, 0}, {5, 65, -1, 0}, {6, 65, 1, 6},
            {68, 66, 63, 68}, {69, 129, 63, 68}, {70, 192, 64, 70}, {1200, 256, 1194, 1200},
        };
        for (int[] r : rooms) {
            int place = h.fill(0, r[0]);
            if (r[2] <= 0) {
                due("room " + r[0], place, -1);
            } else {
                frame(h, place, 0, 8, 0, r[1], 0, r[2], r[3]);
            }
        }
        for (int n = 1; n < 17; n++) {
            due("open", h.open(0, true), 4 * n);
        }
        written(h, 0, 64, 100);
        due("a wide id", h.fill(0, 5), 8);
        frame(h, 8, 0, 8, 64, 0, 0, 1, 5);
        due("round to the last one itself", h.fill(0, 1200), 9);
        frame(h, 9, 0, 8, 0, 1450, 0, 1194, 1200);
        due("the data end before the room does", h.fill(0, 1200), 10);
        frame(h, 10, 0, 8, 64, 1, 0, 99, 105);
        promise11Full();
    }

    private static void promise11Full() {
        StreamHall h = joined();
        h.open(0, false);
        written(h, 0, 2, 100);
        for (int place = 0; place < 64; place++) {
            due("least free", h.fill(0, place == 0 ? 4 : 5), place);
        }
        thrown("full", STATE, () -> h.fill(0, 100));
        thrown("full, nothing to fill", STATE, () -> h.fill(1, 100));
        thrown("full, wrong room", ARGUMENT, () -> h.fill(0, 1201));
        h.gone(9, false);
        h.gone(40, false);
        due("least free", h.fill(0, 5), 9);
        due("least free", h.fill(0, 5), 40);
    }

    private static void promise11Order() {
        part = "11 order";
        StreamHall h = new StreamHall();
        int[] grants = {30, 10, 10, 10, 2, 2};
        for (int k = 0; k < 6; k++) {
            h.grant(0, 4 + k, grants[k]);
            h.grant(1, 4 + k, grants[k]);
        }
        h.join();
        for (int k = 0; k < 3; k++) {
            h.open(0, true);
            h.open(0, false);
        }
        written(h, 0, 0, 11);
        written(h, 0, 4, 11);
        written(h, 0, 2, 10);
        due("take", taken(h, 0, 1, 0, 10, 0), 0);
        due("read", h.read(0, 1, 5), 5);
        due("take", taken(h, 0, 5, 0, 10, 1), 0);
        due("read", h.read(0, 5, 10), 10);
        due("the sending part is open yet", h.side(0, 11), 2);
        due("take", h.take(0, 8, 3, 0, 1), 0);
        due("over", h.side(0, 12), 3);
        due("reset", h.reset(0, 6, 3), true);
        due("reset", h.reset(0, 5, 3), true);
        due("stop", h.stop(0, 4, 1), true);
        due("stop", h.stop(0, 1, 2), true);
        long[][] want = {
            {0, 4, 5, 3, 0, 0, 4}, {0, 4, 6, 3, 0, 0, 4}, {0, 5, 1, 2, 0, 0, 3}, {0, 5, 4, 1, 0, 0, 3},
            {0, 16, 45, 0, 0, 0, 2}, {0, 17, 1, 15, 0, 0, 3}, {0, 19, 3, 0, 0, 0, 2},
            {0, 22, 2, 0, 0, 0, 2}, {0, 23, 2, 0, 0, 0, 2}, {0, 8, 0, 0, 0, 10, 13},
            {0, 21, 0, 10, 0, 0, 3}, {0, 8, 2, 0, 0, 10, 13}, {0, 8, 4, 0, 0, 10, 13},
            {0, 20, 30, 0, 0, 0, 2}, {0, 21, 4, 10, 0, 0, 3},
        };
        for (int place = 0; place < want.length; place++) {
            due("fill", h.fill(0, 100), place);
            frame(h, place, want[place]);
        }
        due("no more", h.fill(0, 100), -1);
        h.gone(0, false);
        h.gone(4, false);
        due("the first that fits", h.fill(0, 3), 0);
        frame(h, 0, 0, 16, 45, 0, 0, 0, 2);
        due("the first that fits", h.fill(0, 4), 4);
        frame(h, 4, 0, 4, 5, 3, 0, 0, 4);
    }

    private static void promise11Blocked() {
        part = "11 blocked";
        StreamHall h = joinedTo(0, 0, 0, 0, 1, 0);
        h.open(0, true);
        due("nothing written", h.fill(0, 100), -1);
        written(h, 0, 0, 3);
        due("DATA BLOCKED", h.fill(0, 100), 0);
        frame(h, 0, 0, 20, 0, 0, 0, 0, 2);
        due("STREAM DATA BLOCKED", h.fill(0, 100), 1);
        frame(h, 1, 0, 21, 0, 0, 0, 0, 3);
        due("refused", h.open(0, false), -1);
        due("STREAMS BLOCKED", h.fill(0, 100), 2);
        frame(h, 2, 0, 23, 0, 0, 0, 0, 2);
        due("refused", h.open(0, false), -1);
        due("not again", h.fill(0, 100), -1);
        for (int place = 0; place < 3; place++) {
            h.gone(place, false);
        }
        due("lost", h.fill(0, 100), 0);
        frame(h, 0, 0, 20);
        due("lost", h.fill(0, 100), 1);
        frame(h, 1, 0, 21);
        due("lost", h.fill(0, 100), 2);
        frame(h, 2, 0, 23);
        for (int place = 0; place < 3; place++) {
            due("deliver", h.deliver(place), 0);
            h.gone(place, true);
        }
        due("arrived", h.fill(0, 100), -1);
        h.take(0, 19, 1, 0, 0);
        due("another limit, not refused", h.fill(0, 100), -1);
        h.take(0, 16, 1, 0, 0);
        due("data may go, the stream's may not", h.fill(0, 100), -1);
        h.take(0, 17, 0, 1, 0);
        due("one byte", h.fill(0, 100), 0);
        frame(h, 0, 0, 8, 0, 0, 0, 1, 4);
        due("blocked at 1", h.fill(0, 100), 1);
        frame(h, 1, 0, 20, 1);
        due("blocked at 1", h.fill(0, 100), 2);
        frame(h, 2, 0, 21, 0, 1);
        h.take(0, 16, 9, 0, 0);
        h.take(0, 17, 0, 2, 0);
        due("one byte", h.fill(0, 100), 3);
        due("blocked at 2", h.fill(0, 100), 4);
        frame(h, 4, 0, 21, 0, 2);
        h.gone(2, false);
        due("the lost one was of another limit", h.fill(0, 100), -1);
        h.gone(4, false);
        h.reset(0, 0, 0);
        due("reset", h.fill(0, 100), 2);
        due("not blocked when reset", h.fill(0, 100), -1);
        promise11Refused();
    }

    private static void promise11Refused() {
        StreamHall h = joinedTo(0, 0, 0, 0, 0, 0);
        due("refused", h.open(0, true), -1);
        h.take(0, 18, 1, 0, 0);
        due("another limit", h.fill(0, 100), -1);
        due("open", h.open(0, true), 0);
        due("refused", h.open(0, true), -1);
        due("told", h.fill(0, 100), 0);
        frame(h, 0, 0, 22, 1);
        h.take(0, 18, 2, 0, 0);
        h.gone(0, false);
        due("lost, but another limit", h.fill(0, 100), -1);
    }

    private static void promise11Streams() {
        part = "11 streams in turn";
        StreamHall h = joined();
        for (int k = 0; k < 3; k++) {
            h.open(0, true);
            written(h, 0, 4 * k, 10);
        }
        int[] turn = {0, 4, 8, 0, 4, 8};
        for (int k = 0; k < turn.length; k++) {
            due("fill", h.fill(0, 8), k);
            due("stream", h.line(k, 2), turn[k]);
            due("offset", h.line(k, 3), k < 3 ? 0 : 5);
        }
        h.gone(4, false);
        h.gone(1, false);
        due("LOST", h.stream(0, 4, 5), 9);
        due("from the id behind the last one", h.fill(0, 100), 1);
        frame(h, 1, 0, 8, 0, 9, 0, 1, 5);
        due("lost bytes before new ones, those behind one another", h.fill(0, 100), 4);
        frame(h, 4, 0, 8, 4, 0, 0, 9, 12);
        due("LOST", h.stream(0, 4, 5), 0);
        due("8", h.fill(0, 100), 6);
        frame(h, 6, 0, 8, 8, 9, 0, 1, 5);
        due("4, not sent yet", h.fill(0, 100), 7);
        frame(h, 7, 0, 8, 4, 9, 0, 1, 5);
        due("all are sent", h.fill(0, 100), -1);
        h.gone(4, false);
        h.gone(6, false);
        due("not 8, which does not fit, but round to 4", h.fill(0, 4), 4);
        frame(h, 4, 0, 8, 4, 0, 0, 1, 4);
        due("8", h.fill(0, 6), 6);
        frame(h, 6, 0, 8, 8, 9, 0, 1, 5);
        due("as many as fit", h.fill(0, 6), 8);
        frame(h, 8, 0, 8, 4, 1, 0, 2, 6);
        due("LOST", h.stream(0, 4, 5), 6);
        promise11Runs();
        promise11Limits();
    }

    private static void promise11Runs() {
        StreamHall h = joined();
        h.open(0, false);
        written(h, 0, 2, 4);
        due("0", h.fill(0, 4), 0);
        due("1", h.fill(0, 5), 1);
        due("2", h.fill(0, 5), 2);
        h.gone(0, false);
        h.gone(2, false);
        due("the first run", h.fill(0, 100), 0);
        frame(h, 0, 0, 8, 2, 0, 0, 1, 4);
        due("the second run", h.fill(0, 100), 2);
        frame(h, 2, 0, 8, 2, 2, 0, 1, 5);
        due("what was not sent yet", h.fill(0, 100), 3);
        frame(h, 3, 0, 8, 2, 3, 0, 1, 5);
    }

    private static void promise11Limits() {
        StreamHall h = joinedTo(7, 0, 5, 4, 4, 4);
        h.open(0, true);
        h.open(0, false);
        written(h, 0, 0, 9);
        written(h, 0, 2, 9);
        due("the stream's limit", h.fill(0, 100), 0);
        frame(h, 0, 0, 8, 0, 0, 0, 5, 8);
        due("blocked", h.fill(0, 100), 1);
        due("the limit of all", h.fill(0, 100), 2);
        frame(h, 2, 0, 8, 2, 0, 0, 2, 5);
        due("SENT", h.side(0, 0), 7);
        h.gone(0, false);
        due("blocked", h.fill(0, 100), 0);
        frame(h, 0, 0, 20, 7);
        due("lost ones need no limit", h.fill(0, 100), 3);
        frame(h, 3, 0, 8, 0, 0, 0, 5, 8);
        due("SENT", h.side(0, 0), 7);
        due("SENT of the stream", h.stream(0, 0, 2), 5);
    }

    private static void promise11Ends() {
        part = "11 ends";
        StreamHall h = joinedTo(4096, 1024, 1024, 8, 4, 4);
        h.open(0, false);
        h.open(0, false);
        written(h, 0, 2, 4);
        due("not finished", h.fill(0, 100), 0);
        frame(h, 0, 0, 8, 2, 0, 0, 4, 7);
        due("finish", h.finish(0, 2), true);
        due("no room for the end", h.fill(0, 3), -1);
        due("the end alone", h.fill(0, 4), 1);
        frame(h, 1, 0, 8, 2, 4, 1, 0, 4);
        due("OUT", h.stream(0, 2, 7), 2);
        due("no more", h.fill(0, 100), -1);
        h.gone(0, false);
        due("a part of the lost", h.fill(0, 6), 0);
        frame(h, 0, 0, 8, 2, 0, 0, 3, 6);
        due("to the end", h.fill(0, 100), 2);
        frame(h, 2, 0, 8, 2, 3, 1, 1, 5);
        h.gone(1, false);
        due("the end that was lost", h.stream(0, 2, 7), 3);
        due("the end once more", h.fill(0, 100), 1);
        frame(h, 1, 0, 8, 2, 4, 1, 0, 4);
        h.deliver(1);
        h.gone(1, true);
        due("HERE", h.stream(0, 2, 7), 4);
        h.gone(2, false);
        due("HERE stays", h.stream(0, 2, 7), 4);
        due("lost byte", h.fill(0, 100), 1);
        frame(h, 1, 0, 8, 2, 3, 1, 1, 5);
        due("HERE, not OUT", h.stream(0, 2, 7), 4);
        written(h, 0, 6, 9);
        h.finish(0, 6);
        due("the limit", h.fill(0, 100), 2);
        frame(h, 2, 0, 8, 6, 0, 0, 8, 11);
        due("blocked", h.fill(0, 100), 3);
        due("no end before all are sent", h.fill(0, 100), -1);
        h.take(0, 17, 6, 9, 0);
        due("the last byte has the end", h.fill(0, 100), 4);
        frame(h, 4, 0, 8, 6, 8, 1, 1, 5);
        due("nothing more", h.fill(0, 100), -1);
    }

    private static void promise12() {
        part = "12 deliver";
        StreamHall h = joinedTo(10, 1024, 1024, 1024, 4, 4);
        thrown("none", ELEMENT, () -> h.deliver(0));
        thrown("no place", ELEMENT, () -> h.deliver(-1));
        thrown("no place", ELEMENT, () -> h.deliver(64));
        h.open(0, true);
        h.take(0, 16, 100, 0, 0);
        written(h, 0, 0, 11);
        due("fill", h.fill(0, 100), 0);
        fed(h, 3);
        due("FLOW", h.deliver(0), 3);
        due("not there", h.stream(1, 0, 8), -1);
        due("none are there", h.side(1, 9), 0);
        thrown("never without an error", STATE, () -> { h.gone(0, true); return 0; });
        h.gone(0, false);
        due("fill", h.fill(0, 8), 0);
        due("fill", h.fill(0, 7), 1);
        due("in another order", h.deliver(1), 0);
        due("RECEIVED", h.side(1, 2), 8);
        due("READY", h.stream(1, 0, 10), 0);
        due("deliver", h.deliver(0), 0);
        due("twice", h.deliver(0), 0);
        due("READY", h.stream(1, 0, 10), 8);
        due("read", h.read(1, 0, 8), 8);
        due("OUT", h.outs(0), 0x0807060504030201L);
        due("it stays on the line", h.line(0, 5), 5);
        due("the tape stays", h.feed(1, 0), 4);
        h.gone(0, true);
        thrown("gone", ELEMENT, () -> h.deliver(0));
        due("the row may grow meanwhile", h.write(0, 0), 4);
        due("deliver", h.deliver(1), 0);
        due("data", h.data(1, 2), 8);
    }

    private static void promise13Streams() {
        part = "13 gone, STREAM";
        StreamHall h = joined();
        thrown("none", ELEMENT, () -> { h.gone(0, true); return 0; });
        thrown("none", ELEMENT, () -> { h.gone(64, false); return 0; });
        thrown("none", ELEMENT, () -> { h.gone(-1, false); return 0; });
        h.open(0, false);
        written(h, 0, 2, 6);
        h.finish(0, 2);
        due("fill", h.fill(0, 7), 0);
        due("fill", h.fill(0, 100), 1);
        frame(h, 1, 0, 8, 2, 4, 1, 2, 6);
        thrown("not delivered", STATE, () -> { h.gone(1, true); return 0; });
        due("still there", h.line(1, 1), 8);
        due("deliver", h.deliver(1), 0);
        h.gone(1, true);
        thrown("told once", ELEMENT, () -> { h.gone(1, true); return 0; });
        due("HERE", h.stream(0, 2, 6), 2);
        due("end", h.stream(0, 2, 7), 4);
        due("not all", h.stream(0, 2, 0), 1);
        h.gone(0, false);
        due("LOST", h.stream(0, 2, 5), 4);
        due("fill", h.fill(0, 100), 0);
        due("LOST", h.stream(0, 2, 5), 0);
        due("deliver", h.deliver(0), 0);
        h.gone(0, true);
        due("HERE", h.stream(0, 2, 6), 6);
        due("ARRIVED", h.stream(0, 2, 0), 2);
        due("nothing to send", h.fill(0, 100), -1);
        h.open(0, false);
        written(h, 0, 6, 2);
        due("fill", h.fill(0, 100), 0);
        h.deliver(0);
        h.gone(0, true);
        due("not finished", h.stream(0, 6, 0), 0);
        written(h, 0, 6, 2);
        due("fill", h.fill(0, 100), 0);
        h.reset(0, 6, 0);
        h.gone(0, false);
        due("LOST of a reset one", h.stream(0, 6, 5), 2);
        due("RESET", h.fill(0, 100), 0);
        frame(h, 0, 0, 4, 6, 0, 4);
        due("no lost bytes of a reset one", h.fill(0, 100), -1);
    }

    private static void promise13Others() {
        part = "13 gone, the others";
        StreamHall h = joinedTo(8, 1024, 1024, 4, 4, 4);
        h.open(0, false);
        written(h, 0, 2, 4);
        due("RESET", h.reset(0, 2, 5), true);
        due("fill", h.fill(0, 100), 0);
        h.gone(0, false);
        due("lost: again", h.fill(0, 100), 0);
        frame(h, 0, 0, 4, 2, 5, 0);
        due("deliver", h.deliver(0), 0);
        h.gone(0, true);
        due("RESET HERE", h.stream(0, 2, 0), 4);
        due("not again", h.fill(0, 100), -1);
        due("MAX STREAMS", h.fill(1, 100), 0);
        frame(h, 0, 1, 19, 5);
        h.gone(0, false);
        due("lost: again", h.fill(1, 100), 0);
        frame(h, 0, 1, 19, 5);
        due("another one over", h.take(1, 8, 6, 0, 1), 0);
        h.gone(0, false);
        due("the new number", h.fill(1, 100), 0);
        frame(h, 0, 1, 19, 6);
        due("told", h.fill(1, 100), -1);
        due("data", taken(h, 1, 10, 0, 4, 0), 0);
        due("read", h.read(1, 10, 2), 2);
        due("MAX STREAM DATA", h.fill(1, 100), 1);
        frame(h, 1, 1, 17, 10, 6);
        due("read", h.read(1, 10, 2), 2);
        due("MAX DATA", h.fill(1, 100), 2);
        frame(h, 2, 1, 16, 12);
        due("MAX STREAM DATA", h.fill(1, 100), 3);
        frame(h, 3, 1, 17, 10, 8);
        h.gone(1, false);
        due("its number is not the grant of now", h.fill(1, 100), -1);
        h.gone(2, false);
        h.gone(3, false);
        due("MAX DATA", h.fill(1, 100), 1);
        frame(h, 1, 1, 16, 12);
        due("MAX STREAM DATA", h.fill(1, 100), 2);
        frame(h, 2, 1, 17, 10, 8);
        due("STOP", h.stop(1, 10, 6), true);
        due("fill", h.fill(1, 100), 3);
        h.gone(3, false);
        due("lost: again", h.fill(1, 100), 3);
        frame(h, 3, 1, 5, 10, 6);
        h.gone(3, false);
        h.gone(2, false);
        due("the end", h.take(1, 8, 10, 4, 1), 0);
        due("not when it is READ, but it is over", h.fill(1, 100), 2);
        frame(h, 2, 1, 19, 7);
        due("not when it is READ", h.fill(1, 100), -1);
    }

    private static void promise13Over() {
        part = "13 over";
        StreamHall h = joined();
        h.open(0, true);
        h.finish(0, 0);
        send(h, 0, 0);
        due("its receiving part is READ", h.stream(1, 0, 8), 3);
        due("its sending part is not", h.side(1, 11), 4);
        h.finish(1, 0);
        send(h, 1, 0);
        due("over", h.side(1, 11), 5);
        due("the opener grants no more", h.side(0, 11), 4);
        due("told", h.fill(1, 100), 0);
        frame(h, 0, 1, 18, 5, 0, 0, 0, 2);
        due("deliver", h.deliver(0), 0);
        due("limit", h.side(0, 7), 5);
        due("once", h.read(1, 0, 5), 0);
        due("once", h.side(1, 11), 5);
        h.open(0, true);
        due("STOP comes first", h.take(1, 5, 4, 8, 0), 0);
        due("RESET", h.fill(1, 100), 1);
        due("deliver", h.deliver(1), 0);
        h.gone(1, true);
        due("RESET HERE", h.stream(1, 4, 0), 4);
        due("not yet", h.side(1, 11), 5);
        due("RESET", h.take(1, 4, 4, 8, 3), 0);
        due("over", h.side(1, 11), 6);
        StreamHall g = joinedTo(4096, 1024, 1024, 1024, 4, 63);
        due("over", g.take(1, 4, 2, 0, 0), 0);
        due("64", g.side(1, 12), 64);
        due("told", g.fill(1, 100), 0);
        due("over", g.take(1, 4, 6, 0, 0), 0);
        due("64 at most", g.side(1, 12), 64);
        due("not told", g.fill(1, 100), -1);
        promise13OverLast();
    }

    /** What a stream waits for may be a read, or the news of its RESET. */
    private static void promise13OverLast() {
        StreamHall h = joined();
        due("take", taken(h, 1, 2, 0, 3, 1), 0);
        due("not read", h.side(1, 12), 4);
        due("read", h.read(1, 2, 2), 2);
        due("not all read", h.side(1, 12), 4);
        due("read", h.read(1, 2, 2), 1);
        due("over", h.side(1, 12), 5);
        due("end", h.take(1, 8, 0, 0, 1), 0);
        due("RESET", h.reset(1, 0, 1), true);
        due("told", h.fill(1, 100), 0);
        frame(h, 0, 1, 4, 0, 1, 0);
        h.open(0, true);
        due("deliver", h.deliver(0), 0);
        due("not heard of", h.side(1, 11), 4);
        h.gone(0, true);
        due("over", h.side(1, 11), 5);
        due("MAX STREAMS", h.fill(1, 100), 0);
        thrown("another frame at the place", STATE, () -> { h.gone(0, true); return 0; });
        frame(h, 0, 1, 18, 5);
        due("there", h.take(1, 21, 4, 0, 0), 0);
        h.open(0, true);
        due("STOP and RESET", h.stop(1, 4, 2) && h.reset(1, 4, 2), true);
        due("RESET", h.fill(1, 100), 1);
        due("STOP", h.fill(1, 100), 2);
        due("MAX STREAMS of ONE way", h.fill(1, 100), 3);
        due("deliver", h.deliver(2), 0);
        h.gone(2, true);
        due("the STOP is here, not the RESET", h.stream(1, 4, 0), 3);
    }

    private static void promise14Errors() {
        part = "14 take, errors";
        StreamHall early = new StreamHall();
        thrown("not joined", STATE, () -> early.take(0, 16, 0, 0, 0));
        thrown("not joined, no side", ARGUMENT, () -> early.take(2, 16, 0, 0, 0));
        StreamHall h = joined();
        for (int kind = -1; kind < 30; kind++) {
            int k = kind;
            boolean known = kind == 4 || kind == 5 || kind == 8 || kind >= 16 && kind <= 23;
            thrown("kind " + kind, known ? null : ARGUMENT, () -> h.take(0, k, 0, 0, 0));
            if (known) {
                thrown("a", ARGUMENT, () -> h.take(0, k, -1, 0, 0));
                thrown("a", ARGUMENT, () -> h.take(0, k, TOP + 1, 0, 0));
                thrown("b", ARGUMENT, () -> h.take(0, k, 0, -1, 0));
                thrown("b", ARGUMENT, () -> h.take(0, k, 0, TOP + 1, 0));
                thrown("c", ARGUMENT, () -> h.take(0, k, 0, 0, -1));
                thrown("c", ARGUMENT, () -> h.take(0, k, 0, 0, TOP + 1));
                thrown("c 2", kind == 8 ? ARGUMENT : null, () -> h.take(0, k, 0, 0, 2));
                thrown("b", kind == 8 ? ARGUMENT : null, () -> h.take(0, k, 0, 4611686018427380001L, 0));
            }
        }
        fed(h, 3);
        thrown("no side", ARGUMENT, () -> h.take(-1, 16, 0, 0, 0));
        due("the tape stays", h.feed(1, 0), 4);
        due("an error", h.take(0, 8, 0, 0, 0), 5);
        due("the tape is used up", h.feed(1, 0), 1);
        due("another kind", h.take(0, 20, 0, 0, 0), 0);
        due("the tape is used up", h.feed(1, 0), 1);
        due("STATE: above 255", h.take(0, 8, TOP - 1, 0, 0), 5);
        due("LIMIT: above 255", h.take(0, 8, TOP - 2, 0, 0), 4);
        due("STATE: ONE way, before LIMIT", h.take(0, 5, TOP, 0, 0), 5);
        due("STATE: 256", h.take(0, 8, 256, 0, 0), 5);
        due("FLOW: the highest offset", h.take(0, 8, 1, 4611686018427380000L, 0), 3);
        h.open(0, true);
        h.open(0, false);
        int[][] rows = {
            // kind, stream, answer on side 0
            {4, 0, 0}, {5, 0, 0}, {8, 0, 0}, {17, 0, 0}, {21, 0, 0},
            {4, 2, 5}, {5, 2, 0}, {8, 2, 5}, {17, 2, 0}, {21, 2, 5},
            {4, 3, 0}, {5, 3, 5}, {8, 3, 0}, {17, 3, 5}, {21, 3, 0},
            {4, 1, 0}, {5, 1, 0}, {8, 1, 0}, {17, 1, 0}, {21, 1, 0},
            {4, 4, 5}, {5, 4, 5}, {8, 6, 5}, {17, 6, 5}, {21, 4, 5},
            {4, 13, 0}, {4, 17, 4}, {5, 17, 4}, {8, 17, 4}, {17, 17, 4}, {21, 17, 4}, {8, 23, 4}, {8, 19, 0},
        };
        for (int[] r : rows) {
            due("take " + r[0] + " of " + r[1], h.take(0, r[0], r[1], 0, 0), r[2]);
        }
    }

    private static void promise14Streams() {
        part = "14 take, STREAM";
        StreamHall h = joinedTo(40, 1024, 30, 1024, 4, 4);
        due("FLOW", taken(h, 1, 4, 21, 10, 0), 3);
        due("nothing has changed", h.side(1, 9), 0);
        due("all before it are there", taken(h, 1, 4, 20, 10, 0), 0);
        due("there", h.stream(1, 0, 8), 0);
        due("there", h.stream(1, 0, 0), 0);
        due("not there", h.stream(1, 8, 8), -1);
        due("how many", h.side(1, 9), 2);
        due("HIGHEST", h.stream(1, 4, 11), 30);
        due("RECEIVED", h.side(1, 2), 30);
        due("FLOW of all", taken(h, 1, 0, 6, 5, 0), 3);
        due("without data, too", h.take(1, 8, 0, 11, 0), 3);
        due("not of all", taken(h, 1, 0, 6, 4, 0), 0);
        due("RECEIVED", h.side(1, 2), 40);
        due("no more in all, but what has been", taken(h, 1, 0, 0, 10, 0), 0);
        due("READY", h.stream(1, 0, 10), 10);
        due("SIZE: end below HIGHEST", h.take(1, 8, 0, 9, 1), 6);
        due("SIZE is unknown", h.stream(1, 0, 12), -1);
        due("end", h.take(1, 8, 0, 10, 1), 0);
        due("WHOLE", h.stream(1, 0, 8), 2);
        due("SIZE: behind it", taken(h, 1, 0, 10, 1, 0), 6);
        due("SIZE before FLOW", h.take(1, 8, 0, 100, 0), 6);
        due("SIZE: another one", h.take(1, 8, 0, 9, 1), 6);
        due("the same once more", h.take(1, 8, 0, 10, 1), 0);
        due("within", h.take(1, 8, 0, 3, 0), 0);
        due("read", h.read(1, 0, 10), 10);
        due("OUT: what was there stays", h.outs(0), 0x0201060504030201L);
        due("OUT", h.outs(8), 0x0403L);
        due("READ", h.stream(1, 0, 8), 3);
        due("RECEIVED is the same", h.side(1, 2), 40);
        due("an empty one", h.take(1, 8, 8, 0, 1), 0);
        due("SIZE 0", h.stream(1, 8, 12), 0);
        due("SIZE: behind 0", taken(h, 1, 8, 0, 1, 0), 6);
        due("the end is told", h.take(1, 8, 4, 30, 1), 0);
        due("SIZED", h.stream(1, 4, 8), 1);
        due("come", taken(h, 1, 4, 0, 20, 0), 0);
        due("WHOLE", h.stream(1, 4, 8), 2);
        due("SIZE", h.stream(1, 4, 12), 30);
    }

    private static void promise14Resets() {
        part = "14 take, RESET and STOP";
        StreamHall h = joinedTo(40, 1024, 30, 1024, 4, 4);
        due("FLOW", h.take(1, 4, 4, 1, 31), 3);
        due("FLOW", h.take(1, 4, 4, 1, TOP), 3);
        due("nothing has changed", h.side(1, 9), 0);
        due("data", taken(h, 1, 0, 0, 20, 0), 0);
        due("read", h.read(1, 0, 5), 5);
        due("SIZE: below HIGHEST", h.take(1, 4, 0, 1, 19), 6);
        due("data", taken(h, 1, 4, 0, 15, 0), 0);
        due("FLOW of all", h.take(1, 4, 0, 1, 26), 3);
        due("RESET", h.take(1, 4, 0, TOP, 25), 0);
        due("state", h.stream(1, 0, 8), 4);
        due("code", h.stream(1, 0, 14), TOP);
        due("SIZE", h.stream(1, 0, 12), 25);
        due("HIGHEST", h.stream(1, 0, 11), 25);
        due("READ", h.stream(1, 0, 9), 5);
        due("RECEIVED", h.side(1, 2), 40);
        due("CONSUMED", h.side(1, 3), 25);
        due("DATA GRANT", h.side(1, 4), 65);
        due("again", h.take(1, 4, 0, 7, 25), 0);
        due("code stays", h.stream(1, 0, 14), TOP);
        due("SIZE", h.take(1, 4, 0, 7, 24), 6);
        due("data of a reset one", taken(h, 1, 0, 20, 5, 1), 0);
        due("do not come in", h.stream(1, 0, 10), 20);
        due("CONSUMED", h.side(1, 3), 25);
        due("end", h.take(1, 8, 4, 15, 1), 0);
        due("RESET of a whole one", h.take(1, 4, 4, 7, 15), 0);
        due("WHOLE", h.stream(1, 4, 8), 2);
        due("code", h.stream(1, 4, 14), 0);
        due("sized", h.take(1, 8, 8, 9, 1), 0);
        due("SIZE", h.take(1, 4, 8, 1, 10), 6);
        due("RESET of a sized one", h.take(1, 4, 8, 1, 9), 0);
        due("RESET", h.stream(1, 8, 8), 4);
        due("STOP", h.take(1, 5, 0, 12, 0), 0);
        due("RESET", h.stream(1, 0, 0), 3);
        due("code", h.stream(1, 0, 4), 12);
        due("STOP again", h.take(1, 5, 0, 13, 0), 0);
        due("code stays", h.stream(1, 0, 4), 12);
        h.finish(1, 4);
        due("STOP of a finished one", h.take(1, 5, 4, TOP, 0), 0);
        due("code", h.stream(1, 4, 4), TOP);
        due("STOP makes it there", h.take(1, 5, 12, 0, 0), 0);
        due("there", h.side(1, 9), 4);
    }

    private static void promise14Limits() {
        part = "14 take, limits";
        StreamHall h = joined();
        h.open(0, true);
        due("MAX STREAM DATA", h.take(0, 17, 0, 1023, 0), 0);
        due("at least", h.stream(0, 0, 3), 1024);
        due("MAX STREAM DATA", h.take(0, 17, 0, TOP, 0), 0);
        due("more", h.stream(0, 0, 3), TOP);
        due("MAX DATA", h.take(0, 16, 4095, 0, 0), 0);
        due("at least", h.side(0, 1), 4096);
        due("MAX DATA", h.take(0, 16, TOP, 0, 0), 0);
        due("more", h.side(0, 1), TOP);
        written(h, 0, 0, 2);
        due("it may be sent", h.fill(0, 100), 0);
        for (int way = 0; way < 2; way++) {
            due("MAX STREAMS", h.take(0, 18 + way, 3, 0, 0), 0);
            due("at least", h.side(0, 7 + way), 4);
            due("MAX STREAMS", h.take(0, 18 + way, 63, 0, 0), 0);
            due("more", h.side(0, 7 + way), 63);
            due("MAX STREAMS", h.take(0, 18 + way, TOP, 0, 0), 0);
            due("64 at most", h.side(0, 7 + way), 64);
        }
        due("20", h.take(0, 20, TOP, TOP, TOP), 0);
        due("22", h.take(0, 22, TOP, TOP, TOP), 0);
        due("23", h.take(0, 23, TOP, TOP, TOP), 0);
        due("21 makes it there", h.take(0, 21, 9, TOP, TOP), 0);
        due("there", h.stream(0, 9, 8), 0);
        due("nothing more", h.stream(0, 9, 11), 0);
        due("17 makes it there", h.take(0, 17, 13, 5000, 0), 0);
        due("its limit", h.stream(0, 13, 3), 5000);
        due("of now alone", h.stream(0, 9, 3), 1024);
    }

    private static void promise15() {
        part = "15 line";
        StreamHall h = joined();
        h.open(1, true);
        written(h, 1, 1, 70);
        h.finish(1, 1);
        due("fill", h.fill(1, 100), 0);
        frame(h, 0, 1, 8, 1, 0, 1, 70, 74);
        thrown("what", ELEMENT, () -> h.line(0, 7));
        thrown("what", ELEMENT, () -> h.line(0, -1));
        thrown("place", ELEMENT, () -> h.line(1, 0));
        thrown("place", ELEMENT, () -> h.line(-1, 0));
        thrown("place", ELEMENT, () -> h.line(64, 0));
        h.reset(1, 1, 1073741823);
        due("fill", h.fill(1, 100), 1);
        frame(h, 1, 1, 4, 1, 1073741823, 70, 0, 8);
        h.open(1, false);
        h.reset(1, 3, 1073741824);
        due("fill", h.fill(1, 100), 2);
        frame(h, 2, 1, 4, 3, 1073741824, 0, 0, 11);
        h.gone(0, false);
        thrown("free", ELEMENT, () -> h.line(0, 0));
        h.stop(1, 1, 16383);
        due("fill", h.fill(1, 100), 0);
        frame(h, 0, 1, 5, 1, 16383, 0, 0, 4);
        h.take(0, 21, 1, 0, 0);
        h.stop(0, 1, 16384);
        due("fill", h.fill(0, 100), 3);
        frame(h, 3, 0, 5, 1, 16384, 0, 0, 6);
    }

    private static void promise16() {
        part = "16 data";
        StreamHall h = joined();
        h.open(0, false);
        h.feed(3, 0xff8001);
        h.write(0, 2);
        due("fill", h.fill(0, 5), 0);
        due("fill", h.fill(0, 100), 1);
        due("byte", h.data(0, 0), 1);
        due("byte", h.data(0, 1), 128);
        due("byte", h.data(1, 0), 255);
        thrown("k", ELEMENT, () -> h.data(0, 2));
        thrown("k", ELEMENT, () -> h.data(0, -1));
        thrown("place", ELEMENT, () -> h.data(2, 0));
        thrown("place", ELEMENT, () -> h.data(-1, 0));
        thrown("place", ELEMENT, () -> h.data(64, 0));
        h.reset(0, 2, 0);
        due("fill", h.fill(0, 100), 2);
        thrown("no data", ELEMENT, () -> h.data(2, 0));
    }

    private static void promise17() {
        part = "17 outs";
        StreamHall h = joined();
        h.feed(8, 0x8877665544332211L);
        h.feed(2, 0xff99);
        due("take", h.take(0, 8, 1, 0, 0), 0);
        due("read", h.read(0, 1, 100), 10);
        due("0", h.outs(0), 0x8877665544332211L);
        due("1", h.outs(1), 0x9988776655443322L);
        due("2", h.outs(2), 0xff99887766554433L);
        due("3", h.outs(3), 0xff998877665544L);
        due("9", h.outs(9), 255);
        thrown("10", ELEMENT, () -> h.outs(10));
        thrown("-1", ELEMENT, () -> h.outs(-1));
        fed(h, 1);
        due("it stays", h.outs(9), 255);
        due("read", h.read(0, 1, 1), 0);
        thrown("empty", ELEMENT, () -> h.outs(0));
        due("take", h.take(0, 8, 1, 10, 0), 0);
        due("read", h.read(0, 1, 8), 1);
        due("nothing of what was before", h.outs(0), 1);
        thrown("1", ELEMENT, () -> h.outs(1));
        due("take", taken(h, 0, 1, 11, 4, 0), 0);
        due("read", h.read(0, 1, 8), 4);
        due("nothing of what was before", h.outs(2), 0x0403);
    }

    private static void promise18() {
        part = "18 stream";
        StreamHall h = joined();
        thrown("side", ARGUMENT, () -> h.stream(2, 0, 0));
        thrown("what", ARGUMENT, () -> h.stream(0, 0, -1));
        thrown("what", ARGUMENT, () -> h.stream(0, 0, 15));
        due("no id", h.stream(0, -1, 0), -1);
        due("no id", h.stream(0, 256, 8), -1);
        h.open(0, true);
        h.open(0, false);
        written(h, 0, 0, 9);
        h.finish(0, 0);
        due("fill", h.fill(0, 4), 0);
        due("fill", h.fill(0, 6), 1);
        due("fill", h.fill(0, 7), 2);
        h.deliver(0);
        h.deliver(2);
        h.gone(0, true);
        h.gone(1, false);
        h.read(1, 0, 1);
        long[] sends = {1, 9, 6, 1024, 0, 2, 1, 1};
        for (int what = 0; what < 8; what++) {
            due("what " + what, h.stream(0, 0, what), sends[what]);
            due("fresh, what " + what, h.stream(1, 0, what), what == 3 ? 1024 : 0);
            due("ONE, what " + what, h.stream(0, 2, what), what == 3 ? 1024 : 0);
        }
        long[] gets = {0, 1, 1, 6, -1, 1024, 0};
        long[] fresh = {0, 0, 0, 0, -1, 1024, 0};
        for (int what = 8; what < 15; what++) {
            due("what " + what, h.stream(1, 0, what), gets[what - 8]);
            due("fresh, what " + what, h.stream(0, 0, what), fresh[what - 8]);
            due("no receiving part, what " + what, h.stream(0, 2, what), -1);
            due("not there, what " + what, h.stream(1, 2, what), -1);
        }
        h.take(1, 21, 2, 0, 0);
        for (int what = 0; what < 15; what++) {
            due("ONE, what " + what, h.stream(1, 2, what), what < 8 ? -1 : fresh[what - 8]);
        }
    }

    private static void promise19() {
        part = "19 side";
        StreamHall h = joinedTo(100, 50, 60, 70, 5, 6);
        thrown("side", ARGUMENT, () -> h.side(2, 0));
        thrown("side", ARGUMENT, () -> h.side(-1, 0));
        thrown("what", ARGUMENT, () -> h.side(0, 14));
        thrown("what", ARGUMENT, () -> h.side(0, -1));
        h.open(0, true);
        h.open(0, true);
        h.open(0, false);
        written(h, 0, 4, 10);
        written(h, 0, 2, 15);
        due("fill", h.fill(0, 9), 0);
        due("fill", h.fill(0, 9), 1);
        due("deliver", h.deliver(0), 0);
        due("deliver", h.deliver(1), 0);
        due("read", h.read(1, 4, 4), 4);
        due("reset", h.take(1, 4, 2, 0, 8), 0);
        long[] zero = {12, 100, 0, 0, 4096, 2, 1, 5, 6, 0, 0, 4, 4, 25};
        long[] one = {0, 4096, 14, 12, 100, 0, 0, 4, 4, 2, 1, 5, 7, 0};
        for (int what = 0; what < 14; what++) {
            due("0, what " + what, h.side(0, what), zero[what]);
            due("1, what " + what, h.side(1, what), one[what]);
        }
    }
}
