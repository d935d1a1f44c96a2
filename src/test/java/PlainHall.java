import java.util.ArrayList;
import java.util.List;
import java.util.NoSuchElementException;
import java.util.TreeMap;

/**
 * The document once more, written as slowly and as literally as it can be: sums are summed anew each
 * time, bytes are kept one by one, and filling lists every frame there is before it picks one.
 * FuzzTest compares StreamHall with it.
 */
final class PlainHall {
    static final long TOP = 4611686018427387903L;

    static final class Send {
        int state;
        final List<Integer> bytes = new ArrayList<>();
        /** Of each byte: N not sent, O out, L lost, H here. */
        final StringBuilder fate = new StringBuilder();
        char end = '-';
        long limit;
        long code;
        boolean resetToSend;
        long blockedTold = -1;

        int count(String which) {
            int n = 0;
            for (int i = 0; i < fate.length(); i++) {
                n += which.indexOf(fate.charAt(i)) >= 0 ? 1 : 0;
            }
            return n;
        }

        int sent() {
            return count("OLH");
        }

        boolean open() {
            return state <= 1;
        }
    }

    static final class Get {
        int state;
        final TreeMap<Long, Integer> come = new TreeMap<>();
        long read;
        long highest;
        long size = -1;
        long grant;
        long window;
        boolean grantToTell;
        boolean stopped;
        boolean stopToSend;
        long stopCode;
        long code;

        long ready() {
            long n = 0;
            while (come.containsKey(n)) {
                n++;
            }
            return n;
        }

        void look() {
            if (size >= 0) {
                state = ready() != size ? 1 : read != size ? 2 : 3;
            }
        }
    }

    static final class Part {
        final int[] grant = {0, 0, 0, 0, 4096, 1024, 1024, 1024, 4, 4};
        final TreeMap<Integer, Send> sends = new TreeMap<>();
        final TreeMap<Integer, Get> gets = new TreeMap<>();
        final List<Integer> over = new ArrayList<>();
        long dataLimit;
        long dataGrant = 4096;
        boolean dataGrantToTell;
        long dataBlockedTold = -1;
        final int[] opened = new int[2];
        final long[] openLimit = new long[2];
        final int[] there = new int[2];
        final boolean[] streamsToTell = new boolean[2];
        final long[] refused = {-1, -1};
        final long[] blockedTold = {-1, -1};
        int lastStream = 255;

        long sent() {
            long n = 0;
            for (Send s : sends.values()) {
                n += s.sent();
            }
            return n;
        }

        long received() {
            long n = 0;
            for (Get g : gets.values()) {
                n += g.highest;
            }
            return n;
        }

        long consumed() {
            long n = 0;
            for (Get g : gets.values()) {
                n += g.state == 4 ? g.size : g.read;
            }
            return n;
        }

        long written() {
            long n = 0;
            for (Send s : sends.values()) {
                n += s.bytes.size();
            }
            return n;
        }
    }

    static final class Paper {
        int side;
        int kind;
        long a;
        long b;
        long c;
        final List<Integer> data = new ArrayList<>();
        boolean delivered;

        Paper(int side, int kind, long a, long b, long c) {
            this.side = side;
            this.kind = kind;
            this.a = a;
            this.b = b;
            this.c = c;
        }

        long bytes() {
            switch (kind) {
                case 4: return 1 + wide(a) + wide(b) + wide(c);
                case 5: case 17: case 21: return 1 + wide(a) + wide(b);
                case 8: return 1 + wide(a) + (b == 0 ? 0 : wide(b)) + wide(data.size()) + data.size();
                default: return 1 + wide(a);
            }
        }
    }

    static int wide(long v) {
        return v < 64 ? 1 : v < 16384 ? 2 : v < 1073741824 ? 4 : 8;
    }

    private final Part[] parts = {new Part(), new Part()};
    private final Paper[] line = new Paper[64];
    private List<Integer> tape = new ArrayList<>();
    private List<Integer> out = new ArrayList<>();
    private boolean joined;

    private static void arg(boolean fine) {
        if (!fine) {
            throw new IllegalArgumentException();
        }
    }

    private static void state(boolean fine) {
        if (!fine) {
            throw new IllegalStateException();
        }
    }

    private static void element(boolean fine) {
        if (!fine) {
            throw new NoSuchElementException();
        }
    }

    private static void argSide(int side) {
        arg(side == 0 || side == 1);
    }

    void grant(int side, int id, int v) {
        argSide(side);
        arg(id >= 4 && id <= 9 && v >= 0 && v <= (id >= 8 ? 64 : 65536));
        state(!joined);
        parts[side].grant[id] = v;
        parts[side].dataGrant = parts[side].grant[4];
    }

    void join() {
        state(!joined);
        joined = true;
        for (int s = 0; s < 2; s++) {
            parts[s].dataLimit = parts[1 - s].grant[4];
            parts[s].openLimit[0] = parts[1 - s].grant[8];
            parts[s].openLimit[1] = parts[1 - s].grant[9];
        }
    }

    int feed(int n, long v) {
        arg(n >= 1 && n <= 8);
        state(tape.size() + n <= 2048);
        for (int i = 0; i < n; i++) {
            tape.add((int) (v & 255));
            v >>= 8;
        }
        return tape.size();
    }

    private void appear(int side, int id) {
        Part p = parts[side];
        boolean both = (id & 2) == 0;
        boolean mine = (id & 1) == side;
        if (both || mine) {
            Send s = new Send();
            s.limit = parts[1 - side].grant[both ? mine ? 6 : 5 : 7];
            p.sends.put(id, s);
        }
        if (both || !mine) {
            Get g = new Get();
            g.window = p.grant[both ? mine ? 5 : 6 : 7];
            g.grant = g.window;
            p.gets.put(id, g);
        }
    }

    int open(int side, boolean both) {
        argSide(side);
        state(joined);
        Part p = parts[side];
        int way = both ? 0 : 1;
        if (p.opened[way] == p.openLimit[way]) {
            p.refused[way] = p.openLimit[way];
            return -1;
        }
        int id = 4 * p.opened[way]++ + 2 * way + side;
        appear(side, id);
        return id;
    }

    int write(int side, int id) {
        argSide(side);
        List<Integer> bytes = tape;
        tape = new ArrayList<>();
        Send s = parts[side].sends.get(id);
        if (s == null || s.state != 0) {
            return -1;
        }
        int n = 0;
        for (int b : bytes) {
            if (parts[side].written() < 65536) {
                s.bytes.add(b);
                s.fate.append('N');
                n++;
            }
        }
        return n;
    }

    boolean finish(int side, int id) {
        argSide(side);
        Send s = parts[side].sends.get(id);
        if (s == null || s.state != 0) {
            return false;
        }
        s.state = 1;
        s.end = 'N';
        return true;
    }

    boolean reset(int side, int id, long code) {
        argSide(side);
        arg(code >= 0 && code <= TOP);
        return resetNow(parts[side].sends.get(id), code);
    }

    private static boolean resetNow(Send s, long code) {
        if (s == null || !s.open()) {
            return false;
        }
        s.state = 3;
        s.code = code;
        s.resetToSend = true;
        return true;
    }

    boolean stop(int side, int id, long code) {
        argSide(side);
        arg(code >= 0 && code <= TOP);
        Get g = parts[side].gets.get(id);
        if (g == null || g.state > 1 || g.stopped) {
            return false;
        }
        g.stopped = true;
        g.stopToSend = true;
        g.stopCode = code;
        return true;
    }

    int read(int side, int id, int most) {
        argSide(side);
        arg(most >= 0 && most <= 2048);
        out = new ArrayList<>();
        Get g = parts[side].gets.get(id);
        if (g == null) {
            return -1;
        }
        if (g.state == 4) {
            return -2;
        }
        while (out.size() < most && g.come.containsKey(g.read)) {
            out.add(g.come.get(g.read++));
        }
        g.look();
        if (!out.isEmpty()) {
            growData(parts[side]);
            if (g.state == 0 && 2 * (g.read + g.window - g.grant) >= g.window
                    && Math.min(65536, g.read + g.window) > g.grant) {
                g.grant = Math.min(65536, g.read + g.window);
                g.grantToTell = true;
            }
        }
        lookOver(side, id);
        return out.size();
    }

    private static void growData(Part p) {
        long sum = p.consumed() + p.grant[4];
        if (2 * (sum - p.dataGrant) >= p.grant[4] && Math.min(65536, sum) > p.dataGrant) {
            p.dataGrant = Math.min(65536, sum);
            p.dataGrantToTell = true;
        }
    }

    private void lookOver(int side, int id) {
        Part p = parts[side];
        Get g = p.gets.get(id);
        Send s = p.sends.get(id);
        boolean got = g == null || g.state >= 3;
        boolean gave = s == null || s.state == 2 || s.state == 4;
        if (id % 2 == side || !got || !gave || p.over.contains(id)) {
            return;
        }
        p.over.add(id);
        int way = id / 2 % 2;
        if (p.grant[8 + way] < 64) {
            p.grant[8 + way]++;
            p.streamsToTell[way] = true;
        }
    }

    int fill(int side, int room) {
        argSide(side);
        arg(room >= 1 && room <= 1200);
        state(joined);
        int place = 0;
        while (place < 64 && line[place] != null) {
            place++;
        }
        state(place < 64);
        Paper f = choose(side, room);
        if (f == null) {
            return -1;
        }
        line[place] = f;
        return place;
    }

    private Paper choose(int side, int room) {
        for (Paper f : due(side)) {
            if (f.bytes() <= room) {
                leave(parts[side], f);
                return f;
            }
        }
        Part p = parts[side];
        for (int k = 1; k <= 256; k++) {
            int id = (p.lastStream + k) % 256;
            Paper f = p.sends.containsKey(id) ? streamFrame(side, id, room) : null;
            if (f != null) {
                p.lastStream = id;
                return f;
            }
        }
        return null;
    }

    private List<Paper> due(int side) {
        Part p = parts[side];
        List<Paper> all = new ArrayList<>();
        p.sends.forEach((id, s) -> {
            if (s.state == 3 && s.resetToSend) {
                all.add(new Paper(side, 4, id, s.code, s.sent()));
            }
        });
        p.gets.forEach((id, g) -> {
            if (g.state <= 1 && g.stopToSend) {
                all.add(new Paper(side, 5, id, g.stopCode, 0));
            }
        });
        if (p.dataGrantToTell) {
            all.add(new Paper(side, 16, p.dataGrant, 0, 0));
        }
        p.gets.forEach((id, g) -> {
            if (g.state == 0 && g.grantToTell) {
                all.add(new Paper(side, 17, id, g.grant, 0));
            }
        });
        for (int way = 0; way < 2; way++) {
            if (p.streamsToTell[way]) {
                all.add(new Paper(side, 18 + way, p.grant[8 + way], 0, 0));
            }
        }
        boolean more = p.sends.values().stream().anyMatch(s -> s.open() && s.bytes.size() > s.sent());
        if (more && p.sent() == p.dataLimit && p.dataBlockedTold != p.dataLimit) {
            all.add(new Paper(side, 20, p.dataLimit, 0, 0));
        }
        p.sends.forEach((id, s) -> {
            if (s.open() && s.bytes.size() > s.sent() && s.sent() == s.limit && s.blockedTold != s.limit) {
                all.add(new Paper(side, 21, id, s.limit, 0));
            }
        });
        for (int way = 0; way < 2; way++) {
            if (p.refused[way] == p.openLimit[way] && p.blockedTold[way] != p.openLimit[way]) {
                all.add(new Paper(side, 22 + way, p.openLimit[way], 0, 0));
            }
        }
        return all;
    }

    private static void leave(Part p, Paper f) {
        int id = (int) f.a;
        switch (f.kind) {
            case 4: p.sends.get(id).resetToSend = false; break;
            case 5: p.gets.get(id).stopToSend = false; break;
            case 16: p.dataGrantToTell = false; break;
            case 17: p.gets.get(id).grantToTell = false; break;
            case 18: case 19: p.streamsToTell[f.kind - 18] = false; break;
            case 20: p.dataBlockedTold = f.a; break;
            case 21: p.sends.get(id).blockedTold = f.b; break;
            default: p.blockedTold[f.kind - 22] = f.a; break;
        }
    }

    private Paper streamFrame(int side, int id, int room) {
        Part p = parts[side];
        Send s = p.sends.get(id);
        if (!s.open()) {
            return null;
        }
        int from = s.fate.indexOf("L");
        int most = 0;
        if (from >= 0) {
            while (from + most < s.fate.length() && s.fate.charAt(from + most) == 'L') {
                most++;
            }
        } else {
            from = s.sent();
            while (from + most < s.bytes.size() && from + most < s.limit && p.sent() + most < p.dataLimit) {
                most++;
            }
        }
        boolean endAlone = most == 0 && from == s.bytes.size() && (s.end == 'N' || s.end == 'L');
        for (int n = most; n >= (endAlone ? 0 : 1); n--) {
            boolean end = s.state == 1 && from + n == s.bytes.size();
            Paper f = new Paper(side, 8, id, from, end ? 1 : 0);
            f.data.addAll(s.bytes.subList(from, from + n));
            if (f.bytes() <= room) {
                for (int i = from; i < from + n; i++) {
                    s.fate.setCharAt(i, 'O');
                }
                if (end && s.end != 'H') {
                    s.end = 'O';
                }
                return f;
            }
        }
        return null;
    }

    private Paper at(int place) {
        element(place >= 0 && place < 64 && line[place] != null);
        return line[place];
    }

    int deliver(int place) {
        Paper f = at(place);
        int answer = taking(1 - f.side, f);
        f.delivered |= answer == 0;
        return answer;
    }

    void gone(int place, boolean arrived) {
        Paper f = at(place);
        state(!arrived || f.delivered);
        line[place] = null;
        Part p = parts[f.side];
        int id = (int) f.a;
        if (f.kind == 8) {
            Send s = p.sends.get(id);
            for (int i = (int) f.b; i < f.b + f.data.size(); i++) {
                if (s.fate.charAt(i) != 'H') {
                    s.fate.setCharAt(i, arrived ? 'H' : 'L');
                }
            }
            if (f.c == 1 && s.end != 'H') {
                s.end = arrived ? 'H' : 'L';
            }
            if (s.state == 1 && s.end == 'H' && s.count("H") == s.bytes.size()) {
                s.state = 2;
            }
            lookOver(f.side, id);
        } else if (arrived) {
            if (f.kind == 4 && p.sends.get(id).state == 3) {
                p.sends.get(id).state = 4;
                lookOver(f.side, id);
            }
        } else {
            lost(p, f, id);
        }
    }

    private static void lost(Part p, Paper f, int id) {
        switch (f.kind) {
            case 4: p.sends.get(id).resetToSend = true; break;
            case 5: p.gets.get(id).stopToSend = true; break;
            case 16: p.dataGrantToTell |= f.a == p.dataGrant; break;
            case 17: p.gets.get(id).grantToTell |= f.b == p.gets.get(id).grant; break;
            case 18: case 19: p.streamsToTell[f.kind - 18] |= f.a == p.grant[f.kind - 10]; break;
            case 20:
                if (p.dataBlockedTold == f.a) {
                    p.dataBlockedTold = -1;
                }
                break;
            case 21:
                if (p.sends.get(id).blockedTold == f.b) {
                    p.sends.get(id).blockedTold = -1;
                }
                break;
            default:
                if (p.blockedTold[f.kind - 22] == f.a) {
                    p.blockedTold[f.kind - 22] = -1;
                }
                break;
        }
    }

    int take(int side, int kind, long a, long b, long c) {
        argSide(side);
        arg(List.of(4, 5, 8, 16, 17, 18, 19, 20, 21, 22, 23).contains(kind));
        arg(a >= 0 && a <= TOP && b >= 0 && b <= TOP && c >= 0 && c <= TOP);
        arg(kind != 8 || c <= 1 && b <= 4611686018427380000L);
        state(joined);
        Paper f = new Paper(1 - side, kind, a, b, c);
        f.data.addAll(tape);
        tape = new ArrayList<>();
        return taking(side, f);
    }

    private int taking(int side, Paper f) {
        Part p = parts[side];
        if (f.kind == 16) {
            p.dataLimit = Math.max(p.dataLimit, f.a);
        }
        if (f.kind == 18 || f.kind == 19) {
            int way = f.kind - 18;
            p.openLimit[way] = Math.min(64, Math.max(p.openLimit[way], f.a));
        }
        if (!List.of(4, 5, 8, 17, 21).contains(f.kind)) {
            return 0;
        }
        boolean mine = f.a % 2 == side;
        int way = (int) (f.a / 2 % 2);
        boolean aboutSending = f.kind == 5 || f.kind == 17;
        if (mine && (f.a > 255 || f.a / 4 >= p.opened[way])) {
            return 5;
        }
        if (way == 1 && mine && !aboutSending || way == 1 && !mine && aboutSending) {
            return 5;
        }
        if (!mine && f.a / 4 >= p.grant[8 + way]) {
            return 4;
        }
        int id = (int) f.a;
        Get g = p.gets.get(id);
        boolean fresh = !mine && id / 4 >= p.there[way];
        if (f.kind == 8 || f.kind == 4) {
            long e = f.kind == 4 ? f.c : f.b + f.data.size();
            boolean end = f.kind == 4 || f.c == 1;
            long size = fresh ? -1 : g.size;
            long highest = fresh ? 0 : g.highest;
            long grant = fresh ? p.grant[way == 1 ? 7 : 6] : g.grant;
            if (size != -1 && e > size || size != -1 && end && e != size || end && e < highest) {
                return 6;
            }
            if (e > grant || p.received() - highest + Math.max(highest, e) > p.dataGrant) {
                return 3;
            }
        }
        while (!mine && p.there[way] <= id / 4) {
            appear(side, 4 * p.there[way]++ + id % 4);
        }
        switch (f.kind) {
            case 4: takeReset(p, p.gets.get(id), f); break;
            case 5: resetNow(p.sends.get(id), f.b); break;
            case 8: takeStream(p.gets.get(id), f); break;
            case 17: p.sends.get(id).limit = Math.max(p.sends.get(id).limit, f.b); break;
            default: break;
        }
        lookOver(side, id);
        return 0;
    }

    private static void takeReset(Part p, Get g, Paper f) {
        g.highest = f.c;
        if (g.state <= 1) {
            g.state = 4;
            g.size = f.c;
            g.code = f.b;
            growData(p);
        }
    }

    private static void takeStream(Get g, Paper f) {
        long e = f.b + f.data.size();
        g.highest = Math.max(g.highest, e);
        if (f.c == 1) {
            g.size = e;
        }
        if (g.state <= 1) {
            for (int i = 0; i < f.data.size(); i++) {
                g.come.putIfAbsent(f.b + i, f.data.get(i));
            }
            g.look();
        }
    }

    long line(int place, int what) {
        Paper f = at(place);
        element(what >= 0 && what <= 6);
        return new long[] {f.side, f.kind, f.a, f.b, f.c, f.data.size(), f.bytes()}[what];
    }

    int data(int place, int k) {
        Paper f = at(place);
        element(k >= 0 && k < f.data.size());
        return f.data.get(k);
    }

    long outs(int k) {
        element(k >= 0 && k < out.size());
        long v = 0;
        for (int i = Math.min(k + 8, out.size()) - 1; i >= k; i--) {
            v = v << 8 | out.get(i);
        }
        return v;
    }

    long stream(int side, int id, int what) {
        argSide(side);
        arg(what >= 0 && what <= 14);
        Send s = parts[side].sends.get(id);
        Get g = parts[side].gets.get(id);
        if (what < 8) {
            return s == null ? -1 : new long[] {s.state, s.bytes.size(), s.sent(), s.limit, s.code, s.count("L"),
                s.count("H"), "-NOLH".indexOf(s.end)}[what];
        }
        return g == null ? -1 : new long[] {g.state, g.read, g.ready(), g.highest, g.size, g.grant, g.code}[what - 8];
    }

    long side(int side, int what) {
        argSide(side);
        arg(what >= 0 && what <= 13);
        Part p = parts[side];
        return new long[] {p.sent(), p.dataLimit, p.received(), p.consumed(), p.dataGrant, p.opened[0], p.opened[1],
            p.openLimit[0], p.openLimit[1], p.there[0], p.there[1], p.grant[8], p.grant[9], p.written()}[what];
    }
}
