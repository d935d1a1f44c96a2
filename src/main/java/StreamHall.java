import java.util.NoSuchElementException;

/**
 * The streams of a connection between two sides. DOC.md tells what every call promises; README.md
 * tells how the parts of this file share the work.
 */
public final class StreamHall {
    private static final long TOP_NUMBER = 4611686018427387903L;
    /** Lower than TOP_NUMBER, so that an offset and a whole tape stay a number of a frame. */
    private static final long TOP_OFFSET = 4611686018427380000L;
    private static final int TOP_BYTES = 65536;
    private static final int TOP_STREAMS = 64;
    private static final int TOP_TAPE = 2048;
    private static final int TOP_ROOM = 1200;
    private static final int IDS = 256;
    private static final int PLACES = 64;

    private static final int RESET = 4;
    private static final int STOP = 5;
    private static final int STREAM = 8;
    private static final int MAX_DATA = 16;
    private static final int MAX_STREAM_DATA = 17;
    private static final int MAX_STREAMS = 18;
    private static final int DATA_BLOCKED = 20;
    private static final int STREAM_DATA_BLOCKED = 21;
    private static final int STREAMS_BLOCKED = 22;
    private static final int LAST_KIND = 23;

    private static final int FINE = 0;
    private static final int FLOW_ERROR = 3;
    private static final int LIMIT_ERROR = 4;
    private static final int STATE_ERROR = 5;
    private static final int SIZE_ERROR = 6;

    private static final int GRANT_DATA = 4;
    private static final int GRANT_OWN = 5;
    private static final int GRANT_PEER = 6;
    private static final int GRANT_ONE = 7;
    private static final int GRANT_STREAMS = 8;
    private static final int LAST_GRANT = 9;

    /** What has become of a byte, or of the end; a byte that was in no frame yet has none of these. */
    private static final int NEW = 1;
    private static final int OUT = 2;
    private static final int LOST = 3;
    private static final int HERE = 4;

    /** The states of a sending part. */
    private static final int SEND_OPEN = 0;
    private static final int SEND_FINISHED = 1;
    private static final int SEND_ARRIVED = 2;
    private static final int SEND_RESET = 3;
    private static final int SEND_RESET_HERE = 4;

    /** The states of a receiving part. */
    private static final int GET_OPEN = 0;
    private static final int GET_SIZED = 1;
    private static final int GET_WHOLE = 2;
    private static final int GET_READ = 3;
    private static final int GET_RESET = 4;

    private final Side[] sides = new Side[2];
    private final Frame[] places = new Frame[PLACES];
    private final Frame taken = new Frame();
    private final byte[] tape = new byte[TOP_TAPE];
    private final byte[] handed = new byte[TOP_TAPE];
    private int tapeLength;
    private int handedLength;
    private boolean joined;

    public StreamHall() {
        sides[0] = new Side(0);
        sides[1] = new Side(1);
        for (int place = 0; place < PLACES; place++) {
            places[place] = new Frame();
        }
    }

    public void grant(int side, int id, int v) throws IllegalArgumentException, IllegalStateException {
        Side s = sideAt(side);
        if (id < GRANT_DATA || id > LAST_GRANT) {
            throw new IllegalArgumentException("no such grant");
        }
        if (v < 0 || v > (id < GRANT_STREAMS ? TOP_BYTES : TOP_STREAMS)) {
            throw new IllegalArgumentException("no such number for a grant");
        }
        if (joined) {
            throw new IllegalStateException("the sides are joined");
        }
        s.setGrant(id, v);
    }

    public void join() throws IllegalStateException {
        if (joined) {
            throw new IllegalStateException("the sides are joined");
        }
        sides[0].learnLimits(sides[1]);
        sides[1].learnLimits(sides[0]);
        joined = true;
    }

    public int feed(int n, long v) throws IllegalArgumentException, IllegalStateException {
        if (n < 1 || n > 8) {
            throw new IllegalArgumentException("not 1 to 8 bytes");
        }
        if (tapeLength + n > TOP_TAPE) {
            throw new IllegalStateException("the tape is full");
        }
        for (int k = 0; k < n; k++) {
            tape[tapeLength + k] = (byte) (v >>> (8 * k));
        }
        tapeLength += n;
        return tapeLength;
    }

    public int open(int side, boolean both) throws IllegalArgumentException, IllegalStateException {
        Side s = sideAt(side);
        needJoined();
        return s.openNext(both ? 0 : 1);
    }

    public int write(int side, int id) throws IllegalArgumentException {
        Side s = sideAt(side);
        int count = tapeLength;
        tapeLength = 0;
        return s.accept(id, tape, count);
    }

    public boolean finish(int side, int id) throws IllegalArgumentException {
        Sending part = sideAt(side).sendingOf(id);
        if (part == null || part.state != SEND_OPEN) {
            return false;
        }
        part.state = SEND_FINISHED;
        part.end = NEW;
        return true;
    }

    public boolean reset(int side, int id, long code) throws IllegalArgumentException {
        Sending part = sideAt(side).sendingOf(id);
        needCode(code);
        if (part == null || !part.isLive()) {
            return false;
        }
        part.giveUp(code);
        return true;
    }

    public boolean stop(int side, int id, long code) throws IllegalArgumentException {
        Receiving part = sideAt(side).receivingOf(id);
        needCode(code);
        if (part == null || !part.isLive() || part.stopAsked) {
            return false;
        }
        part.stopAsked = true;
        part.stopDue = true;
        part.stopCode = code;
        return true;
    }

    public int read(int side, int id, int most) throws IllegalArgumentException {
        Side s = sideAt(side);
        if (most < 0 || most > TOP_TAPE) {
            throw new IllegalArgumentException("not 0 to 2048 bytes");
        }
        int count = s.handOut(id, handed, most);
        handedLength = Math.max(count, 0);
        return count;
    }

    public int fill(int side, int room) throws IllegalArgumentException, IllegalStateException {
        Side s = sideAt(side);
        if (room < 1 || room > TOP_ROOM) {
            throw new IllegalArgumentException("not 1 to 1200 bytes");
        }
        needJoined();
        int place = leastFreePlace();
        if (place == PLACES) {
            throw new IllegalStateException("the line is full");
        }
        Frame frame = places[place];
        if (!s.fillNext(frame, room)) {
            return -1;
        }
        frame.laid = true;
        frame.landed = false;
        frame.sender = side;
        return place;
    }

    public int deliver(int place) throws NoSuchElementException {
        Frame frame = frameAt(place);
        int answer = sides[1 - frame.sender].takeIn(frame);
        if (answer == FINE) {
            frame.landed = true;
        }
        return answer;
    }

    public void gone(int place, boolean arrived) throws NoSuchElementException, IllegalStateException {
        Frame frame = frameAt(place);
        if (arrived && !frame.landed) {
            throw new IllegalStateException("the frame was never delivered");
        }
        frame.laid = false;
        Side s = sides[frame.sender];
        if (arrived) {
            s.hearArrived(frame);
        } else {
            s.hearLost(frame);
        }
    }

    public int take(int side, int kind, long a, long b, long c)
            throws IllegalArgumentException, IllegalStateException {
        Side s = sideAt(side);
        if (!isKind(kind) || !isNumber(a) || !isNumber(b) || !isNumber(c)) {
            throw new IllegalArgumentException("no such frame");
        }
        if (kind == STREAM && (b > TOP_OFFSET || c > 1)) {
            throw new IllegalArgumentException("no such stream frame");
        }
        needJoined();
        taken.setFields(kind, a, b, c);
        taken.setData(tape, 0, tapeLength);
        tapeLength = 0;
        return s.takeIn(taken);
    }

    public long line(int place, int what) throws NoSuchElementException {
        Frame frame = frameAt(place);
        switch (what) {
            case 0: return frame.sender;
            case 1: return frame.kind;
            case 2: return frame.a;
            case 3: return frame.b;
            case 4: return frame.c;
            case 5: return frame.count;
            case 6: return frame.size;
            default: throw new NoSuchElementException("a frame has no such thing");
        }
    }

    public int data(int place, int k) throws NoSuchElementException {
        Frame frame = frameAt(place);
        if (k < 0 || k >= frame.count || frame.row == null) {
            throw new NoSuchElementException("the frame has no such byte");
        }
        return frame.row[frame.start + k] & 255;
    }

    public long outs(int k) throws NoSuchElementException {
        if (k < 0 || k >= handedLength) {
            throw new NoSuchElementException("no such byte was handed out");
        }
        int count = Math.min(8, handedLength - k);
        long number = 0;
        for (int i = 0; i < count; i++) {
            number |= (handed[k + i] & 255L) << (8 * i);
        }
        return number;
    }

    public long stream(int side, int id, int what) throws IllegalArgumentException {
        Side s = sideAt(side);
        if (what < 0 || what > 14) {
            throw new IllegalArgumentException("a stream has no such thing");
        }
        if (what < 8) {
            Sending part = s.sendingOf(id);
            return part == null ? -1 : part.tell(what);
        }
        Receiving part = s.receivingOf(id);
        return part == null ? -1 : part.tell(what);
    }

    public long side(int side, int what) throws IllegalArgumentException {
        Side s = sideAt(side);
        if (what < 0 || what > 13) {
            throw new IllegalArgumentException("a side has no such thing");
        }
        return s.tell(what);
    }

    private Side sideAt(int number) {
        if (number < 0 || number > 1) {
            throw new IllegalArgumentException("no such side");
        }
        return sides[number];
    }

    private Frame frameAt(int place) {
        if (place < 0 || place >= PLACES || !places[place].laid) {
            throw new NoSuchElementException("no frame is there");
        }
        return places[place];
    }

    private void needJoined() {
        if (!joined) {
            throw new IllegalStateException("the sides are not joined");
        }
    }

    private static void needCode(long code) {
        if (!isNumber(code)) {
            throw new IllegalArgumentException("no such code");
        }
    }

    private static boolean isNumber(long v) {
        return v >= 0 && v <= TOP_NUMBER;
    }

    private static boolean isKind(int kind) {
        return kind == RESET || kind == STOP || kind == STREAM || kind >= MAX_DATA && kind <= LAST_KIND;
    }

    private int leastFreePlace() {
        int place = 0;
        while (place < PLACES && places[place].laid) {
            place++;
        }
        return place;
    }

    /** One of the two sides: what it has granted, what it may send, and its parts of the streams. */
    private static final class Side {
        final int number;
        /** By the ids of the grants; 8 and 9 grow as streams are over, 4 to 7 stay. */
        final int[] grants = {0, 0, 0, 0, 4096, 1024, 1024, 1024, 4, 4};
        final int[] peerGrants = new int[LAST_GRANT + 1];
        final Way[] ways = {new Way(), new Way()};
        final Sending[] sending = new Sending[IDS];
        final Receiving[] receiving = new Receiving[IDS];
        /** One more than the highest id that is there: the walks over all streams end at it. */
        int topId;
        int lastFilled = -1;
        int written;
        int sent;
        long dataLimit;
        long dataBlockedAt = -1;
        int received;
        int consumed;
        int dataGrant = 4096;
        boolean dataGrantDue;

        Side(int number) {
            this.number = number;
        }

        void setGrant(int id, int v) {
            grants[id] = v;
            if (id == GRANT_DATA) {
                dataGrant = v;
            }
        }

        void learnLimits(Side other) {
            System.arraycopy(other.grants, 0, peerGrants, 0, peerGrants.length);
            dataLimit = peerGrants[GRANT_DATA];
            ways[0].limit = peerGrants[GRANT_STREAMS];
            ways[1].limit = peerGrants[GRANT_STREAMS + 1];
        }

        long tell(int what) {
            switch (what) {
                case 0: return sent;
                case 1: return dataLimit;
                case 2: return received;
                case 3: return consumed;
                case 4: return dataGrant;
                case 5: return ways[0].opened;
                case 6: return ways[1].opened;
                case 7: return ways[0].limit;
                case 8: return ways[1].limit;
                case 9: return ways[0].come;
                case 10: return ways[1].come;
                case 11: return grants[GRANT_STREAMS];
                case 12: return grants[GRANT_STREAMS + 1];
                default: return written;
            }
        }

        Sending sendingOf(int id) {
            return id < 0 || id >= IDS ? null : sending[id];
        }

        Receiving receivingOf(int id) {
            return id < 0 || id >= IDS ? null : receiving[id];
        }

        int openNext(int way) {
            Way w = ways[way];
            if (w.opened >= w.limit) {
                w.refusedAt = w.limit;
                return -1;
            }
            int id = w.opened * 4 + way * 2 + number;
            w.opened++;
            makeParts(id);
            return id;
        }

        private void makeParts(int id) {
            boolean own = id % 2 == number;
            boolean both = wayOf(id) == 0;
            if (own || both) {
                sending[id] = new Sending(peerGrants[grantFor(1 - number, id)]);
            }
            if (!own || both) {
                receiving[id] = new Receiving(grants[grantFor(number, id)]);
            }
            topId = Math.max(topId, id + 1);
        }

        private static int wayOf(int id) {
            return id / 2 % 2;
        }

        /** Which grant of a side is for the bytes that it gets of a stream. */
        private static int grantFor(int getter, int id) {
            if (wayOf(id) == 1) {
                return GRANT_ONE;
            }
            return id % 2 == getter ? GRANT_OWN : GRANT_PEER;
        }

        int accept(int id, byte[] bytes, int count) {
            Sending part = sendingOf(id);
            if (part == null || part.state != SEND_OPEN) {
                return -1;
            }
            int fit = Math.min(count, TOP_BYTES - written);
            part.append(bytes, fit);
            written += fit;
            return fit;
        }

        int handOut(int id, byte[] into, int most) {
            Receiving part = receivingOf(id);
            if (part == null) {
                return -1;
            }
            if (part.state == GET_RESET) {
                return -2;
            }
            int count = part.moveOut(into, most);
            consumed += count;
            growDataGrant();
            part.growGrant();
            growIfOver(id);
            return count;
        }

        private void growDataGrant() {
            int grown = grownGrant(consumed, grants[GRANT_DATA], dataGrant);
            if (grown > dataGrant) {
                dataGrant = grown;
                dataGrantDue = true;
            }
        }

        private void growIfOver(int id) {
            Receiving part = receiving[id];
            if (id % 2 == number || part == null || part.over || !isOver(part, sending[id])) {
                return;
            }
            part.over = true;
            int way = wayOf(id);
            if (grants[GRANT_STREAMS + way] < TOP_STREAMS) {
                grants[GRANT_STREAMS + way]++;
                ways[way].grantDue = true;
            }
        }

        private static boolean isOver(Receiving got, Sending given) {
            boolean gotAll = got.state == GET_READ || got.state == GET_RESET;
            return gotAll && (given == null || given.state == SEND_ARRIVED || given.state == SEND_RESET_HERE);
        }

        int takeIn(Frame frame) {
            switch (frame.kind) {
                case MAX_DATA:
                    dataLimit = Math.max(dataLimit, frame.a);
                    return FINE;
                case MAX_STREAMS:
                case MAX_STREAMS + 1:
                    ways[frame.kind - MAX_STREAMS].raiseLimit(frame.a);
                    return FINE;
                case DATA_BLOCKED:
                case STREAMS_BLOCKED:
                case STREAMS_BLOCKED + 1:
                    return FINE;
                case STOP:
                case MAX_STREAM_DATA:
                    return takeForSending(frame);
                default:
                    return takeForReceiving(frame);
            }
        }

        private int takeForSending(Frame frame) {
            int error = streamError(frame.a, true);
            if (error != FINE) {
                return error;
            }
            int id = (int) frame.a;
            makeThere(id);
            Sending part = sending[id];
            if (part != null && frame.kind == MAX_STREAM_DATA) {
                part.limit = Math.max(part.limit, frame.b);
            } else if (part != null && part.isLive()) {
                part.giveUp(frame.b);
            }
            return FINE;
        }

        private int takeForReceiving(Frame frame) {
            int error = streamError(frame.a, false);
            if (error != FINE) {
                return error;
            }
            int id = (int) frame.a;
            if (frame.kind == STREAM_DATA_BLOCKED) {
                makeThere(id);
                return FINE;
            }
            boolean isEnd = frame.kind == RESET || frame.c == 1;
            long behind = frame.kind == RESET ? frame.c : frame.b + frame.count;
            error = bytesError(id, behind, isEnd);
            if (error != FINE) {
                return error;
            }
            makeThere(id);
            if (receiving[id] != null) {
                reach(id, receiving[id], frame, (int) behind, isEnd);
            }
            return FINE;
        }

        private int streamError(long a, boolean sends) {
            int way = (int) (a / 2 % 2);
            boolean own = a % 2 == number;
            if (own && a / 4 >= ways[way].opened) {
                return STATE_ERROR;
            }
            if (way == 1 && own != sends) {
                return STATE_ERROR;
            }
            return !own && a / 4 >= grants[GRANT_STREAMS + way] ? LIMIT_ERROR : FINE;
        }

        /** The stream may not be there yet: it must not come to be there by a frame with an error. */
        private int bytesError(int id, long behind, boolean isEnd) {
            Receiving part = receiving[id];
            int size = part == null ? -1 : part.size;
            int highest = part == null ? 0 : part.highest;
            int told = part == null ? grants[grantFor(number, id)] : part.told;
            if (size >= 0 && (behind > size || isEnd && behind != size) || isEnd && behind < highest) {
                return SIZE_ERROR;
            }
            if (behind > told || behind > highest && received + (behind - highest) > dataGrant) {
                return FLOW_ERROR;
            }
            return FINE;
        }

        private void makeThere(int id) {
            if (id % 2 == number) {
                return;
            }
            Way w = ways[wayOf(id)];
            for (int n = w.come; n <= id / 4; n++) {
                makeParts(n * 4 + id % 4);
            }
            w.come = Math.max(w.come, id / 4 + 1);
        }

        private void reach(int id, Receiving part, Frame frame, int behind, boolean isEnd) {
            received += Math.max(0, behind - part.highest);
            part.highest = Math.max(part.highest, behind);
            if (!part.isLive()) {
                return;
            }
            if (isEnd) {
                part.size = behind;
            }
            if (frame.kind == RESET) {
                part.state = GET_RESET;
                part.code = frame.b;
                consumed += part.size - part.read;
                growDataGrant();
            } else {
                part.bringIn(frame, behind - frame.count);
                part.settle();
            }
            growIfOver(id);
        }

        boolean fillNext(Frame frame, int room) {
            return fillReset(frame, room) || fillStop(frame, room) || fillDataGrant(frame, room)
                || fillGrant(frame, room) || fillStreamsGrant(frame, room) || fillDataBlocked(frame, room)
                || fillBlocked(frame, room) || fillStreamsBlocked(frame, room) || fillStream(frame, room);
        }

        private boolean fillReset(Frame frame, int room) {
            for (int id = 0; id < topId; id++) {
                Sending part = sending[id];
                if (part != null && part.state == SEND_RESET && part.resetDue
                        && frame.fits(RESET, id, part.code, part.sent, room)) {
                    part.resetDue = false;
                    return true;
                }
            }
            return false;
        }

        private boolean fillStop(Frame frame, int room) {
            for (int id = 0; id < topId; id++) {
                Receiving part = receiving[id];
                if (part != null && part.isLive() && part.stopDue
                        && frame.fits(STOP, id, part.stopCode, 0, room)) {
                    part.stopDue = false;
                    return true;
                }
            }
            return false;
        }

        private boolean fillDataGrant(Frame frame, int room) {
            if (dataGrantDue && frame.fits(MAX_DATA, dataGrant, 0, 0, room)) {
                dataGrantDue = false;
                return true;
            }
            return false;
        }

        private boolean fillGrant(Frame frame, int room) {
            for (int id = 0; id < topId; id++) {
                Receiving part = receiving[id];
                if (part != null && part.state == GET_OPEN && part.grantDue
                        && frame.fits(MAX_STREAM_DATA, id, part.told, 0, room)) {
                    part.grantDue = false;
                    return true;
                }
            }
            return false;
        }

        private boolean fillStreamsGrant(Frame frame, int room) {
            for (int way = 0; way < 2; way++) {
                if (ways[way].grantDue
                        && frame.fits(MAX_STREAMS + way, grants[GRANT_STREAMS + way], 0, 0, room)) {
                    ways[way].grantDue = false;
                    return true;
                }
            }
            return false;
        }

        private boolean fillDataBlocked(Frame frame, int room) {
            if (sent >= dataLimit && dataBlockedAt != dataLimit && hasUnsent()
                    && frame.fits(DATA_BLOCKED, dataLimit, 0, 0, room)) {
                dataBlockedAt = dataLimit;
                return true;
            }
            return false;
        }

        private boolean hasUnsent() {
            for (int id = 0; id < topId; id++) {
                if (sending[id] != null && sending[id].hasUnsent()) {
                    return true;
                }
            }
            return false;
        }

        private boolean fillBlocked(Frame frame, int room) {
            for (int id = 0; id < topId; id++) {
                Sending part = sending[id];
                if (part != null && part.hasUnsent() && part.sent == part.limit && part.blockedAt != part.limit
                        && frame.fits(STREAM_DATA_BLOCKED, id, part.limit, 0, room)) {
                    part.blockedAt = part.limit;
                    return true;
                }
            }
            return false;
        }

        private boolean fillStreamsBlocked(Frame frame, int room) {
            for (int way = 0; way < 2; way++) {
                Way w = ways[way];
                if (w.refusedAt == w.limit && w.blockedAt != w.limit
                        && frame.fits(STREAMS_BLOCKED + way, w.limit, 0, 0, room)) {
                    w.blockedAt = w.limit;
                    return true;
                }
            }
            return false;
        }

        private boolean fillStream(Frame frame, int room) {
            for (int step = 1; step <= topId; step++) {
                int id = lastFilled + step;
                if (id >= topId) {
                    id -= topId;
                }
                Sending part = sending[id];
                if (part != null && part.isLive() && fillFrom(frame, room, id, part)) {
                    lastFilled = id;
                    return true;
                }
            }
            return false;
        }

        private boolean fillFrom(Frame frame, int room, int id, Sending part) {
            int from = part.lost > 0 ? part.firstLost() : part.sent;
            int most = part.lost > 0 ? part.lostRun(from) : sendable(part);
            if (most == 0 && !part.owesEnd()) {
                return false;
            }
            int count = frame.countThatFits(id, from, most, room);
            if (count < 0 || count == 0 && most > 0) {
                return false;
            }
            boolean toEnd = part.state == SEND_FINISHED && from + count == part.written;
            frame.setFields(STREAM, id, from, toEnd ? 1 : 0);
            frame.setData(part.row, from, count);
            sent += part.markOut(from, count);
            if (toEnd && part.end != HERE) {
                part.end = OUT;
            }
            return true;
        }

        private int sendable(Sending part) {
            long allowed = Math.min(part.limit - part.sent, dataLimit - sent);
            return (int) Math.max(0, Math.min(part.written - part.sent, allowed));
        }

        void hearArrived(Frame frame) {
            int id = frame.streamId();
            Sending part = sendingOf(id);
            if (part == null) {
                return;
            }
            if (frame.kind == STREAM) {
                part.markHere(frame.start, frame.count, frame.c == 1);
                growIfOver(id);
            } else if (frame.kind == RESET && part.state == SEND_RESET) {
                part.state = SEND_RESET_HERE;
                growIfOver(id);
            }
        }

        void hearLost(Frame frame) {
            int id = frame.streamId();
            if (id < 0) {
                hearLostOfAll(frame);
            } else if (frame.kind == STOP || frame.kind == MAX_STREAM_DATA) {
                hearLostOfReceiving(frame, receivingOf(id));
            } else {
                hearLostOfSending(frame, sendingOf(id));
            }
        }

        private void hearLostOfAll(Frame frame) {
            switch (frame.kind) {
                case MAX_DATA:
                    dataGrantDue = dataGrantDue || frame.a == dataGrant;
                    break;
                case DATA_BLOCKED:
                    dataBlockedAt = frame.a == dataBlockedAt ? -1 : dataBlockedAt;
                    break;
                case MAX_STREAMS:
                case MAX_STREAMS + 1:
                    int way = frame.kind - MAX_STREAMS;
                    ways[way].grantDue = ways[way].grantDue || frame.a == grants[GRANT_STREAMS + way];
                    break;
                case STREAMS_BLOCKED:
                case STREAMS_BLOCKED + 1:
                    Way w = ways[frame.kind - STREAMS_BLOCKED];
                    w.blockedAt = frame.a == w.blockedAt ? -1 : w.blockedAt;
                    break;
                default:
                    break;
            }
        }

        private static void hearLostOfReceiving(Frame frame, Receiving part) {
            if (part == null) {
                return;
            }
            if (frame.kind == STOP) {
                part.stopDue = true;
            } else {
                part.grantDue = part.grantDue || frame.b == part.told;
            }
        }

        private static void hearLostOfSending(Frame frame, Sending part) {
            if (part == null) {
                return;
            }
            if (frame.kind == STREAM) {
                part.markLost(frame.start, frame.count, frame.c == 1);
            } else if (frame.kind == RESET) {
                part.resetDue = true;
            } else if (frame.b == part.blockedAt) {
                part.blockedAt = -1;
            }
        }

        /** The grant that is told next, when so much was used of it; the same one if it is too early. */
        static int grownGrant(int used, int window, int told) {
            int sum = used + window;
            return 2 * (sum - told) >= window ? Math.max(told, Math.min(sum, TOP_BYTES)) : told;
        }
    }

    /** The streams of one way as a side counts them: those it opens, and those of the other side. */
    private static final class Way {
        int opened;
        int limit;
        int refusedAt = -1;
        int blockedAt = -1;
        int come;
        boolean grantDue;

        void raiseLimit(long v) {
            limit = (int) Math.min(TOP_STREAMS, Math.max(limit, v));
        }
    }

    /** What one side sends of a stream. */
    private static final class Sending {
        int state = SEND_OPEN;
        byte[] row = new byte[0];
        byte[] marks = new byte[0];
        int written;
        int sent;
        int lost;
        int here;
        int end;
        long limit;
        long blockedAt = -1;
        long code;
        boolean resetDue;

        Sending(long limit) {
            this.limit = limit;
        }

        long tell(int what) {
            switch (what) {
                case 0: return state;
                case 1: return written;
                case 2: return sent;
                case 3: return limit;
                case 4: return code;
                case 5: return lost;
                case 6: return here;
                default: return end;
            }
        }

        boolean isLive() {
            return state == SEND_OPEN || state == SEND_FINISHED;
        }

        boolean hasUnsent() {
            return isLive() && written > sent;
        }

        boolean owesEnd() {
            return state == SEND_FINISHED && sent == written && (end == NEW || end == LOST);
        }

        void giveUp(long why) {
            state = SEND_RESET;
            code = why;
            resetDue = true;
        }

        /** Makes a new row rather than change one: frames on the line go on to use the old one. */
        void append(byte[] bytes, int count) {
            int need = written + count;
            if (need > row.length) {
                byte[] longerRow = new byte[grownLength(row.length, need)];
                byte[] longerMarks = new byte[longerRow.length];
                System.arraycopy(row, 0, longerRow, 0, written);
                System.arraycopy(marks, 0, longerMarks, 0, sent);
                row = longerRow;
                marks = longerMarks;
            }
            System.arraycopy(bytes, 0, row, written, count);
            written = need;
        }

        int firstLost() {
            int k = 0;
            while (k < sent && marks[k] != LOST) {
                k++;
            }
            return k;
        }

        int lostRun(int from) {
            int k = from;
            while (k < sent && marks[k] == LOST) {
                k++;
            }
            return k - from;
        }

        /** How many of them had not been sent before. */
        int markOut(int from, int count) {
            int behind = from + count;
            for (int k = from; k < behind; k++) {
                if (marks[k] == LOST) {
                    lost--;
                }
                marks[k] = OUT;
            }
            int more = Math.max(0, behind - sent);
            sent += more;
            return more;
        }

        void markHere(int from, int count, boolean withEnd) {
            for (int k = from; k < from + count; k++) {
                if (marks[k] == LOST) {
                    lost--;
                }
                if (marks[k] != HERE) {
                    here++;
                }
                marks[k] = HERE;
            }
            if (withEnd) {
                end = HERE;
            }
            if (state == SEND_FINISHED && end == HERE && here == written) {
                state = SEND_ARRIVED;
            }
        }

        void markLost(int from, int count, boolean withEnd) {
            for (int k = from; k < from + count; k++) {
                if (marks[k] == OUT) {
                    marks[k] = LOST;
                    lost++;
                }
            }
            if (withEnd && end != HERE) {
                end = LOST;
            }
        }
    }

    /** What one side gets of a stream. */
    private static final class Receiving {
        int state = GET_OPEN;
        /** A byte that has come, and 1 more; 0 where none has come. */
        short[] cells = new short[0];
        int read;
        int ready;
        int highest;
        int size = -1;
        /** The grant of 5 to 7 that the stream began with. */
        final int window;
        /** The latest limit told for the stream. */
        int told;
        boolean grantDue;
        boolean stopAsked;
        boolean stopDue;
        long stopCode;
        long code;
        boolean over;

        Receiving(int window) {
            this.window = window;
            this.told = window;
        }

        long tell(int what) {
            switch (what) {
                case 8: return state;
                case 9: return read;
                case 10: return ready;
                case 11: return highest;
                case 12: return size;
                case 13: return told;
                default: return code;
            }
        }

        boolean isLive() {
            return state == GET_OPEN || state == GET_SIZED;
        }

        int moveOut(byte[] into, int most) {
            int count = Math.min(most, ready - read);
            for (int k = 0; k < count; k++) {
                into[k] = (byte) (cells[read + k] - 1);
            }
            read += count;
            settle();
            return count;
        }

        void bringIn(Frame frame, int offset) {
            if (frame.count == 0 || frame.row == null) {
                return;
            }
            int behind = offset + frame.count;
            if (behind > cells.length) {
                short[] longer = new short[grownLength(cells.length, behind)];
                System.arraycopy(cells, 0, longer, 0, cells.length);
                cells = longer;
            }
            for (int k = 0; k < frame.count; k++) {
                if (cells[offset + k] == 0) {
                    cells[offset + k] = (short) ((frame.row[frame.start + k] & 255) + 1);
                }
            }
            while (ready < cells.length && cells[ready] != 0) {
                ready++;
            }
        }

        void settle() {
            if (size < 0) {
                return;
            }
            if (ready < size) {
                state = GET_SIZED;
            } else {
                state = read < size ? GET_WHOLE : GET_READ;
            }
        }

        void growGrant() {
            int grown = Side.grownGrant(read, window, told);
            if (state == GET_OPEN && grown > told) {
                told = grown;
                grantDue = true;
            }
        }
    }

    /** A frame: on the line, or one that is being taken. */
    private static final class Frame {
        boolean laid;
        /** Whether it was delivered without an error. */
        boolean landed;
        int sender;
        int kind;
        long a;
        long b;
        long c;
        /** The data are count bytes of a row from start on; nobody changes them while the frame lives. */
        byte[] row;
        int start;
        int count;
        int size;

        void setFields(int kindOfIt, long first, long second, long third) {
            kind = kindOfIt;
            a = first;
            b = second;
            c = third;
        }

        void setData(byte[] bytes, int from, int length) {
            row = bytes;
            start = from;
            count = length;
        }

        /** Becomes such a frame without data: whether the room is enough for it. */
        boolean fits(int kindOfIt, long first, long second, long third, int room) {
            setFields(kindOfIt, first, second, third);
            setData(null, 0, 0);
            size = 1 + width(first);
            if (kind == RESET || kind == STOP || kind == MAX_STREAM_DATA || kind == STREAM_DATA_BLOCKED) {
                size += width(second);
            }
            if (kind == RESET) {
                size += width(third);
            }
            return size <= room;
        }

        /** How many of most bytes fit into a STREAM frame, whose size is set; below 0 if it has no room at all. */
        int countThatFits(int id, int from, int most, int room) {
            int head = 1 + width(id) + (from == 0 ? 0 : width(from));
            int fit = Math.min(most, room - head - 1);
            if (head + width(fit) + fit > room) {
                // from 64 on the count takes two bytes
                fit--;
            }
            size = head + width(fit) + fit;
            return fit;
        }

        /** The stream that it is of, -1 if it is of none. */
        int streamId() {
            boolean ofStream = kind == RESET || kind == STOP || kind == STREAM || kind == MAX_STREAM_DATA
                || kind == STREAM_DATA_BLOCKED;
            return ofStream && a < IDS ? (int) a : -1;
        }
    }

    /** How many bytes a number takes in a frame. */
    private static int width(long v) {
        if (v < 64) {
            return 1;
        }
        if (v < 16384) {
            return 2;
        }
        return v < 1073741824 ? 4 : 8;
    }

    /** Twice the length, so that growing byte by byte makes few rows. */
    private static int grownLength(int length, int need) {
        return Math.min(TOP_BYTES, Math.max(need, 2 * length));
    }
}
