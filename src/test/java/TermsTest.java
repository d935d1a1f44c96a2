/** The sentences of "Terms" on exceptions, sides, streams, grants, sending and receiving, each by itself. */
public final class TermsTest {
    private static final String[] NO_SIDES = {"-1", "2", "int.min", "int.max"};
    private static final String[] NO_IDS = {"-1", "-4", "-256", "256", "257", "258", "259", "512", "int.min", "int.max"};

    /** A hall in which nearly all there is has begun; place 1 was not delivered, place 3 is free. */
    private static final String BUSY = """
        grant 0 6 40; grant 1 6 50; grant 1 4 200; join
        open 0 true = 0; open 0 true = 4; open 0 false = 2; open 1 false = 3
        tape 30; write 0 0 = 30; tape 10; write 0 2 = 10; finish 0 2 = 1; tape 5; write 1 3 = 5
        fill 0 20 = 0; fill 0 100 = 1; fill 1 100 = 2; deliver 0 = 0; deliver 2 = 0
        gone 1 false; fill 0 6 = 1; frame 1 = 0 8 0 17 0 2 6
        read 1 0 9 = 9; stop 1 0 5 = 1; reset 0 4 6 = 1; open 1 false = 7; take 0 21 7 0 0 = 0; tape 3
        """;

    private static final String FULL_LINE = "join; open 0 false = 2; tape 70; write 0 2 = 70; fill 0 4 = 0"
        + "; fill 0 5".repeat(63);

    public static void main(String[] args) {
        calls512();
        firstOfSeveralExceptions();
        throwsChangeNothing();
        throwsOfFullRowsChangeNothing();
        sides();
        ids();
        lastIds();
        idsTellSideAndWay();
        there();
        parts();
        grantsOfBytes();
        grantsOfStreams();
        firstGrants();
        limits();
        written();
        sent();
        fatesOfBytes();
        fatesOfTheEnd();
        limitOfSending();
        statesOfSending();
        mostWritten();
        read();
        ready();
        highest();
        size();
        grantOfReceiving();
        statesOfReceiving();
        sums();
        Run.end("TermsTest");
    }

    private static void calls512() {
        Run run = Run.of("An object is used for at most 512 calls after it has been made").calls("join");
        for (int k = 0; k < 255; k++) {
            run.calls("feed 1 " + k + " = 1; take 0 8 1 " + k + " 0 = 0");
        }
        run.calls("read 0 1 2048 = 255");
    }

    private static void firstOfSeveralExceptions() {
        String sentence = "Of several exceptions that hold the one listed first is thrown";
        Run.of(sentence).calls("""
            join; grant 2 4 0 throws argument; grant 0 3 0 throws argument; grant 0 10 0 throws argument
            grant 0 4 -1 throws argument; grant 0 9 65 throws argument; grant 0 4 0 throws state""");
        Run.of(sentence).calls("tape 2048; feed 9 0 throws argument; feed 0 0 throws argument; feed 1 0 throws state");
        Run.of(sentence).calls("open 2 true throws argument; open 0 true throws state");
        Run.of(sentence).calls("""
            fill 2 1 throws argument; fill 0 0 throws argument; fill 0 1201 throws argument
            fill 0 1 throws state""");
        Run.of(sentence).calls(FULL_LINE).calls("""
            fill 2 1 throws argument; fill 0 1201 throws argument; fill 1 0 throws argument
            fill 0 5 throws state""");
        Run.of(sentence).calls("""
            join; gone 0 true throws element; open 0 false = 2; finish 0 2 = 1; fill 0 9 = 0
            gone 1 true throws element; gone 64 true throws element; gone 0 true throws state""");
        Run.of(sentence).calls("""
            take 2 16 0 0 0 throws argument; take 0 9 0 0 0 throws argument; take 0 16 -1 0 0 throws argument
            take 0 16 0 TOP+1 0 throws argument; take 0 8 0 0 2 throws argument
            take 0 8 0 4611686018427380001 0 throws argument; take 0 16 0 0 0 throws state""");
    }

    private static void throwsChangeNothing() {
        String sentence = "a call that throws changes nothing";
        String[] rows = {
            "grant 2 4 7 throws argument", "grant 0 3 7 throws argument", "grant 0 10 7 throws argument",
            "grant 0 4 65537 throws argument", "grant 0 8 65 throws argument", "grant 0 4 7 throws state",
            "grant 1 8 64 throws state", "join throws state", "feed 0 7 throws argument", "feed 9 7 throws argument",
            "open 2 true throws argument", "open -1 false throws argument",
            "write 2 0 throws argument", "write -1 0 throws argument", "finish 2 0 throws argument",
            "reset 2 0 1 throws argument", "reset 0 0 -1 throws argument", "reset 0 0 TOP+1 throws argument",
            "stop 2 7 1 throws argument", "stop 0 7 -1 throws argument", "stop 0 7 TOP+1 throws argument",
            "read 2 0 1 throws argument", "read 1 0 -1 throws argument", "read 1 0 2049 throws argument",
            "fill 2 100 throws argument", "fill 0 0 throws argument", "fill 0 1201 throws argument",
            "deliver 3 throws element", "deliver -1 throws element", "deliver 64 throws element",
            "gone 3 false throws element", "gone -1 false throws element", "gone 64 true throws element",
            "gone 1 true throws state", "take 2 8 1 0 0 throws argument", "take 0 9 1 0 0 throws argument",
            "take 0 8 -1 0 0 throws argument", "take 0 8 1 0 2 throws argument",
            "take 0 8 1 4611686018427380001 0 throws argument", "take 0 16 TOP+1 0 0 throws argument",
            "take 0 16 5000 -1 0 throws argument", "take 0 16 5000 0 -1 throws argument",
            "line 3 0 throws element", "line 0 7 throws element", "data 0 17 throws element",
            "data 3 0 throws element", "outs 9 throws element", "outs -1 throws element",
            "stream 2 0 0 throws argument", "stream 0 0 15 throws argument", "side 2 0 throws argument",
            "side 0 14 throws argument",
        };
        for (String row : rows) {
            Run.unchanged(sentence, BUSY, row);
        }
        String early = "grant 0 4 100; grant 1 8 9; tape 3";
        String[] tooEarly = {"open 0 true throws state", "fill 0 10 throws state", "take 0 16 9 0 0 throws state",
            "take 0 8 1 0 0 throws state", "grant 0 4 -1 throws argument", "grant 1 9 65 throws argument"};
        for (String row : tooEarly) {
            Run.unchanged(sentence, early, row);
        }
    }

    private static void throwsOfFullRowsChangeNothing() {
        String sentence = "a call that throws changes nothing";
        Run.unchanged(sentence, "join; tape 2044", "feed 5 7 throws state; feed 8 -1 throws state");
        Run.unchanged(sentence, FULL_LINE, "fill 0 5 throws state; fill 1 1200 throws state");
    }

    private static void sides() {
        for (String s : NO_SIDES) {
            Run.of("SIDES are 0 and 1").calls("grant " + s + " 4 0 throws argument; join; tape 2")
                .calls("open " + s + " true throws argument; write " + s + " 0 throws argument")
                .calls("finish " + s + " 0 throws argument; reset " + s + " 0 0 throws argument")
                .calls("stop " + s + " 0 0 throws argument; read " + s + " 0 0 throws argument")
                .calls("fill " + s + " 1 throws argument; take " + s + " 16 0 0 0 throws argument")
                .calls("stream " + s + " 0 0 throws argument; side " + s + " 0 throws argument");
        }
        for (int s = 0; s < 2; s++) {
            Run.of("SIDES are 0 and 1").calls("grant " + s + " 4 0; join; open " + s + " true = " + s)
                .calls("write " + s + " " + s + " = 0; finish " + s + " " + s + " = 1; reset " + s + " " + s + " 0 = 1")
                .calls("stop " + s + " " + s + " 0 = 1; read " + s + " " + s + " 0 = 0; fill " + s + " 9 = 0")
                .calls("take " + s + " 16 0 0 0 = 0; stream " + s + " " + s + " 0 = 3; side " + s + " 5 = 1");
        }
    }

    /** The streams 0 to 3 are there on both sides, so that no other id may be taken for one of them. */
    private static void ids() {
        for (String id : NO_IDS) {
            Run run = Run.of("STREAMS have an id 0 .. 255").calls("""
                join; open 0 true = 0; open 0 false = 2; open 1 true = 1; open 1 false = 3
                take 0 21 1 0 0 = 0; take 0 21 3 0 0 = 0; take 1 21 0 0 0 = 0; take 1 21 2 0 0 = 0""");
            for (int s = 0; s < 2; s++) {
                run.calls("tape 3; write " + s + " " + id + " = -1; finish " + s + " " + id + " = 0")
                    .calls("reset " + s + " " + id + " 1 = 0; stop " + s + " " + id + " 1 = 0")
                    .calls("read " + s + " " + id + " 5 = -1; stream " + s + " " + id + " 0 = -1")
                    .calls("stream " + s + " " + id + " 8 = -1; stream " + s + " " + id + " 12 = -1")
                    .calls("fill " + s + " 100 = -1; side " + s + " 13 = 0");
            }
        }
    }

    private static void lastIds() {
        String sentence = "those of one side and way are opened in order, with id / 4 0, 1, .., 63";
        Run run = Run.of(sentence).calls("grant 0 8 64; grant 0 9 64; grant 1 8 64; grant 1 9 64; join");
        for (int n = 0; n < 64; n++) {
            run.calls("open 0 true = " + 4 * n + "; open 1 true = " + (4 * n + 1));
            run.calls("open 0 false = " + (4 * n + 2) + "; open 1 false = " + (4 * n + 3));
        }
        run.calls("open 0 true = -1; open 1 true = -1; open 0 false = -1; open 1 false = -1")
            .calls("stream 0 252 0 = 0; stream 1 253 0 = 0; stream 0 254 0 = 0; stream 1 255 0 = 0")
            .calls("stream 1 252 0 = -1; stream 0 253 0 = -1; stream 1 254 8 = -1; stream 0 255 8 = -1")
            .calls("take 1 8 252 0 0 = 0; take 0 8 253 0 0 = 0; take 1 8 254 0 0 = 0; take 0 8 255 0 0 = 0")
            .calls("side 0 9 = 64; side 0 10 = 64; side 1 9 = 64; side 1 10 = 64")
            .calls("tape 2; write 1 255 = 2; tape 2; write 1 252 = 2; tape 2; write 0 253 = 2; finish 0 254 = 1")
            .calls("reset 0 252 1 = 1; stop 0 255 1 = 1; read 1 254 5 = 0");
    }

    private static void idsTellSideAndWay() {
        Run.of("id % 2 is the side that opens it, id / 2 % 2 is 0 for BOTH ways, 1 for ONE way").calls("""
            join; open 0 true = 0; open 1 true = 1; open 0 false = 2; open 1 false = 3
            open 1 false = 7; open 0 false = 6; open 1 true = 5; open 0 true = 4
            side 0 5 = 2; side 0 6 = 2; side 1 5 = 2; side 1 6 = 2""");
    }

    private static void there() {
        Run.of("A stream is THERE on a side when that side has opened it").calls("""
            join; stream 0 0 0 = -1; open 0 true = 0; stream 0 0 0 = 0; stream 0 0 8 = 0
            stream 1 0 0 = -1; stream 1 0 8 = -1; stream 0 4 0 = -1; stream 0 2 0 = -1; stream 0 1 0 = -1""");
        String sentence = "or a frame has come for it or for a later one of its side and way "
            + "(then all before it are there, too)";
        String[] frames = {"4 9 0 0", "5 9 0 0", "8 9 0 0", "17 9 0 0", "21 9 0 0"};
        for (String frame : frames) {
            Run.of(sentence).calls("join; take 0 " + frame + " = 0").calls("""
                stream 0 1 8 = 0; stream 0 1 0 = 0; stream 0 5 8 = 0; stream 0 5 0 = 0; stream 0 9 13 = 1024
                stream 0 13 8 = -1; stream 0 3 8 = -1; stream 0 0 0 = -1; stream 1 1 0 = -1
                side 0 9 = 3; side 0 10 = 0; side 1 9 = 0; take 0 8 1 0 0 = 0; side 0 9 = 3""");
        }
        Run.of(sentence).calls("""
            join; take 1 8 6 0 0 = 0; stream 1 2 8 = 0; stream 1 6 8 = 0; stream 1 10 8 = -1; stream 1 0 8 = -1
            side 1 10 = 2; side 1 9 = 0; take 1 21 14 0 0 = 0; stream 1 10 8 = 0; side 1 10 = 4""");
        Run.of(sentence).calls("""
            join; open 1 true = 1; open 1 true = 5; tape 1; write 1 5 = 1; fill 1 9 = 0; stream 0 5 8 = -1
            deliver 0 = 0; stream 0 1 8 = 0; stream 0 5 8 = 0""");
        Run.of(sentence).calls("join; take 0 16 0 0 0 = 0; take 0 20 1 0 0 = 0; take 0 18 5 0 0 = 0; side 0 9 = 0");
    }

    private static void parts() {
        Run.of("It has a SENDING PART on the sides that may send, a RECEIVING PART on those that may get.").calls("""
            join; open 0 true = 0; open 0 false = 2; take 1 21 0 0 0 = 0; take 1 21 2 0 0 = 0
            stream 0 0 0 = 0; stream 0 0 8 = 0; stream 1 0 0 = 0; stream 1 0 8 = 0
            sends 0 2 = 0 0 0 1024 0 0 0 0; gets 0 2 = -1 -1 -1 -1 -1 -1 -1
            sends 1 2 = -1 -1 -1 -1 -1 -1 -1 -1; gets 1 2 = 0 0 0 0 -1 1024 0""");
        Run.of("1 for ONE way (from the side that opens it)").calls("""
            join; open 1 false = 3; tape 2; write 0 3 = -1; tape 2; write 1 3 = 2; fill 1 9 = 0; deliver 0 = 0
            read 1 3 9 = -1; read 0 3 9 = 2; tape 1; write 0 3 = -1; finish 0 3 = 0; reset 0 3 1 = 0; stop 1 3 1 = 0
            stop 0 3 1 = 1""");
    }

    private static void grantsOfBytes() {
        Run.of("4 DATA, bytes of all streams").calls("""
            grant 1 4 10; join; take 1 8 0 6 0 = 0; take 1 8 4 5 0 = 3; take 1 8 2 5 0 = 3; take 1 8 4 2 0 = 0
            take 1 8 2 3 0 = 3; take 1 8 2 2 0 = 0; side 1 2 = 10""");
        Run.of("5 of BOTH ways that it opens itself").calls("""
            grant 0 5 3; join; open 0 true = 0; stream 0 0 13 = 3; take 0 8 0 4 0 = 3; take 0 8 0 3 0 = 0
            stream 0 0 3 = 1024; take 1 21 0 0 0 = 0; stream 1 0 3 = 3; stream 1 0 13 = 1024
            take 0 21 1 0 0 = 0; stream 0 1 13 = 1024; take 0 21 3 0 0 = 0; stream 0 3 13 = 1024""");
        Run.of("6 of BOTH ways that the other one opens").calls("""
            grant 0 6 3; join; take 0 8 1 4 0 = 3; take 0 8 1 3 0 = 0; stream 0 1 13 = 3; stream 0 1 3 = 1024
            open 1 true = 1; stream 1 1 3 = 3; stream 1 1 13 = 1024; open 0 true = 0; stream 0 0 13 = 1024
            take 0 21 3 0 0 = 0; stream 0 3 13 = 1024""");
        Run.of("7 of ONE way").calls("""
            grant 0 7 3; join; take 0 8 3 4 0 = 3; take 0 8 3 3 0 = 0; stream 0 3 13 = 3; open 1 false = 3
            stream 1 3 3 = 3; open 0 false = 2; stream 0 2 3 = 1024; take 0 21 1 0 0 = 0; stream 0 1 13 = 1024
            open 0 true = 0; stream 0 0 13 = 1024""");
    }

    private static void grantsOfStreams() {
        String sentence = "how many streams the other one may open: 8 of BOTH ways, 9 of ONE way";
        Run.of(sentence).calls("""
            grant 0 8 1; grant 0 9 2; join; open 1 true = 1; open 1 true = -1
            open 1 false = 3; open 1 false = 7; open 1 false = -1
            take 0 21 5 0 0 = 4; take 0 21 1 0 0 = 0; take 0 21 11 0 0 = 4; take 0 21 7 0 0 = 0""");
        Run.of(sentence).calls("""
            grant 0 8 0; join; open 1 true = -1; take 0 21 1 0 0 = 4; open 1 false = 3; open 0 true = 0""");
        Run.of(sentence).calls("""
            grant 0 9 0; join; open 1 false = -1; take 0 21 3 0 0 = 4; open 1 true = 1; open 0 false = 2""");
    }

    private static void firstGrants() {
        Run.of("At first 4 is 4096, 5 to 7 are 1024, 8 and 9 are 4.").calls("""
            join; side 0 1 = 4096; side 1 1 = 4096; side 0 4 = 4096; side 1 4 = 4096
            side 0 7 = 4; side 0 8 = 4; side 1 7 = 4; side 1 8 = 4; side 0 11 = 4; side 0 12 = 4; side 1 11 = 4
            side 1 12 = 4
            open 0 true = 0; take 1 21 0 0 0 = 0; stream 0 0 13 = 1024; stream 1 0 13 = 1024; stream 0 0 3 = 1024
            open 1 true = 1; take 0 21 1 0 0 = 0; stream 1 1 13 = 1024; stream 0 1 13 = 1024; stream 1 1 3 = 1024
            stream 1 0 3 = 1024; stream 0 1 3 = 1024; open 0 false = 2; stream 0 2 3 = 1024
            open 1 false = 3; stream 1 3 3 = 1024; take 0 21 3 0 0 = 0; stream 0 3 13 = 1024""");
    }

    private static void limits() {
        String sentence = "The other one's grants are a side's LIMITS from the moment on when the sides are JOINED";
        Run.of(sentence).calls("""
            grant 0 4 5; grant 0 4 9; grant 0 8 1; grant 0 9 2; grant 0 5 11; grant 0 6 12; grant 0 7 13
            side 1 1 = 0; side 1 7 = 0; side 1 8 = 0; join; side 1 1 = 9; side 1 7 = 1; side 1 8 = 2
            side 0 1 = 4096; side 0 7 = 4; side 0 8 = 4
            open 1 true = 1; stream 1 1 3 = 12; open 1 false = 3; stream 1 3 3 = 13; take 1 5 0 0 0 = 0
            stream 1 0 3 = 11""");
        Run early = Run.of("before that there are no streams").calls("tape 2");
        for (int id = 0; id < 256; id += id == 7 ? 241 : 1) {
            for (int s = 0; s < 2; s++) {
                early.calls("stream " + s + " " + id + " 0 = -1; stream " + s + " " + id + " 8 = -1");
            }
        }
        Run.of("before that there are no streams").calls("""
            open 0 true throws state; open 1 false throws state; take 0 21 1 0 0 throws state; tape 2
            write 0 0 = -1; finish 0 0 = 0; reset 0 0 0 = 0; stop 0 1 0 = 0; read 0 1 1 = -1; side 0 13 = 0
            side 0 5 = 0; side 0 6 = 0; side 0 9 = 0; side 0 10 = 0; join; stream 0 0 0 = -1; open 0 true = 0""");
    }

    private static void written() {
        Run.of("WRITTEN: all bytes that were written").calls("""
            join; open 0 true = 0; stream 0 0 1 = 0; tape 5; write 0 0 = 5; tape 1; write 0 0 = 1; write 0 0 = 0
            stream 0 0 1 = 6; fill 0 7 = 0; deliver 0 = 0; gone 0 true; stream 0 0 1 = 6; reset 0 0 1 = 1
            stream 0 0 1 = 6""");
    }

    private static void sent() {
        Run.of("SENT: how many have been in a frame").calls("""
            join; open 0 true = 0; tape 6; write 0 0 = 6; stream 0 0 2 = 0; fill 0 7 = 0; stream 0 0 2 = 4
            gone 0 false; stream 0 0 2 = 4; fill 0 5 = 0; stream 0 0 2 = 4; side 0 0 = 4; fill 0 100 = 1
            stream 0 0 2 = 4; frame 1 = 0 8 0 2 0 2 6; fill 0 100 = 2; stream 0 0 2 = 6; side 0 0 = 6""");
    }

    private static void fatesOfBytes() {
        Run.of("each of these is OUT, LOST or HERE").calls("""
            join; open 0 true = 0; tape 12; write 0 0 = 12; fill 0 5 = 0; fill 0 7 = 1; fill 0 8 = 2
            sends 0 0 = 0 12 9 1024 0 0 0 0; deliver 0 = 0; sends 0 0 = 0 12 9 1024 0 0 0 0
            gone 0 true; sends 0 0 = 0 12 9 1024 0 0 2 0; gone 1 false; sends 0 0 = 0 12 9 1024 0 3 2 0
            fill 0 6 = 0; sends 0 0 = 0 12 9 1024 0 1 2 0; gone 2 false; sends 0 0 = 0 12 9 1024 0 5 2 0""");
    }

    private static void fatesOfTheEnd() {
        Run.of("The END (once it is FINISHED) is NEW, OUT, LOST or HERE.").calls("""
            join; open 0 true = 0; tape 2; write 0 0 = 2; stream 0 0 7 = 0; fill 0 9 = 0; stream 0 0 7 = 0
            finish 0 0 = 1; stream 0 0 7 = 1; fill 0 9 = 1; stream 0 0 7 = 2; deliver 1 = 0; stream 0 0 7 = 2
            gone 1 false; stream 0 0 7 = 3; fill 0 9 = 1; stream 0 0 7 = 2; deliver 1 = 0; gone 1 true
            stream 0 0 7 = 4""");
    }

    private static void limitOfSending() {
        Run.of("LIMIT: how many bytes may be sent.").calls("""
            grant 1 6 5; join; open 0 true = 0; tape 9; write 0 0 = 9; fill 0 100 = 0; frame 0 = 0 8 0 0 0 5 8
            fill 0 100 = 1; line 1 1 = 21; fill 0 100 = -1; take 0 17 0 6 0 = 0; fill 0 100 = 2
            frame 2 = 0 8 0 5 0 1 5
            stream 0 0 2 = 6; stream 0 0 3 = 6""");
        Run.of("LIMIT: how many bytes may be sent.").calls("""
            grant 1 7 0; join; open 0 false = 2; tape 1; write 0 2 = 1; stream 0 2 3 = 0
            fill 0 100 = 0; line 0 1 = 21; fill 0 100 = -1; stream 0 2 2 = 0""");
    }

    private static void statesOfSending() {
        Run.of("0 OPEN; 1 FINISHED").calls("""
            join; open 0 false = 2; stream 0 2 0 = 0; finish 0 2 = 1; stream 0 2 0 = 1""");
        String arrived = "2 ARRIVED: finished, all bytes and the end are HERE";
        Run.of(arrived).calls("""
            join; open 0 false = 2; tape 2; write 0 2 = 2; fill 0 9 = 0; finish 0 2 = 1; fill 0 9 = 1
            deliver 0 = 0; deliver 1 = 0; gone 1 true; stream 0 2 7 = 4; stream 0 2 0 = 1; gone 0 true
            stream 0 2 0 = 2""");
        Run.of(arrived).calls("""
            join; open 0 false = 2; tape 2; write 0 2 = 2; fill 0 9 = 0; finish 0 2 = 1; fill 0 9 = 1
            deliver 0 = 0; deliver 1 = 0; gone 0 true; stream 0 2 6 = 2; stream 0 2 0 = 1; gone 1 true
            stream 0 2 0 = 2""");
        Run.of(arrived).calls("""
            join; open 0 false = 2; tape 2; write 0 2 = 2; fill 0 9 = 0; deliver 0 = 0; gone 0 true; stream 0 2 0 = 0
            finish 0 2 = 1; stream 0 2 0 = 1""");
        Run.of(arrived).calls("""
            join; open 0 false = 2; tape 2; write 0 2 = 2; finish 0 2 = 1; fill 0 9 = 0; deliver 0 = 0
            stream 0 2 0 = 1
            gone 0 true; sends 0 2 = 2 2 2 1024 0 0 2 4""");
        Run.of("3 RESET, with a CODE; 4 RESET HERE").calls("""
            join; open 0 false = 2; stream 0 2 4 = 0; reset 0 2 7 = 1; stream 0 2 0 = 3; stream 0 2 4 = 7
            fill 0 9 = 0
            deliver 0 = 0; stream 0 2 0 = 3; gone 0 true; stream 0 2 0 = 4; stream 0 2 4 = 7""");
    }

    private static void mostWritten() {
        Run run = Run.of("All bytes that one side writes are at most 65536.").beyond512();
        run.calls("join; open 0 false = 2; open 0 true = 0; open 1 true = 1");
        for (int k = 0; k < 31; k++) {
            run.calls("tape 2048; write 0 " + (k % 2 == 0 ? 0 : 2) + " = 2048");
        }
        run.calls("tape 2047; write 0 0 = 2047; side 0 13 = 65535; tape 2; write 0 2 = 1; side 0 13 = 65536")
            .calls("""
                tape 1; write 0 0 = 0; write 0 2 = 0; side 0 13 = 65536; side 1 13 = 0; tape 9; write 1 1 = 9
                side 1 13 = 9""");
    }

    private static void read() {
        Run.of("READ: how many were handed out").calls("""
            join; tape 5; take 0 8 1 0 0 = 0; stream 0 1 9 = 0; read 0 1 0 = 0; stream 0 1 9 = 0
            read 0 1 2 = 2; stream 0 1 9 = 2; read 0 1 9 = 3; stream 0 1 9 = 5; read 0 1 9 = 0; stream 0 1 9 = 5""");
    }

    private static void ready() {
        Run.of("READY: how many from the first on have come").calls("""
            join; tape 2; take 0 8 1 3 0 = 0; stream 0 1 10 = 0; tape 1; take 0 8 1 6 0 = 0; stream 0 1 10 = 0
            tape 2; take 0 8 1 0 0 = 0; stream 0 1 10 = 2; tape 1; take 0 8 1 2 0 = 0; stream 0 1 10 = 5
            read 0 1 4 = 4; stream 0 1 10 = 5; tape 3; take 0 8 1 4 0 = 0; stream 0 1 10 = 7""");
    }

    private static void highest() {
        Run.of("HIGHEST: one more than the place of the last that has come (or been told)").calls("""
            join; take 0 8 1 0 0 = 0; stream 0 1 11 = 0; tape 2; take 0 8 1 3 0 = 0; stream 0 1 11 = 5
            tape 2; take 0 8 1 0 0 = 0; stream 0 1 11 = 5; take 0 8 1 8 0 = 0; stream 0 1 11 = 8
            take 0 8 1 9 1 = 0; stream 0 1 11 = 9; take 0 4 5 0 7 = 0; stream 0 5 11 = 7""");
    }

    private static void size() {
        Run.of("SIZE, -1 until it is known").calls("""
            join; tape 4; take 0 8 1 0 0 = 0; stream 0 1 12 = -1; take 0 8 1 6 1 = 0; stream 0 1 12 = 6
            take 0 8 5 0 0 = 0; stream 0 5 12 = -1; take 0 8 5 0 1 = 0; stream 0 5 12 = 0
            take 0 21 9 0 0 = 0; stream 0 9 12 = -1; take 0 4 9 1 3 = 0; stream 0 9 12 = 3""");
    }

    private static void grantOfReceiving() {
        Run.of("GRANT: the latest limit told for it").calls("""
            grant 0 6 6; join; tape 6; take 0 8 1 0 0 = 0; stream 0 1 13 = 6; read 0 1 2 = 2; stream 0 1 13 = 6
            read 0 1 1 = 1; stream 0 1 13 = 9; read 0 1 3 = 3; stream 0 1 13 = 12""");
    }

    private static void statesOfReceiving() {
        Run.of("0 OPEN; 1 SIZED; 2 WHOLE: sized, all up to SIZE have come; 3 READ: all of them were handed out").calls("""
            join; tape 3; take 0 8 1 0 0 = 0; stream 0 1 8 = 0; take 0 8 1 5 1 = 0; stream 0 1 8 = 1
            tape 1; take 0 8 1 3 0 = 0; stream 0 1 8 = 1; tape 1; take 0 8 1 4 0 = 0; stream 0 1 8 = 2
            read 0 1 4 = 4; stream 0 1 8 = 2; read 0 1 1 = 1; stream 0 1 8 = 3""");
        Run.of("0 OPEN; 1 SIZED; 2 WHOLE: sized, all up to SIZE have come; 3 READ: all of them were handed out").calls("""
            join; tape 3; take 0 8 1 0 0 = 0; read 0 1 3 = 3; stream 0 1 8 = 0; take 0 8 1 3 1 = 0
            stream 0 1 8 = 3""");
        Run.of("4 RESET, with a CODE.").calls("""
            join; tape 3; take 0 8 1 0 0 = 0; stream 0 1 14 = 0; take 0 4 1 9 3 = 0; stream 0 1 8 = 4
            stream 0 1 14 = 9""");
    }

    private static void sums() {
        Run.of("A side has RECEIVED the sum of all HIGHEST").calls("""
            join; tape 3; take 0 8 1 4 0 = 0; tape 2; take 0 8 3 0 0 = 0; side 0 2 = 9; tape 3; take 0 8 1 4 0 = 0
            side 0 2 = 9; take 0 4 5 0 6 = 0; side 0 2 = 15; side 1 2 = 0""");
        Run.of("CONSUMED the sum of all READ (of SIZE, for a reset one)").calls("""
            join; tape 5; take 0 8 1 0 0 = 0; side 0 3 = 0; read 0 1 2 = 2; side 0 3 = 2
            tape 5; take 0 8 3 0 0 = 0; read 0 3 1 = 1; side 0 3 = 3
            take 0 4 1 0 9 = 0; side 0 3 = 10; take 0 4 1 0 9 = 0; side 0 3 = 10; take 0 4 5 0 0 = 0
            side 0 3 = 10""");
        Run.of("SENT the sum of all sent").calls("""
            join; open 0 true = 0; open 0 false = 2; tape 5; write 0 0 = 5; tape 6; write 0 2 = 6; side 0 0 = 0
            fill 0 7 = 0; fill 0 8 = 1; side 0 0 = 9; gone 0 false; gone 1 false; side 0 0 = 9; reset 0 0 1 = 1
            side 0 0 = 9
            side 1 0 = 0""");
        Run.of("its DATA GRANT is the latest limit told for all").calls("""
            grant 0 4 8; join; side 0 4 = 8; tape 8; take 0 8 1 0 0 = 0; side 0 4 = 8; read 0 1 3 = 3; side 0 4 = 8
            read 0 1 1 = 1; side 0 4 = 12; side 0 1 = 4096; side 1 1 = 8""");
    }
}
