/** The sentences of "Terms" on filling a frame, and on what becomes of it, each by itself. */
public final class FillingTest {
    public static void main(String[] args) {
        numbers();
        widthsOfIds();
        sizesOfKinds();
        room();
        sizesOfStreams();
        order();
        orderThatFits();
        streamsByTheirIds();
        resetFrame();
        stopFrame();
        maxFrames();
        dataBlocked();
        blockedAtTheLastId();
        streamDataBlocked();
        streamsBlocked();
        notAgain();
        partsThatMaySend();
        turns();
        turnsOfStreamFramesAlone();
        turnsWrapRound();
        lostBytes();
        unsentBytes();
        endAlone();
        asManyAsFit();
        toTheEnd();
        outThen();
        toldOnce();
        streamGone();
        allIsHere();
        resetGone();
        stopGone();
        maxGone();
        blockedGone();
        Run.end("FillingTest");
    }

    private static void numbers() {
        String sentence = "one number of 1, 2, 4, 8 bytes (below 64, 16384, 1073741824, or more)";
        String[] codes = {"0", "63", "64", "16383", "16384", "1073741823", "1073741824", "4294967296", "TOP"};
        int[] widths = {1, 1, 2, 2, 4, 4, 8, 8, 8};
        for (int k = 0; k < codes.length; k++) {
            int size = 2 + widths[k];
            Run.of(sentence).calls("join; take 0 21 1 0 0 = 0; stop 0 1 " + codes[k] + " = 1; fill 0 " + (size - 1) + " = -1")
                .calls("fill 0 " + size + " = 0; frame 0 = 0 5 1 " + codes[k] + " 0 0 " + size);
            Run.of(sentence).calls("join; open 0 true = 0; reset 0 0 " + codes[k] + " = 1; fill 0 " + size + " = -1")
                .calls("fill 0 " + (size + 1) + " = 0; frame 0 = 0 4 0 " + codes[k] + " 0 0 " + (size + 1));
        }
    }

    /** Of two streams one behind the other: the last id of one byte, and the first one of two. */
    private static void widthsOfIds() {
        String sentence = "A frame has 1 byte and for each field one number";
        Run run = Run.of(sentence).calls("grant 1 8 17; join");
        for (int n = 0; n < 17; n++) {
            run.calls("open 0 true = " + 4 * n);
        }
        run.calls("""
            tape 1; write 0 60 = 1; tape 1; write 0 64 = 1; fill 0 3 = -1; fill 0 4 = 0
            frame 0 = 0 8 60 0 0 1 4""")
            .calls("fill 0 4 = -1; fill 0 5 = 1; frame 1 = 0 8 64 0 0 1 5; reset 0 60 0 = 1; reset 0 64 0 = 1")
            .calls("fill 0 4 = 2; frame 2 = 0 4 60 0 1 0 4; fill 0 4 = -1; fill 0 5 = 3; frame 3 = 0 4 64 0 1 0 5")
            .calls("stop 0 64 0 = 1; fill 0 3 = -1; fill 0 4 = 4; frame 4 = 0 5 64 0 0 0 4");
        Run one = Run.of(sentence).calls("grant 0 9 20; join");
        for (int n = 0; n < 18; n++) {
            one.calls("open 1 false = " + (4 * n + 3));
        }
        one.calls("finish 1 63 = 1; finish 1 67 = 1; fill 1 2 = -1; fill 1 3 = 0; frame 0 = 1 8 63 0 1 0 3")
            .calls("fill 1 3 = -1; fill 1 4 = 1; frame 1 = 1 8 67 0 1 0 4");
    }

    private static void sizesOfKinds() {
        String three = "4 a b c; 5, 17, 21 a b";
        Run.of(three).calls("""
            join; open 0 true = 0; tape 64; write 0 0 = 64; fill 0 100 = 0; frame 0 = 0 8 0 0 0 64 68; reset 0 0 9 = 1
            fill 0 4 = -1; fill 0 5 = 1; frame 1 = 0 4 0 9 64 0 5""");
        Run.of(three).calls("""
            join; open 0 true = 0; tape 63; write 0 0 = 63; fill 0 100 = 0; frame 0 = 0 8 0 0 0 63 66; reset 0 0 9 = 1
            fill 0 3 = -1; fill 0 4 = 1; frame 1 = 0 4 0 9 63 0 4""");
        Run.of(three).calls("""
            grant 0 6 42; join; tape 22; take 0 8 1 0 0 = 0; read 0 1 21 = 21; fill 0 2 = -1; fill 0 3 = 0
            frame 0 = 0 17 1 63 0 0 3; fill 0 9 = -1""");
        Run.of(three).calls("""
            grant 0 6 42; join; tape 22; take 0 8 1 0 0 = 0; read 0 1 22 = 22; fill 0 3 = -1; fill 0 4 = 0
            frame 0 = 0 17 1 64 0 0 4""");
        Run.of(three).calls("""
            grant 1 6 63; join; open 0 true = 0; tape 65; write 0 0 = 65; fill 0 99 = 0; line 0 5 = 63; fill 0 2 = -1
            fill 0 3 = 1; frame 1 = 0 21 0 63 0 0 3; take 0 17 0 64 0 = 0; fill 0 5 = 2; line 2 5 = 1; fill 0 3 = -1
            fill 0 4 = 3; frame 3 = 0 21 0 64 0 0 4""");
        String one = "16, 18, 19, 20, 22, 23 a";
        Run.of(one).calls("""
            grant 0 4 10922; grant 0 6 65536; join; take 0 4 1 0 5461 = 0; fill 0 2 = -1; fill 0 3 = 0
            frame 0 = 0 16 16383 0 0 0 3""");
        Run.of(one).calls("""
            grant 0 4 10922; grant 0 6 65536; join; take 0 4 1 0 5462 = 0; fill 0 4 = -1; fill 0 5 = 0
            frame 0 = 0 16 16384 0 0 0 5""");
        Run.of(one).calls("""
            grant 0 9 62; join; take 0 4 3 0 0 = 0; fill 0 1 = -1; fill 0 2 = 0; frame 0 = 0 19 63 0 0 0 2
            take 0 4 7 0 0 = 0; fill 0 2 = -1; fill 0 3 = 1; frame 1 = 0 19 64 0 0 0 3""");
        Run.of(one).calls("""
            grant 0 8 63; join; open 1 true = 1; take 0 4 1 0 0 = 0; reset 0 1 0 = 1; fill 0 9 = 0; deliver 0 = 0
            gone 0 true
            fill 0 2 = -1; fill 0 3 = 0; frame 0 = 0 18 64 0 0 0 3""");
        Run.of(one).calls("""
            grant 1 4 63; join; open 0 true = 0; tape 65; write 0 0 = 65; fill 0 99 = 0; line 0 5 = 63; fill 0 1 = -1
            fill 0 2 = 1; frame 1 = 0 20 63 0 0 0 2; take 0 16 64 0 0 = 0; fill 0 5 = 2; line 2 5 = 1; fill 0 2 = -1
            fill 0 3 = 3; frame 3 = 0 20 64 0 0 0 3""");
        Run.of(one).calls("grant 1 8 0; join; open 0 true = -1; fill 0 1 = -1; fill 0 2 = 0; frame 0 = 0 22 0 0 0 0 2");
        Run.of(one).calls("""
            grant 1 9 0; join; open 0 false = -1; fill 0 1 = -1; fill 0 2 = 0; frame 0 = 0 23 0 0 0 0 2""");
    }

    private static void room() {
        String sentence = "FILLING a frame of at most so many bytes (ROOM).";
        Run run = Run.of(sentence).calls("""
            join; open 0 false = 2; tape 100; write 0 2 = 100; fill 0 1 = -1; fill 0 2 = -1; fill 0 3 = -1""")
            .calls("fill 0 104 = 0; frame 0 = 0 8 2 0 0 100 104; gone 0 false");
        for (int room = 4; room < 67; room++) {
            run.calls("fill 0 " + room + " = 0; line 0 5 = " + (room - 3) + "; line 0 6 = " + room + "; gone 0 false");
        }
    }

    private static void sizesOfStreams() {
        String sentence = "8: a, b (if it is not 0), the number of bytes of data, these.";
        Run.of(sentence).calls("""
            join; open 0 true = 0; tape 300; write 0 0 = 300; fill 0 3 = -1; fill 0 4 = 0; frame 0 = 0 8 0 0 0 1 4
            fill 0 4 = -1; fill 0 5 = 1; frame 1 = 0 8 0 1 0 1 5; fill 0 65 = 2; frame 2 = 0 8 0 2 0 61 65
            fill 0 5 = 3; frame 3 = 0 8 0 63 0 1 5; fill 0 5 = -1; fill 0 6 = 4; frame 4 = 0 8 0 64 0 1 6
            fill 0 68 = 5; frame 5 = 0 8 0 65 0 63 68; fill 0 69 = 6; frame 6 = 0 8 0 128 0 63 68
            fill 0 70 = 7; frame 7 = 0 8 0 191 0 64 70; fill 0 1200 = 8; frame 8 = 0 8 0 255 0 45 50""");
        Run.of(sentence).calls("""
            join; open 0 true = 0; finish 0 0 = 1; fill 0 2 = -1; fill 0 3 = 0; frame 0 = 0 8 0 0 1 0 3""");
        Run.of(sentence).calls("""
            join; open 0 true = 0; tape 64; write 0 0 = 64; fill 0 99 = 0; finish 0 0 = 1; fill 0 4 = -1
            fill 0 5 = 1; frame 1 = 0 8 0 64 1 0 5""");
        Run wide = Run.of(sentence).calls("""
            grant 1 4 4096; grant 1 6 4096; join; open 0 true = 0; tape 2048; write 0 0 = 2048""");
        wide.calls("""
            fill 0 1200 = 0; frame 0 = 0 8 0 0 0 1196 1200; bytes 0 = 1 2 3; data 0 1195 = 172
            data 0 1196 throws element""")
            .calls("fill 0 1200 = 1; frame 1 = 0 8 0 1196 0 852 858");
    }

    /** Side 0 has a frame of each kind to send, STREAM being lost bytes; place 0 is free. */
    private static final String ALL_KINDS = """
        grant 0 4 20; grant 0 6 10; grant 1 4 8; grant 1 6 8; grant 1 8 3; grant 1 9 1; join
        open 0 true = 0; tape 9; write 0 0 = 9; fill 0 99 = 0; frame 0 = 0 8 0 0 0 8 11; gone 0 false
        open 1 true = 1; open 1 true = 5; take 0 4 5 0 0 = 0; reset 0 5 0 = 1; fill 0 4 = 0; line 0 1 = 4
        deliver 0 = 0; gone 0 true; side 0 11 = 5
        open 0 true = 4; reset 0 4 1 = 1; open 0 true = 8; stop 0 8 2 = 1; open 0 true = -1
        open 0 false = 2; open 0 false = -1; tape 10; take 0 8 1 0 0 = 0; read 0 1 10 = 10; take 0 8 3 0 1 = 0
        """;

    private static void order() {
        Run.of("The first that there is in this order").calls(ALL_KINDS).calls("""
            fill 0 1200 = 0; frame 0 = 0 4 4 1 0 0 4; fill 0 1200 = 1; frame 1 = 0 5 8 2 0 0 3
            fill 0 1200 = 2; frame 2 = 0 16 30 0 0 0 2; fill 0 1200 = 3; frame 3 = 0 17 1 20 0 0 3
            fill 0 1200 = 4; frame 4 = 0 18 5 0 0 0 2; fill 0 1200 = 5; frame 5 = 0 19 5 0 0 0 2
            fill 0 1200 = 6; frame 6 = 0 20 8 0 0 0 2; fill 0 1200 = 7; frame 7 = 0 21 0 8 0 0 3
            fill 0 1200 = 8; frame 8 = 0 22 3 0 0 0 2; fill 0 1200 = 9; frame 9 = 0 23 1 0 0 0 2
            fill 0 1200 = 10; frame 10 = 0 8 0 0 0 8 11; fill 0 1200 = -1""");
    }

    private static void orderThatFits() {
        Run.of("and that fits").calls(ALL_KINDS).calls("""
            fill 0 1 = -1; fill 0 2 = 0; line 0 1 = 16; fill 0 2 = 1; line 1 1 = 18; fill 0 2 = 2; line 2 1 = 19
            fill 0 2 = 3; line 3 1 = 20; fill 0 2 = 4; line 4 1 = 22; fill 0 2 = 5; line 5 1 = 23; fill 0 2 = -1
            fill 0 3 = 6; line 6 1 = 5; fill 0 3 = 7; line 7 1 = 17; fill 0 3 = 8; line 8 1 = 21; fill 0 3 = -1
            fill 0 4 = 9; line 9 1 = 4; fill 0 4 = 10; frame 10 = 0 8 0 0 0 1 4""");
        Run.of("and that fits").calls("""
            join; open 0 true = 0; open 0 true = 4; reset 0 0 64 = 1; reset 0 4 63 = 1; fill 0 4 = 0; line 0 2 = 4
            fill 0 4 = -1; fill 0 5 = 1; line 1 2 = 0""");
        Run.of("and that fits").calls("""
            join; take 0 21 5 0 0 = 0; stop 0 1 64 = 1; stop 0 5 63 = 1; fill 0 3 = 0; line 0 2 = 5; fill 0 3 = -1
            fill 0 4 = 1; line 1 2 = 1""");
    }

    private static void streamsByTheirIds() {
        Run.of("streams by their ids").calls("""
            join; open 0 false = 2; open 0 false = 6; open 0 true = 0; take 0 21 5 0 0 = 0
            reset 0 6 0 = 1; reset 0 5 0 = 1; reset 0 2 0 = 1; reset 0 0 0 = 1; reset 0 1 0 = 1
            fill 0 9 = 0; line 0 2 = 0; fill 0 9 = 1; line 1 2 = 1; fill 0 9 = 2; line 2 2 = 2; fill 0 9 = 3
            line 3 2 = 5
            fill 0 9 = 4; line 4 2 = 6; fill 0 9 = -1""");
        Run.of("streams by their ids").calls("""
            join; take 0 21 5 0 0 = 0; take 0 21 3 0 0 = 0; open 0 true = 0
            stop 0 5 0 = 1; stop 0 3 0 = 1; stop 0 0 0 = 1; stop 0 1 0 = 1
            fill 0 9 = 0; line 0 2 = 0; fill 0 9 = 1; line 1 2 = 1; fill 0 9 = 2; line 2 2 = 3; fill 0 9 = 3
            line 3 2 = 5""");
        Run.of("streams by their ids").calls("""
            grant 0 6 4; grant 0 7 4; join; tape 4; take 0 8 5 0 0 = 0; tape 4; take 0 8 3 0 0 = 0; tape 4
            take 0 8 1 0 0 = 0
            read 0 5 4 = 4; read 0 3 4 = 4; read 0 1 4 = 4
            fill 0 9 = 0; line 0 2 = 1; fill 0 9 = 1; line 1 2 = 3; fill 0 9 = 2; line 2 2 = 5; fill 0 9 = -1""");
        Run.of("streams by their ids").calls("""
            grant 1 6 0; grant 1 7 0; join; open 0 true = 0; open 0 true = 4; open 0 false = 2
            tape 1; write 0 4 = 1; tape 1; write 0 2 = 1; tape 1; write 0 0 = 1
            fill 0 9 = 0; frame 0 = 0 21 0; fill 0 9 = 1; frame 1 = 0 21 2; fill 0 9 = 2; frame 2 = 0 21 4
            fill 0 9 = -1""");
    }

    private static void resetFrame() {
        String sentence = "RESET of a sending part in the state 3, if it is to be sent: its code, and SENT as size.";
        Run.of(sentence).calls("""
            join; open 0 true = 0; tape 9; write 0 0 = 9; fill 0 8 = 0; reset 0 0 70 = 1; fill 0 9 = 1
            frame 1 = 0 4 0 70 5 0 5; fill 0 9 = -1; deliver 1 = 0; gets 1 0 = 4 0 0 5 5 1024 70; gone 1 true
            fill 0 9 = -1""");
        Run.of(sentence).calls("""
            join; open 0 true = 0; reset 0 0 0 = 1; fill 0 9 = 0; frame 0 = 0 4 0 0 0 0 4; fill 0 9 = -1""");
    }

    private static void stopFrame() {
        String sentence = "STOP of a receiving part in the states 0, 1 that is to be sent.";
        Run.of(sentence).calls("""
            join; take 0 21 1 0 0 = 0; stop 0 1 5 = 1; fill 0 9 = 0; frame 0 = 0 5 1 5 0 0 3; fill 0 9 = -1""");
        Run.of(sentence).calls("""
            join; take 0 8 1 3 1 = 0; stop 0 1 5 = 1; fill 0 9 = 0; frame 0 = 0 5 1 5 0 0 3; fill 0 9 = -1""");
        Run.of(sentence).calls("""
            join; take 0 21 1 0 0 = 0; stop 0 1 5 = 1; take 0 8 1 3 1 = 0; fill 0 9 = 0; line 0 1 = 5""");
        Run.of(sentence).calls("""
            join; take 0 21 1 0 0 = 0; stop 0 1 5 = 1; tape 2; take 0 8 1 0 1 = 0; stream 0 1 8 = 2
            fill 0 9 = -1""");
        Run.of(sentence).calls("""
            join; take 0 21 1 0 0 = 0; stop 0 1 5 = 1; take 0 8 1 0 1 = 0; stream 0 1 8 = 3; fill 0 9 = -1""");
        Run.of(sentence).calls("""
            join; take 0 21 1 0 0 = 0; stop 0 1 5 = 1; take 0 4 1 0 2 = 0; stream 0 1 8 = 4; fill 0 9 = -1""");
    }

    private static void maxFrames() {
        String sentence = "MAX DATA, MAX STREAM DATA (state 0 alone), MAX STREAMS 18, 19 that are to be told, with the grants of now.";
        Run.of(sentence).calls("""
            grant 0 4 10; join; tape 10; take 0 8 1 0 0 = 0; read 0 1 5 = 5; side 0 4 = 15; read 0 1 5 = 5
            side 0 4 = 20
            fill 0 9 = 0; frame 0 = 0 16 20 0 0 0 2; fill 0 9 = -1""");
        Run.of(sentence).calls("""
            grant 0 6 10; join; tape 10; take 0 8 1 0 0 = 0; read 0 1 5 = 5; read 0 1 5 = 5; stream 0 1 13 = 20
            fill 0 9 = 0; frame 0 = 0 17 1 20 0 0 3; fill 0 9 = -1""");
        Run.of(sentence).calls("""
            grant 0 6 10; join; tape 10; take 0 8 1 0 0 = 0; read 0 1 5 = 5; stream 0 1 13 = 15; take 0 8 1 12 1 = 0
            stream 0 1 8 = 1; fill 0 9 = -1; stream 0 1 13 = 15""");
        Run.of(sentence).calls("""
            grant 0 6 10; join; tape 10; take 0 8 1 0 0 = 0; read 0 1 5 = 5; take 0 4 1 0 10 = 0; fill 0 9 = -1""");
        Run.of(sentence).calls("""
            join; take 0 8 3 0 1 = 0; take 0 8 7 0 1 = 0; fill 0 9 = 0; frame 0 = 0 19 6 0 0 0 2; fill 0 9 = -1""");
    }

    private static void dataBlocked() {
        String sentence = "DATA BLOCKED with the limit of all data, if a sending part in the states 0, 1 has more written than sent, "
            + "and all that may be sent in all is sent";
        Run.of(sentence).calls("""
            grant 1 4 5; join; open 0 true = 0; tape 5; write 0 0 = 5; fill 0 99 = 0; line 0 5 = 5; fill 0 99 = -1
            feed 1 9 = 1; write 0 0 = 1; fill 0 99 = 1; frame 1 = 0 20 5 0 0 0 2; fill 0 99 = -1""");
        Run.of(sentence).calls("""
            grant 1 4 5; join; open 0 true = 0; tape 6; write 0 0 = 6; fill 0 7 = 0; line 0 5 = 4; fill 0 9 = 1
            frame 1 = 0 8 0 4 0 1 5; fill 0 9 = 2; frame 2 = 0 20 5""");
        Run.of(sentence).calls("""
            grant 1 4 5; join; open 0 true = 0; open 0 false = 2; tape 5; write 0 0 = 5; fill 0 99 = 0
            tape 1; write 0 2 = 1; finish 0 2 = 1; fill 0 99 = 1; frame 1 = 0 20 5; fill 0 99 = -1""");
        Run.of(sentence).calls("""
            grant 1 4 5; join; open 0 true = 0; tape 6; write 0 0 = 6; fill 0 99 = 0; reset 0 0 1 = 1
            fill 0 99 = 1; line 1 1 = 4; fill 0 99 = -1""");
        Run.of(sentence).calls("""
            grant 1 4 0; join; open 0 true = 0; finish 0 0 = 1; fill 0 99 = 0; frame 0 = 0 8 0 0 1 0 3
            fill 0 99 = -1""");
        Run.of(sentence).calls("""
            grant 1 4 0; join; open 0 true = 0; tape 1; write 0 0 = 1; fill 0 99 = 0; frame 0 = 0 20 0 0 0 0 2
            fill 0 99 = -1""");
    }

    /** The walk over all streams goes to the id 255, and not beyond it. */
    private static void blockedAtTheLastId() {
        Run run = Run.of("if a sending part in the states 0, 1 has more written than sent").calls("grant 0 4 0; grant 0 9 64; join");
        for (int n = 0; n < 64; n++) {
            run.calls("open 1 false = " + (4 * n + 3));
        }
        run.calls("fill 1 99 = -1; tape 1; write 1 255 = 1; fill 1 99 = 0; frame 0 = 1 20 0 0 0 0 2; fill 1 99 = -1")
            .calls("take 1 16 1 0 0 = 0; fill 1 99 = 1; frame 1 = 1 8 255 0 0 1 5; fill 1 99 = -1");
        Run full = Run.of("STREAM DATA BLOCKED, if it has, and its SENT is its LIMIT").calls("grant 0 7 0; grant 0 9 64; join");
        for (int n = 0; n < 64; n++) {
            full.calls("open 1 false = " + (4 * n + 3));
        }
        full.calls("fill 1 99 = -1; tape 1; write 1 255 = 1; fill 1 99 = 0; frame 0 = 1 21 255 0 0 0 4; fill 1 99 = -1");
    }

    private static void streamDataBlocked() {
        String sentence = "STREAM DATA BLOCKED, if it has, and its SENT is its LIMIT";
        Run.of(sentence).calls("""
            grant 1 6 5; join; open 0 true = 0; tape 5; write 0 0 = 5; fill 0 99 = 0; fill 0 99 = -1
            feed 1 9 = 1; write 0 0 = 1; fill 0 99 = 1; frame 1 = 0 21 0 5 0 0 3; fill 0 99 = -1""");
        Run.of(sentence).calls("""
            grant 1 6 5; join; open 0 true = 0; tape 6; write 0 0 = 6; finish 0 0 = 1; fill 0 7 = 0; fill 0 9 = 1
            frame 1 = 0 8 0 4 0 1 5; fill 0 9 = 2; frame 2 = 0 21 0 5""");
        Run.of(sentence).calls("""
            grant 1 6 5; join; open 0 true = 0; tape 6; write 0 0 = 6; fill 0 99 = 0; reset 0 0 1 = 1
            fill 0 99 = 1; line 1 1 = 4; fill 0 99 = -1""");
        Run.of(sentence).calls("""
            grant 1 6 5; join; open 0 true = 0; open 0 true = 4; tape 6; write 0 0 = 6; tape 4; write 0 4 = 4
            fill 0 99 = 0; fill 0 99 = 1; frame 1 = 0 21 0 5; fill 0 99 = 2; frame 2 = 0 8 4; fill 0 99 = -1""");
    }

    private static void streamsBlocked() {
        String sentence = "STREAMS BLOCKED 22, 23, if an opening was refused by that limit, which is it still";
        Run.of(sentence).calls("""
            grant 1 8 1; grant 1 9 1; join; open 0 true = 0; open 0 false = 2; fill 0 9 = -1; open 0 true = -1
            fill 0 9 = 0
            frame 0 = 0 22 1 0 0 0 2; fill 0 9 = -1; open 0 false = -1; fill 0 9 = 1; frame 1 = 0 23 1 0 0 0 2
            fill 0 9 = -1""");
        Run.of(sentence).calls("""
            grant 1 8 0; grant 1 9 0; join; open 0 true = -1; open 0 false = -1; take 0 18 1 0 0 = 0; fill 0 9 = 0
            frame 0 = 0 23 0; fill 0 9 = -1; take 0 19 1 0 0 = 0; open 0 true = 0; open 0 true = -1; fill 0 9 = 1
            frame 1 = 0 22 1; fill 0 9 = -1""");
        Run.of(sentence).calls("""
            grant 1 8 0; join; open 0 true = -1; take 0 18 0 0 0 = 0; fill 0 9 = 0; frame 0 = 0 22 0 0 0 0 2
            fill 1 9 = -1""");
    }

    private static void notAgain() {
        String sentence = "each of these not again with the same limit (but if it was lost)";
        String begun = "grant 1 4 2; grant 1 6 2; grant 1 8 1; grant 1 9 0; join; open 0 true = 0; tape 5; write 0 0 = 5; fill 0 99 = 0"
            + "; open 0 true = -1; open 0 false = -1; fill 0 9 = 1; frame 1 = 0 20 2; fill 0 9 = 2; frame 2 = 0 21 0 2"
            + "; fill 0 9 = 3; frame 3 = 0 22 1; fill 0 9 = 4; frame 4 = 0 23 0; fill 0 9 = -1";
        Run.of(sentence).calls(begun).calls("""
            open 0 true = -1; open 0 false = -1; tape 1; write 0 0 = 1; take 0 16 2 0 0 = 0; take 0 17 0 2 0 = 0
            take 0 18 1 0 0 = 0; take 0 19 0 0 0 = 0; fill 0 9 = -1""");
        Run.of(sentence).calls(begun).calls("""
            gone 4 false; fill 0 9 = 4; frame 4 = 0 23 0; gone 3 false; fill 0 9 = 3; frame 3 = 0 22 1
            gone 2 false; fill 0 9 = 2; frame 2 = 0 21 0 2; gone 1 false; fill 0 9 = 1; frame 1 = 0 20 2
            fill 0 9 = -1""");
        Run.of(sentence).calls(begun).calls("""
            take 0 16 3 0 0 = 0; take 0 17 0 3 0 = 0; fill 0 9 = 5; frame 5 = 0 8 0 2 0 1 5; fill 0 9 = 6
            frame 6 = 0 20 3
            fill 0 9 = 7; frame 7 = 0 21 0 3; fill 0 9 = -1; gone 1 false; gone 2 false; fill 0 9 = -1
            take 0 18 2 0 0 = 0; take 0 19 1 0 0 = 0; open 0 true = 4; open 0 true = -1; open 0 false = 2
            open 0 false = -1
            fill 0 9 = 1; frame 1 = 0 22 2; fill 0 9 = 2; frame 2 = 0 23 1; gone 3 false; gone 4 false
            fill 0 9 = -1""");
    }

    private static void turns() {
        String sentence = "the first one that has something to send that fits, from the id behind that of the last STREAM frame on, "
            + "round to that itself";
        Run.of(sentence).calls("""
            join; open 0 true = 0; open 0 true = 4; open 0 false = 2; tape 9; write 0 0 = 9; tape 9; write 0 4 = 9
            tape 9
            write 0 2 = 9; fill 0 6 = 0; frame 0 = 0 8 0 0 0 3; fill 0 6 = 1; frame 1 = 0 8 2 0 0 3; fill 0 6 = 2
            frame 2 = 0 8 4 0 0 3; fill 0 6 = 3; frame 3 = 0 8 0 3 0 2; open 0 true = 8; tape 2; write 0 8 = 2
            fill 0 6 = 4; line 4 2 = 2; fill 0 6 = 5; line 5 2 = 4; fill 0 6 = 6; line 6 2 = 8; fill 0 6 = 7
            line 7 2 = 0""");
        Run.of(sentence).calls("""
            join; open 0 true = 0; open 0 true = 4; tape 9; write 0 4 = 9; fill 0 4 = 0; line 0 2 = 4; fill 0 5 = 1
            line 1 2 = 4
            tape 2; write 0 0 = 2; fill 0 4 = 2; frame 2 = 0 8 0 0 0 1 4; fill 0 4 = -1; fill 0 5 = 3; line 3 2 = 4
            fill 0 5 = 4; frame 4 = 0 8 0 1 0 1 5; fill 0 5 = 5; line 5 2 = 4; fill 0 5 = 6; line 6 2 = 4""");
        Run.of(sentence).calls("""
            join; open 0 true = 0; open 0 true = 4; tape 9; write 0 0 = 9; tape 9; write 0 4 = 9; fill 0 5 = 0
            line 0 2 = 0
            reset 0 4 1 = 1; fill 0 9 = 1; line 1 1 = 4; fill 0 5 = 2; frame 2 = 0 8 0 2; tape 2; open 0 false = 2
            write 0 2 = 2; fill 0 9 = 3; line 3 2 = 2""");
        Run.of(sentence).calls("""
            join; open 0 true = 0; open 1 true = 1; tape 2; write 0 0 = 2; tape 2; write 1 1 = 2; fill 0 4 = 0
            line 0 2 = 0
            fill 1 4 = 1; line 1 2 = 1; take 0 21 1 0 0 = 0; take 1 21 0 0 0 = 0; tape 1; write 0 1 = 1; tape 1
            write 1 0 = 1
            fill 0 9 = 2; line 2 2 = 1; fill 1 9 = 3; line 3 2 = 0; fill 1 9 = 4; line 4 2 = 1; fill 0 9 = 5
            line 5 2 = 0""");
    }

    private static void turnsOfStreamFramesAlone() {
        String sentence = "from the id behind that of the last STREAM frame on";
        Run.of(sentence).calls("""
            join; open 0 true = 0; open 0 true = 4; open 0 true = 8; tape 9; write 0 0 = 9; tape 9; write 0 4 = 9
            tape 9
            write 0 8 = 9; fill 0 5 = 0; line 0 2 = 0; stop 0 4 1 = 1; fill 0 5 = 1; frame 1 = 0 5 4; fill 0 5 = 2
            line 2 2 = 4
            reset 0 8 1 = 1; fill 0 5 = 3; frame 3 = 0 4 8; open 0 true = 12; feed 1 1 = 1; write 0 12 = 1
            stop 0 12 1 = 1
            fill 0 5 = 4; frame 4 = 0 5 12; fill 0 5 = 5; frame 5 = 0 8 12; fill 0 5 = 6; line 6 2 = 0""");
        Run.of(sentence).calls("""
            join; open 0 true = 0; open 0 true = 4; tape 9; write 0 0 = 9; tape 9; write 0 4 = 9; fill 0 5 = 0
            line 0 2 = 0
            gone 0 false; fill 0 5 = 0; line 0 2 = 4; fill 0 3 = -1; fill 0 4 = 1; frame 1 = 0 8 0 0 0 1""");
    }

    private static void partsThatMaySend() {
        String sentence = "STREAM: of sending parts in the states 0, 1";
        Run.of(sentence).calls("""
            join; open 0 true = 0; open 0 false = 2; tape 2; write 0 0 = 2; tape 2; write 0 2 = 2; finish 0 2 = 1
            fill 0 9 = 0; frame 0 = 0 8 0 0 0 2; fill 0 9 = 1; frame 1 = 0 8 2 0 1 2; fill 0 9 = -1""");
        Run.of(sentence).calls("""
            join; open 0 true = 0; tape 6; write 0 0 = 6; finish 0 0 = 1; fill 0 5 = 0; fill 0 5 = 1; gone 0 false
            reset 0 0 1 = 1
            fill 0 99 = 0; frame 0 = 0 4 0 1 3 0 4; fill 0 99 = -1; gone 1 false; fill 0 99 = -1; deliver 0 = 0
            gone 0 true
            sends 0 0 = 4 6 3 1024 1 3 0 1; fill 0 99 = -1""");
        Run.of(sentence).calls("""
            join; open 0 true = 0; tape 2; write 0 0 = 2; finish 0 0 = 1; fill 0 9 = 0; deliver 0 = 0; gone 0 true
            stream 0 0 0 = 2; fill 0 99 = -1""");
    }

    /** Behind the stream 255 it goes on with 0. */
    private static void turnsWrapRound() {
        String sentence = "from the id behind that of the last STREAM frame on, round to that itself";
        Run run = Run.of(sentence).calls("grant 0 9 64; join; take 1 21 0 0 0 = 0");
        for (int n = 0; n < 64; n++) {
            run.calls("open 1 false = " + (4 * n + 3));
        }
        run.calls("""
            tape 4; write 1 255 = 4; fill 1 5 = 0; line 0 2 = 255; tape 4; write 1 251 = 4; tape 4; write 1 0 = 4
            fill 1 6 = 1; line 1 2 = 0; fill 1 6 = 2; line 2 2 = 251; fill 1 6 = 3; line 3 2 = 255; fill 1 5 = 4
            line 4 2 = 0
            fill 1 6 = 5; line 5 2 = 251; fill 1 9 = 6; line 6 2 = 255; fill 1 9 = 7; line 7 2 = 251
            fill 1 9 = -1""");
    }

    private static void lostBytes() {
        String sentence = "its first LOST bytes, those directly behind one another";
        Run.of(sentence).calls("""
            join; open 0 false = 2; tape 9; write 0 2 = 9; fill 0 4 = 0; fill 0 5 = 1; fill 0 6 = 2; fill 0 5 = 3
            gone 1 false; gone 2 false; stream 0 2 5 = 3; fill 0 99 = 1; frame 1 = 0 8 2 1 0 3 7; bytes 1 = 2 3 4
            stream 0 2 5 = 0; gone 0 false; gone 3 false; fill 0 99 = 0; frame 0 = 0 8 2 0 0 1 4
            fill 0 99 = 2; frame 2 = 0 8 2 4 0 1 5; fill 0 99 = 3; frame 3 = 0 8 2 5 0 4 8""");
        Run.of(sentence).calls("""
            join; open 0 false = 2; tape 9; write 0 2 = 9; fill 0 8 = 0; gone 0 false; fill 0 6 = 0
            frame 0 = 0 8 2 0 0 3 6
            fill 0 99 = 1; frame 1 = 0 8 2 3 0 2 6; gone 0 false; fill 0 99 = 0; frame 0 = 0 8 2 0 0 3 6
            deliver 0 = 0; gone 0 true; gone 1 false; fill 0 99 = 0; frame 0 = 0 8 2 3 0 2 6""");
        Run.of(sentence).calls("""
            grant 1 7 4; join; open 0 false = 2; tape 9; write 0 2 = 9; fill 0 9 = 0; line 0 5 = 4; fill 0 9 = 1
            line 1 1 = 21
            gone 0 false; fill 0 99 = 0; frame 0 = 0 8 2 0 0 4 7; fill 0 99 = -1""");
    }

    private static void unsentBytes() {
        String sentence = "or else bytes not yet sent, as far as both limits allow";
        Run.of(sentence).calls("""
            grant 1 4 7; grant 1 6 5; join; open 0 true = 0; open 0 true = 4; tape 9; write 0 0 = 9; tape 9
            write 0 4 = 9
            fill 0 99 = 0; frame 0 = 0 8 0 0 0 5 8; fill 0 99 = 1; frame 1 = 0 21 0 5; fill 0 99 = 2
            frame 2 = 0 8 4 0 0 2 5
            fill 0 99 = 3; frame 3 = 0 20 7; fill 0 99 = -1; take 0 16 9 0 0 = 0; fill 0 99 = 4
            frame 4 = 0 8 4 2 0 2 6
            take 0 16 99 0 0 = 0; fill 0 99 = 5; frame 5 = 0 8 4 4 0 1 5""");
        Run.of(sentence).calls("""
            grant 1 4 5; grant 1 6 5; join; open 0 true = 0; tape 6; write 0 0 = 6; fill 0 99 = 0; line 0 5 = 5
            take 0 16 TOP 0 0 = 0; take 0 17 0 TOP 0 = 0; fill 0 99 = 1; frame 1 = 0 8 0 5 0 1 5""");
    }

    private static void endAlone() {
        String sentence = "or else, when all are sent, the end, if it is NEW or LOST.";
        Run.of(sentence).calls("""
            join; open 0 false = 2; tape 3; write 0 2 = 3; fill 0 9 = 0; fill 0 9 = -1; finish 0 2 = 1; fill 0 9 = 1
            frame 1 = 0 8 2 3 1 0 4; fill 0 9 = -1; gone 1 false; fill 0 9 = 1; frame 1 = 0 8 2 3 1 0 4; fill 0 9 = -1
            deliver 1 = 0; gone 1 true; fill 0 9 = -1; stream 0 2 7 = 4""");
        Run.of(sentence).calls("""
            grant 1 7 2; join; open 0 false = 2; tape 3; write 0 2 = 3; finish 0 2 = 1; fill 0 9 = 0
            frame 0 = 0 8 2 0 0 2 5
            fill 0 9 = 1; line 1 1 = 21; fill 0 9 = -1; stream 0 2 7 = 1""");
        Run.of(sentence).calls("""
            join; open 0 false = 2; tape 3; write 0 2 = 3; finish 0 2 = 1; fill 0 9 = 0; frame 0 = 0 8 2 0 1 3 6
            gone 0 false; fill 0 5 = 0; frame 0 = 0 8 2 0 0 2 5; stream 0 2 7 = 3; fill 0 5 = 1
            frame 1 = 0 8 2 2 1 1 5
            stream 0 2 7 = 2; fill 0 9 = -1""");
        Run.of(sentence).calls("""
            join; open 0 false = 2; tape 2; write 0 2 = 2; finish 0 2 = 1; fill 0 4 = 0; frame 0 = 0 8 2 0 0 1
            fill 0 5 = 1
            frame 1 = 0 8 2 1 1 1; gone 1 false; sends 0 2 = 1 2 2 1024 0 1 0 3; fill 0 4 = -1; fill 0 5 = 1
            frame 1 = 0 8 2 1 1 1""");
    }

    private static void asManyAsFit() {
        String sentence = "As many bytes as fit (one at least, but for the end alone).";
        Run.of(sentence).calls("""
            join; open 0 false = 2; tape 3; write 0 2 = 3; finish 0 2 = 1; fill 0 3 = -1
            sends 0 2 = 1 3 0 1024 0 0 0 1
            fill 0 5 = 0; frame 0 = 0 8 2 0 0 2 5; fill 0 4 = -1; fill 0 5 = 1; frame 1 = 0 8 2 2 1 1 5""");
        Run.of(sentence).calls("""
            join; open 0 false = 2; tape 3; write 0 2 = 3; fill 0 9 = 0; finish 0 2 = 1; fill 0 3 = -1; fill 0 4 = 1
            frame 1 = 0 8 2 3 1 0 4; gone 0 false; fill 0 3 = -1; fill 0 4 = 0; frame 0 = 0 8 2 0 0 1 4
            fill 0 4 = -1; fill 0 5 = 2; frame 2 = 0 8 2 1 0 1 5""");
        Run run = Run.of(sentence).calls("join; open 0 false = 2; tape 1024; write 0 2 = 1024");
        run.calls("""
            fill 0 66 = 0; frame 0 = 0 8 2 0 0 63 66; gone 0 false; fill 0 67 = 0; frame 0 = 0 8 2 0 0 63 66
            gone 0 false""")
            .calls("fill 0 68 = 0; frame 0 = 0 8 2 0 0 63 66; fill 0 1200 = 1; frame 1 = 0 8 2 63 0 961 966");
        Run.of(sentence).calls("""
            join; open 0 false = 2; tape 99; write 0 2 = 99; fill 0 67 = 0; frame 0 = 0 8 2 0 0 63 66""");
        Run.of(sentence).calls("""
            join; open 0 false = 2; tape 99; write 0 2 = 99; fill 0 68 = 0; frame 0 = 0 8 2 0 0 64 68""");
    }

    private static void toTheEnd() {
        String sentence = "If the frame goes to the end of what is written, and it is FINISHED, its c is 1.";
        Run.of(sentence).calls("""
            join; open 0 false = 2; tape 3; write 0 2 = 3; fill 0 9 = 0; frame 0 = 0 8 2 0 0 3; finish 0 2 = 1
            gone 0 false
            fill 0 5 = 0; frame 0 = 0 8 2 0 0 2; fill 0 9 = 1; frame 1 = 0 8 2 2 1 1""");
        Run.of(sentence).calls("""
            join; open 0 false = 2; tape 3; write 0 2 = 3; finish 0 2 = 1; fill 0 5 = 0; frame 0 = 0 8 2 0 0 2
            fill 0 9 = 1
            frame 1 = 0 8 2 2 1 1; gone 0 false; fill 0 9 = 0; frame 0 = 0 8 2 0 0 2""");
    }

    private static void outThen() {
        String sentence = "They are OUT then (the end, too, but if it is HERE)";
        Run.of(sentence).calls("""
            join; open 0 false = 2; tape 3; write 0 2 = 3; fill 0 9 = 0; finish 0 2 = 1; fill 0 9 = 1; deliver 1 = 0
            gone 1 true
            stream 0 2 7 = 4; gone 0 false; sends 0 2 = 1 3 3 1024 0 3 0 4; fill 0 9 = 0; frame 0 = 0 8 2 0 1 3
            sends 0 2 = 1 3 3 1024 0 0 0 4; gone 0 false; sends 0 2 = 1 3 3 1024 0 3 0 4""");
        Run.of(sentence).calls("""
            join; open 0 false = 2; tape 3; write 0 2 = 3; finish 0 2 = 1; fill 0 9 = 0
            sends 0 2 = 1 3 3 1024 0 0 0 2
            gone 0 false; sends 0 2 = 1 3 3 1024 0 3 0 3; fill 0 9 = 0; sends 0 2 = 1 3 3 1024 0 0 0 2""");
        Run.of("SENT and what is to be sent or told are as after it.").calls(ALL_KINDS)
            .calls("fill 0 99; ".repeat(11)).calls("""
                fill 0 1200 = -1; stream 0 0 2 = 8; side 0 0 = 8; stream 0 0 5 = 0""");
    }

    private static void toldOnce() {
        String sentence = "is told its sender once: ARRIVED or LOST.";
        Run.of(sentence).calls("""
            join; open 0 false = 2; tape 3; write 0 2 = 3; fill 0 9 = 0; deliver 0 = 0; gone 0 true; stream 0 2 6 = 3
            gone 0 true throws element; gone 0 false throws element; stream 0 2 6 = 3; deliver 0 throws element""");
        Run.of(sentence).calls("""
            join; open 0 false = 2; tape 3; write 0 2 = 3; fill 0 9 = 0; gone 0 false; gone 0 false throws element
            gone 0 true throws element; stream 0 2 5 = 3; fill 0 9 = 0; gone 0 true throws state; gone 0 false""");
    }

    private static void streamGone() {
        String sentence = "STREAM: its bytes, and its end, are HERE; if lost, those that are not HERE are LOST.";
        Run.of(sentence).calls("""
            join; open 0 false = 2; tape 6; write 0 2 = 6; finish 0 2 = 1; fill 0 5 = 0; fill 0 6 = 1; fill 0 9 = 2
            deliver 1 = 0; gone 1 true; sends 0 2 = 1 6 6 1024 0 0 2 2; gone 2 false; sends 0 2 = 1 6 6 1024 0 2 2 3
            gone 0 false; sends 0 2 = 1 6 6 1024 0 4 2 3""");
        Run.of(sentence).calls("""
            join; open 0 false = 2; tape 2; write 0 2 = 2; fill 0 9 = 0; finish 0 2 = 1; fill 0 9 = 1; gone 0 false
            fill 0 9 = 0
            frame 0 = 0 8 2 0 1 2; deliver 1 = 0; gone 1 true; stream 0 2 7 = 4; gone 0 false
            sends 0 2 = 1 2 2 1024 0 2 0 4""");
        Run.of(sentence).calls("""
            join; open 0 false = 2; tape 2; write 0 2 = 2; fill 0 9 = 0; finish 0 2 = 1; fill 0 9 = 1; gone 0 false
            fill 0 9 = 0
            gone 0 false; stream 0 2 7 = 3; deliver 1 = 0; gone 1 true; stream 0 2 7 = 4""");
        Run.of(sentence).calls("""
            join; open 0 false = 2; tape 2; write 0 2 = 2; fill 0 4 = 0; fill 0 9 = 1; reset 0 2 1 = 1
            deliver 0 = 0; gone 0 true
            gone 1 false; sends 0 2 = 3 2 2 1024 1 1 1 0""");
    }

    private static void allIsHere() {
        String sentence = "The state becomes 2 when all is HERE (from 1).";
        Run.of(sentence).calls("""
            join; open 0 false = 2; tape 2; write 0 2 = 2; fill 0 9 = 0; deliver 0 = 0; gone 0 true; stream 0 2 0 = 0
            tape 1; write 0 2 = 1; finish 0 2 = 1; fill 0 9 = 0; deliver 0 = 0; stream 0 2 0 = 1; gone 0 true
            stream 0 2 0 = 2
            write 0 2 = -1; reset 0 2 0 = 0; finish 0 2 = 0""");
        Run.of(sentence).calls("""
            join; open 0 false = 2; tape 2; write 0 2 = 2; finish 0 2 = 1; fill 0 9 = 0; deliver 0 = 0
            reset 0 2 4 = 1
            gone 0 true; sends 0 2 = 3 2 2 1024 4 0 2 4; fill 0 9 = 0; line 0 1 = 4""");
        Run.of(sentence).calls("""
            join; open 0 false = 2; finish 0 2 = 1; fill 0 9 = 0; deliver 0 = 0; gone 0 true
            sends 0 2 = 2 0 0 1024 0 0 0 4""");
    }

    private static void resetGone() {
        String sentence = "RESET: from 3 it is 4; if lost, it is to be sent again.";
        Run.of(sentence).calls("""
            join; open 0 false = 2; tape 9; write 0 2 = 9; fill 0 6 = 0; reset 0 2 7 = 1; fill 0 9 = 1; fill 0 9 = -1
            gone 1 false; stream 0 2 0 = 3; fill 0 9 = 1; frame 1 = 0 4 2 7 3 0 4; fill 0 9 = -1; deliver 1 = 0
            gone 1 true
            stream 0 2 0 = 4; fill 0 9 = -1; deliver 0 = 0; gone 0 true; stream 0 2 0 = 4""");
        Run.of(sentence).calls("""
            join; open 0 false = 2; reset 0 2 7 = 1; fill 0 9 = 0; deliver 0 = 0; gone 0 false; stream 0 2 0 = 3
            fill 0 9 = 0
            frame 0 = 0 4 2 7 0 0 4""");
        Run.of(sentence).calls("""
            grant 0 5 4; grant 1 6 1; join; open 0 true = 0; tape 2; write 0 0 = 2; fill 0 9 = 0; fill 0 9 = 1
            line 1 1 = 21
            stop 0 0 3 = 1; fill 0 9 = 2; line 2 1 = 5; tape 4; take 0 8 0 0 0 = 0; read 0 0 2 = 2; fill 0 9 = 3
            line 3 1 = 17
            reset 0 0 7 = 1; deliver 0 = 0; deliver 1 = 0; deliver 2 = 0; deliver 3 = 0
            gone 0 true; gone 1 true; gone 2 true; gone 3 true; stream 0 0 0 = 3; fill 0 9 = 0; line 0 1 = 4""");
    }

    private static void stopGone() {
        String sentence = "STOP, lost: to be sent again.";
        Run.of(sentence).calls("""
            join; take 0 21 3 0 0 = 0; stop 0 3 7 = 1; fill 0 9 = 0; fill 0 9 = -1; gone 0 false; fill 0 9 = 0
            frame 0 = 0 5 3 7 0 0 3; fill 0 9 = -1; stop 0 3 8 = 0; gone 0 false; take 0 8 3 9 1 = 0; fill 0 9 = 0
            frame 0 = 0 5 3 7""");
        Run.of(sentence).calls("""
            join; take 0 21 3 0 0 = 0; stop 0 3 7 = 1; open 1 false = 3; fill 0 9 = 0; deliver 0 = 0; gone 0 true
            fill 0 9 = -1""");
        Run.of(sentence).calls("""
            join; take 0 21 3 0 0 = 0; stop 0 3 7 = 1; fill 0 9 = 0; take 0 4 3 0 0 = 0; gone 0 false; fill 0 9 = 0
            line 0 1 = 19
            fill 0 9 = -1""");
    }

    private static void maxGone() {
        String sentence = "MAX .., lost: to be told again, if its number is the grant of now.";
        Run.of(sentence).calls("""
            grant 0 4 4; join; tape 4; take 0 8 1 0 0 = 0; read 0 1 2 = 2; fill 0 9 = 0; frame 0 = 0 16 6
            gone 0 false
            fill 0 9 = 0; frame 0 = 0 16 6; fill 0 9 = -1; read 0 1 2 = 2; fill 0 9 = 1; frame 1 = 0 16 8
            gone 0 false
            fill 0 9 = -1; gone 1 false; fill 0 9 = 0; frame 0 = 0 16 8; deliver 0 = 0; gone 0 true
            fill 0 9 = -1""");
        Run.of(sentence).calls("""
            grant 0 6 4; join; open 1 true = 1; tape 4; take 0 8 1 0 0 = 0; read 0 1 2 = 2; fill 0 9 = 0
            frame 0 = 0 17 1 6
            gone 0 false; fill 0 9 = 0; frame 0 = 0 17 1 6; fill 0 9 = -1; read 0 1 2 = 2; fill 0 9 = 1
            frame 1 = 0 17 1 8
            gone 0 false; fill 0 9 = -1; gone 1 false; fill 0 9 = 0; frame 0 = 0 17 1 8; deliver 0 = 0; gone 0 true
            fill 0 9 = -1""");
        Run.of(sentence).calls("""
            join; take 0 8 3 0 1 = 0; fill 0 9 = 0; frame 0 = 0 19 5; gone 0 false; fill 0 9 = 0; frame 0 = 0 19 5
            fill 0 9 = -1
            take 0 8 7 0 1 = 0; fill 0 9 = 1; frame 1 = 0 19 6; gone 0 false; fill 0 9 = -1; gone 1 false
            fill 0 9 = 0
            frame 0 = 0 19 6; deliver 0 = 0; gone 0 true; fill 0 9 = -1""");
        Run.of(sentence).calls("""
            join; open 1 true = 1; open 1 true = 5; take 0 4 1 0 0 = 0; take 0 4 5 0 0 = 0; reset 0 1 0 = 1
            reset 0 5 0 = 1
            fill 0 9 = 0; fill 0 9 = 1; deliver 0 = 0; deliver 1 = 0; gone 0 true; fill 0 9 = 0; frame 0 = 0 18 5
            gone 0 false
            fill 0 9 = 0; frame 0 = 0 18 5; fill 0 9 = -1; gone 1 true; fill 0 9 = 1; frame 1 = 0 18 6; gone 0 false
            fill 0 9 = -1
            gone 1 false; fill 0 9 = 0; frame 0 = 0 18 6; deliver 0 = 0; gone 0 true; fill 0 9 = -1""");
        Run.of(sentence).calls("""
            grant 0 6 4; join; tape 4; take 0 8 1 0 0 = 0; read 0 1 2 = 2; fill 0 9 = 0; take 0 8 1 4 1 = 0
            gone 0 false
            fill 0 9 = -1""");
    }

    private static void blockedGone() {
        String sentence = "BLOCKED, lost: may be sent again.";
        Run.of(sentence).calls("""
            grant 1 4 0; join; open 0 true = 0; tape 1; write 0 0 = 1; fill 0 9 = 0; frame 0 = 0 20 0; gone 0 false
            fill 0 9 = 0
            frame 0 = 0 20 0; fill 0 9 = -1; deliver 0 = 0; gone 0 true; fill 0 9 = -1""");
        Run.of(sentence).calls("""
            grant 1 6 0; join; open 0 true = 0; tape 1; write 0 0 = 1; fill 0 9 = 0; frame 0 = 0 21 0 0
            gone 0 false; fill 0 9 = 0
            frame 0 = 0 21 0 0; fill 0 9 = -1; deliver 0 = 0; gone 0 true; fill 0 9 = -1""");
        Run.of(sentence).calls("""
            grant 1 8 0; join; open 0 true = -1; fill 0 9 = 0; gone 0 false; fill 0 9 = 0; frame 0 = 0 22 0
            fill 0 9 = -1
            deliver 0 = 0; gone 0 true; fill 0 9 = -1""");
        Run.of(sentence).calls("""
            grant 1 9 0; join; open 0 false = -1; fill 0 9 = 0; gone 0 false; fill 0 9 = 0; frame 0 = 0 23 0
            fill 0 9 = -1
            deliver 0 = 0; gone 0 true; fill 0 9 = -1""");
        Run.of(sentence).calls("""
            grant 1 4 0; join; open 0 true = 0; tape 1; write 0 0 = 1; fill 0 9 = 0; frame 0 = 0 20 0
            take 0 16 1 0 0 = 0
            gone 0 false; fill 0 9 = 0; line 0 1 = 8; fill 0 9 = -1""");
    }
}
