/** The sentences of "Terms" on taking a frame, and on grants that grow, each by itself. */
public final class TakingTest {
    /** 2 to the power of 32: a number that must not be taken for 0. */
    private static final long WRAP = 4294967296L;
    private static final int[] KINDS = {4, 5, 8, 16, 17, 18, 19, 20, 21, 22, 23};

    public static void main(String[] args) {
        fields();
        errorsChangeNothing();
        orderOfErrors();
        notThere();
        above255();
        noPart();
        limit();
        thenItIsThere();
        offsetBehindTheData();
        streamSize();
        streamFlow();
        streamHighest();
        streamBytes();
        streamStates();
        resetErrors();
        resetStates();
        stop();
        maxStreamData();
        maxData();
        maxStreams();
        blocked();
        dataGrantGrows();
        dataGrantHalf();
        dataGrantMost();
        grantGrows();
        grantMost();
        over();
        overOnce();
        Run.end("TakingTest");
    }

    private static void fields() {
        String sentence = "a kind and fields a, b, c, of 0 .. 4611686018427387903";
        for (int kind : KINDS) {
            boolean stream = kind == 8;
            String to = "take 0 " + kind;
            Run.of(sentence).calls("join")
                .calls(to + " -1 0 0 throws argument; " + to + " 0 -1 0 throws argument; " + to + " 0 0 -1 throws argument")
                .calls(to + " TOP+1 0 0 throws argument; " + to + " 0 TOP+1 0 throws argument")
                .calls(to + " 0 0 TOP+1 throws argument; " + to + " long.min 0 0 throws argument")
                .calls(to + " 0 long.max 0 throws argument; " + to + " 0 0 long.max throws argument")
                .calls(to + " 0 0 0; " + to + " TOP 0 0; " + to + " 0 TOP 0" + (stream ? " throws argument" : ""))
                .calls(to + " 0 0 TOP" + (stream ? " throws argument" : "") + "; " + to + " 0 0 1");
        }
    }

    /** On the streams 1 (with a gap), 5 (sized), 9 (reset) and on its own 0; the DATA GRANT is 60, 1 is granted 30. */
    private static final String BEGUN = """
        grant 0 4 60; grant 0 6 30; join; open 0 true = 0; open 0 false = 2
        tape 4; take 0 8 1 0 0 = 0; tape 4; take 0 8 1 6 0 = 0; read 0 1 2 = 2; take 0 8 5 20 1 = 0
        take 0 4 9 3 15 = 0
        """;

    private static void errorsChangeNothing() {
        String sentence = "The answer is 0, or an ERROR (then nothing has changed)";
        String[] rows = {
            "tape 3; take 0 8 4 0 0 = 5", "take 0 5 6 1 0 = 5", "take 0 8 2 0 0 = 5", "take 0 4 2 1 0 = 5",
            "take 0 17 3 9999 0 = 5", "take 0 5 7 9 0 = 5", "take 0 21 TOP 0 0 = 4", "take 0 8 19 0 1 = 4",
            "tape 2; take 0 8 17 0 0 = 4", "take 0 17 17 9999 0 = 4", "take 0 5 17 1 0 = 4", "take 0 4 17 1 1 = 4",
            "take 0 8 1 9 1 = 6", "tape 1; take 0 8 5 20 0 = 6",
            "tape 2; take 0 8 5 3 1 = 6", "tape 8; take 0 8 1 23 0 = 3", "tape 8; take 0 8 13 8 0 = 3",
            "tape 3; take 0 8 13 28 1 = 3", "take 0 4 1 5 9 = 6", "take 0 4 5 5 19 = 6", "take 0 4 5 5 21 = 6",
            "take 0 4 13 5 31 = 3", "take 0 4 13 5 16 = 3", "take 0 4 9 5 16 = 6",
        };
        for (String row : rows) {
            Run.unchanged(sentence, BEGUN, row);
        }
    }

    private static void orderOfErrors() {
        String sentence = "5 STATE, 4 LIMIT, 3 FLOW, 6 SIZE, the first one, in the order in which they are said.";
        Run.of(sentence).calls("join; take 0 5 19 0 0 = 5; take 0 17 TOP 0 0 = 5; take 0 8 19 0 0 = 4");
        Run.of(sentence).calls("join; take 0 8 0 5000 1 = 5; take 0 8 2 5000 1 = 5; take 0 4 2 0 TOP = 5");
        Run.of(sentence).calls("join; take 0 8 17 5000 0 = 4; take 0 4 17 0 TOP = 4; take 0 8 13 5000 0 = 3");
        Run.of(sentence).calls("""
            join; take 0 8 1 7 1 = 0; take 0 8 1 5000 0 = 6; take 0 8 1 5000 1 = 6; take 0 4 1 0 TOP = 6""");
    }

    private static void notThere() {
        Run.of("STATE, if it opens on this side and is not there").calls("""
            join; take 0 4 0 0 0 = 5; take 0 5 0 0 0 = 5; take 0 8 0 0 0 = 5; take 0 17 0 0 0 = 5; take 0 21 0 0 0 = 5
            take 0 5 2 0 0 = 5; take 0 17 2 0 0 = 5; open 0 true = 0; open 0 false = 2; take 0 8 0 0 0 = 0
            take 0 21 0 0 0 = 0; take 0 17 0 0 0 = 0; take 0 5 2 0 0 = 0; take 0 5 0 0 0 = 0; take 0 4 0 0 0 = 0
            take 0 8 4 0 0 = 5; take 0 5 6 0 0 = 5; stream 0 4 0 = -1; side 0 5 = 1""");
        Run.of("STATE, if it opens on this side and is not there").calls("""
            join; take 1 8 1 0 0 = 5; take 1 5 3 0 0 = 5; open 1 true = 1; take 1 8 1 0 0 = 0; take 1 8 5 0 0 = 5""");
    }

    private static void above255() {
        String sentence = "(it is not, if a is above 255)";
        Run run = Run.of(sentence).calls("grant 1 8 64; grant 1 9 64; join");
        for (int n = 0; n < 64; n++) {
            run.calls("open 0 true = " + 4 * n + "; open 0 false = " + (4 * n + 2));
        }
        for (int kind : new int[] {4, 5, 8, 17, 21}) {
            run.calls("take 0 " + kind + " 256 0 0 = 5; take 0 " + kind + " 258 0 0 = 5")
                .calls("take 0 " + kind + " 512 0 0 = 5; take 0 " + kind + " " + WRAP + " 0 0 = 5")
                .calls("take 0 " + kind + " " + (WRAP + 2) + " 0 0 = 5; take 0 " + kind + " 4611686018427387902 0 0 = 5");
        }
        run.calls("take 0 8 252 0 0 = 0; take 0 5 254 0 0 = 0; take 0 17 252 0 0 = 0");
    }

    private static void noPart() {
        String sentence = "or if this side has no part in what the frame is about: "
            + "4, 8, 21 are about what it receives, 5, 17 about what it sends.";
        Run.of(sentence).calls("""
            join; open 0 false = 2; take 0 4 2 0 0 = 5; take 0 8 2 0 0 = 5; take 0 21 2 0 0 = 5
            take 0 17 2 0 0 = 0; take 0 5 2 0 0 = 0""");
        Run.of(sentence).calls("""
            join; take 0 5 3 0 0 = 5; take 0 17 3 0 0 = 5; side 0 10 = 0; take 0 21 3 0 0 = 0; take 0 8 3 0 0 = 0
            take 0 5 3 0 0 = 5; take 0 17 3 0 0 = 5; take 0 4 3 0 0 = 0""");
        Run.of(sentence).calls("""
            join; open 0 true = 0; take 0 17 0 0 0 = 0; take 0 21 0 0 0 = 0; take 0 8 0 0 0 = 0; take 0 4 0 0 0 = 0
            take 0 5 0 0 0 = 0; take 0 17 1 0 0 = 0; take 0 21 1 0 0 = 0; take 0 8 1 0 0 = 0; take 0 4 1 0 0 = 0
            take 0 5 1 0 0 = 0""");
    }

    private static void limit() {
        String sentence = "LIMIT, if it opens on the other side and a / 4 is not below the number of such streams granted.";
        for (int kind : new int[] {4, 5, 8, 17, 21}) {
            Run.of(sentence).calls("join; take 0 " + kind + " 17 0 0 = 4; take 0 " + kind + " 21 0 0 = 4")
                .calls("take 0 " + kind + " 257 0 0 = 4; take 0 " + kind + " " + (WRAP + 1) + " 0 0 = 4")
                .calls("take 0 " + kind + " 4611686018427387901 0 0 = 4; side 0 9 = 0; take 0 " + kind + " 13 0 0 = 0")
                .calls("side 0 9 = 4");
        }
        for (int kind : new int[] {4, 8, 21}) {
            Run.of(sentence).calls("grant 0 9 2; join; take 0 " + kind + " 11 0 0 = 4; take 0 " + kind + " TOP 0 0 = 4")
                .calls("take 0 " + kind + " " + (WRAP + 3) + " 0 0 = 4; take 0 " + kind + " 7 0 0 = 0; side 0 10 = 2");
        }
        Run.of(sentence).calls("""
            grant 0 8 64; grant 0 9 64; join; take 0 8 257 0 0 = 4; take 0 8 259 0 0 = 4; take 0 8 253 0 0 = 0
            take 0 8 255 0 0 = 0; side 0 9 = 64; side 0 10 = 64; take 0 8 257 0 0 = 4; take 0 8 259 0 0 = 4""");
        Run.of(sentence).calls("""
            grant 0 8 0; grant 0 9 1; join; take 0 8 1 0 0 = 4; take 0 8 7 0 0 = 4; take 0 8 3 0 1 = 0
            side 0 12 = 2; take 0 8 7 0 0 = 0; take 0 8 11 0 0 = 4""");
    }

    private static void thenItIsThere() {
        Run.of("Then it is there.").calls("""
            join; take 0 8 5 1025 0 = 3; stream 0 5 8 = -1; stream 0 1 8 = -1; side 0 9 = 0; take 0 4 5 0 1025 = 3
            stream 0 5 8 = -1; take 0 8 5 1024 0 = 0; stream 0 5 8 = 0; stream 0 5 0 = 0; side 0 9 = 2""");
    }

    private static void offsetBehindTheData() {
        String sentence = "with e the offset behind the data";
        Run.of(sentence).calls("""
            join; tape 3; take 0 8 1 0 0 = 0; stream 0 1 11 = 3; tape 3; take 0 8 1 4 0 = 0; stream 0 1 11 = 7
            stream 0 1 10 = 3
            feed 1 0 = 1; take 0 8 1 3 1 = 6; feed 1 0 = 1; take 0 8 1 7 1 = 0; stream 0 1 12 = 8
            take 0 8 5 6 1 = 0; stream 0 5 12 = 6""");
        Run.of("4 RESET (b code, c size)").calls("""
            join; tape 5; take 0 4 1 7 9 = 0; gets 0 1 = 4 0 0 9 9 1024 7; tape 5; take 0 4 1 8 9 = 0
            gets 0 1 = 4 0 0 9 9 1024 7""");
    }

    private static void streamSize() {
        Run.of("SIZE, if SIZE is known and e is above it").calls("""
            join; take 0 8 1 5 1 = 0; tape 1; take 0 8 1 5 0 = 6; take 0 8 1 6 0 = 6; tape 2; take 0 8 1 4 0 = 6
            take 0 8 1 5 0 = 0; tape 1; take 0 8 1 4 0 = 0; take 0 8 5 0 1 = 0; tape 1; take 0 8 5 0 0 = 6
            take 0 8 5 0 0 = 0
            take 0 4 9 0 3 = 0; take 0 8 9 4 0 = 6; take 0 8 9 3 0 = 0""");
        Run.of("or it is an end and e is another one").calls("""
            join; take 0 8 1 5 1 = 0; take 0 8 1 4 1 = 6; take 0 8 1 6 1 = 6; tape 2; take 0 8 1 2 1 = 6
            tape 2; take 0 8 1 3 1 = 0; take 0 8 1 0 1 = 6; take 0 8 1 5 1 = 0; take 0 8 1 3 0 = 0
            take 0 4 5 0 3 = 0; take 0 8 5 2 1 = 6; take 0 8 5 3 1 = 0""");
        Run.of("or it is an end, and e is below HIGHEST").calls("""
            join; take 0 8 1 5 0 = 0; take 0 8 1 4 1 = 6; take 0 8 1 0 1 = 6; stream 0 1 12 = -1; take 0 8 1 4 0 = 0
            take 0 8 1 5 1 = 0; take 0 8 5 5 0 = 0; take 0 8 5 6 1 = 0""");
    }

    private static void streamFlow() {
        Run.of("FLOW, if e is above GRANT").calls("""
            grant 0 6 10; join; take 0 8 1 11 0 = 3; tape 1; take 0 8 1 10 0 = 3; tape 8; take 0 8 1 3 1 = 3
            tape 8; take 0 8 1 2 0 = 0; take 0 8 1 10 0 = 0; take 0 8 1 10 1 = 0""");
        Run.of("FLOW, if e is above GRANT").calls("""
            grant 0 6 0; join; take 0 8 1 1 0 = 3; tape 1; take 0 8 1 0 0 = 3; take 0 8 1 0 0 = 0
            take 0 8 1 0 1 = 0""");
        Run.of("FLOW, if e is above GRANT").calls("join; take 0 8 1 " + WRAP + " 0 = 3; take 0 8 1 " + (WRAP + 5) + " 1 = 3")
            .calls("take 0 8 1 2147483648 0 = 3; tape 2048; take 0 8 1 4611686018427380000 0 = 3")
            .calls("take 0 8 1 4611686018427380000 1 = 3; take 0 8 1 4611686018427380001 0 throws argument");
        Run.of("FLOW, if e is above GRANT").calls("""
            grant 0 4 65536; grant 0 6 65536; join; take 0 8 1 65537 0 = 3; tape 8; take 0 8 1 65529 0 = 3
            tape 8 9; take 0 8 1 65528 1 = 0; gets 0 1 = 1 0 0 65536 65536 65536 0""");
        Run.of("or RECEIVED would come above the DATA GRANT").calls("""
            grant 0 4 10; join; take 0 8 1 6 0 = 0; take 0 8 5 5 0 = 3; take 0 8 3 5 1 = 3; take 0 8 1 11 0 = 3
            side 0 2 = 6
            take 0 8 5 4 0 = 0; side 0 2 = 10; tape 6; take 0 8 1 0 0 = 0; take 0 8 1 7 0 = 3; take 0 8 9 1 0 = 3
            take 0 8 9 0 1 = 0; take 0 8 1 6 1 = 0""");
        Run.of("or RECEIVED would come above the DATA GRANT").calls("""
            grant 0 4 0; join; take 0 8 1 1 0 = 3; take 0 4 1 0 1 = 3; take 0 8 1 0 1 = 0; take 0 4 5 0 0 = 0""");
        Run.of("or RECEIVED would come above the DATA GRANT").calls("""
            grant 0 4 10; join; tape 8; take 0 8 1 0 0 = 0; take 0 8 1 11 0 = 3; read 0 1 5 = 5; side 0 4 = 15
            take 0 8 1 15 0 = 0; take 0 8 1 16 0 = 3""");
    }

    private static void streamHighest() {
        Run.of("HIGHEST is at least e").calls("""
            join; tape 3; take 0 8 1 2 0 = 0; stream 0 1 11 = 5; tape 3; take 0 8 1 1 0 = 0; stream 0 1 11 = 5
            take 0 8 1 6 0 = 0; stream 0 1 11 = 6; side 0 2 = 6""");
        Run.of("the size is e, if it is an end").calls("""
            join; tape 3; take 0 8 1 2 0 = 0; stream 0 1 12 = -1; tape 3; take 0 8 1 2 1 = 0; stream 0 1 12 = 5
            tape 1; take 0 8 1 0 0 = 0; stream 0 1 12 = 5; take 0 8 5 0 1 = 0; stream 0 5 12 = 0""");
    }

    private static void streamBytes() {
        String sentence = "In the states 0 and 1 bytes that were not there come in";
        Run.of(sentence).calls("""
            join; tape 3 10; take 0 8 1 2 0 = 0; tape 8 20; take 0 8 1 0 0 = 0; stream 0 1 10 = 8; read 0 1 9 = 8
            outs 0 = 0x1b1a190c0b0a1514; tape 4 30; take 0 8 1 6 0 = 0; read 0 1 9 = 2; outs 0 = 0x2120""");
        Run.of(sentence).calls("""
            join; tape 2 10; take 0 8 1 0 1 = 0; stream 0 1 8 = 2; tape 2 20; take 0 8 1 0 1 = 0
            read 0 1 9 = 2; outs 0 = 0x0b0a""");
        Run.of(sentence).calls("""
            join; take 0 8 1 4 1 = 0; tape 2 10; take 0 8 1 1 0 = 0; stream 0 1 10 = 0; tape 4 20; take 0 8 1 0 0 = 0
            stream 0 1 10 = 4; stream 0 1 8 = 2; tape 4 30; take 0 8 1 0 1 = 0; read 0 1 9 = 4
            outs 0 = 0x170b0a14""");
        Run.of(sentence).calls("""
            join; tape 2; take 0 8 1 0 0 = 0; take 0 4 1 0 6 = 0; tape 4; take 0 8 1 2 0 = 0; stream 0 1 10 = 2
            tape 4; take 0 8 1 2 1 = 0; stream 0 1 10 = 2; stream 0 1 8 = 4; side 0 3 = 6""");
        Run.of(sentence).calls("""
            join; feed 3 0 = 3; take 0 8 1 0 0 = 0; stream 0 1 10 = 3; tape 3 50; take 0 8 1 0 1 = 0; stream 0 1 8 = 2
            read 0 1 3 = 3; outs 0 = 0""");
    }

    private static void streamStates() {
        String sentence = "and the state becomes 1, 2 or 3 if it is that then (as behind a read)";
        Run.of(sentence).calls("""
            join; tape 1; take 0 8 1 1 0 = 0; stream 0 1 8 = 0; tape 1; take 0 8 1 1 1 = 0; stream 0 1 8 = 1
            tape 1; take 0 8 1 0 0 = 0; stream 0 1 8 = 2; take 0 8 1 2 1 = 0; stream 0 1 8 = 2""");
        Run.of(sentence).calls("join; tape 2; take 0 8 1 0 1 = 0; stream 0 1 8 = 2; stream 0 1 12 = 2");
        Run.of(sentence).calls("join; take 0 8 1 0 1 = 0; stream 0 1 8 = 3; take 0 8 1 0 1 = 0; stream 0 1 8 = 3");
        Run.of(sentence).calls("""
            join; tape 2; take 0 8 1 0 0 = 0; read 0 1 1 = 1; take 0 8 1 2 1 = 0; stream 0 1 8 = 2; read 0 1 1 = 1
            stream 0 1 8 = 3; tape 2; take 0 8 1 0 1 = 0; stream 0 1 8 = 3; stream 0 1 9 = 2""");
        Run.of(sentence).calls("""
            join; tape 2; take 0 8 1 0 0 = 0; read 0 1 2 = 2; take 0 8 1 2 1 = 0; stream 0 1 8 = 3""");
        Run.of(sentence).calls("""
            join; tape 2; take 0 8 1 0 0 = 0; read 0 1 2 = 2; tape 1; take 0 8 1 2 1 = 0; stream 0 1 8 = 2""");
    }

    private static void resetErrors() {
        Run.of("SIZE, if it is known and c is another one").calls("""
            join; take 0 8 1 5 1 = 0; take 0 4 1 0 4 = 6; take 0 4 1 0 6 = 6; take 0 4 1 0 TOP = 6; stream 0 1 8 = 1
            take 0 4 1 0 5 = 0; take 0 4 1 0 4 = 6; take 0 4 1 0 6 = 6; take 0 4 1 0 5 = 0
            take 0 8 5 0 1 = 0; take 0 4 5 0 1 = 6; take 0 4 5 0 0 = 0""");
        Run.of("or if c is below HIGHEST").calls("""
            join; take 0 8 1 5 0 = 0; take 0 4 1 0 4 = 6; take 0 4 1 0 0 = 6; stream 0 1 8 = 0; take 0 4 1 0 5 = 0
            take 0 8 5 5 0 = 0; take 0 4 5 0 6 = 0""");
        Run.of("FLOW likewise with c for e").calls("""
            grant 0 6 10; join; take 0 4 1 0 11 = 3; take 0 4 1 0 TOP = 3; take 0 4 1 0 4294967296 = 3
            take 0 4 1 0 4294967306 = 3; take 0 4 1 0 2147483648 = 3; side 0 9 = 0; take 0 4 1 0 10 = 0""");
        Run.of("FLOW likewise with c for e").calls("""
            grant 0 4 10; join; take 0 8 1 4 0 = 0; take 0 4 1 0 11 = 3; take 0 8 5 3 0 = 0; take 0 4 1 0 8 = 3
            stream 0 1 8 = 0; take 0 4 1 0 7 = 0; side 0 2 = 10""");
        Run.of("FLOW likewise with c for e").calls("""
            grant 0 4 65536; grant 0 6 65536; join; take 0 4 1 0 65537 = 3; take 0 4 1 0 65536 = 0; side 0 2 = 65536
            take 0 4 5 0 1 = 3; take 0 4 5 0 0 = 0""");
    }

    private static void resetStates() {
        String sentence = "HIGHEST is c; in the states 0 and 1 it is RESET, SIZE is c.";
        Run.of(sentence).calls("""
            join; tape 3; take 0 8 1 0 0 = 0; take 0 4 1 TOP 8 = 0; gets 0 1 = 4 0 3 8 8 1024 TOP; side 0 2 = 8
            take 0 4 1 5 8 = 0; gets 0 1 = 4 0 3 8 8 1024 TOP""");
        Run.of(sentence).calls("join; take 0 8 1 8 1 = 0; take 0 4 1 6 8 = 0; gets 0 1 = 4 0 0 8 8 1024 6");
        Run.of(sentence).calls("""
            join; tape 2; take 0 8 1 0 1 = 0; take 0 4 1 6 2 = 0; gets 0 1 = 2 0 2 2 2 1024 0; side 0 3 = 0
            read 0 1 2 = 2
            gets 0 1 = 3 2 2 2 2 1024 0; take 0 4 1 6 2 = 0; gets 0 1 = 3 2 2 2 2 1024 0; side 0 3 = 2""");
        Run.of(sentence).calls("join; take 0 4 1 0 0 = 0; gets 0 1 = 4 0 0 0 0 1024 0; read 0 1 1 = -2");
    }

    private static void stop() {
        String sentence = "5 STOP (b code): in the states 0 and 1 it is RESET with that code.";
        Run.of(sentence).calls("""
            join; open 0 true = 0; take 0 5 0 TOP 0 = 0; sends 0 0 = 3 0 0 1024 TOP 0 0 0; fill 0 11 = 0
            frame 0 = 0 4 0 TOP 0 0 11; take 0 5 0 4 0 = 0; stream 0 0 4 = TOP; fill 0 99 = -1""");
        Run.of(sentence).calls("""
            join; open 0 true = 0; finish 0 0 = 1; take 0 5 0 7 0 = 0; stream 0 0 0 = 3; stream 0 0 4 = 7
            fill 0 9 = 0; deliver 0 = 0; gone 0 true; stream 0 0 0 = 4; take 0 5 0 8 0 = 0; stream 0 0 0 = 4
            stream 0 0 4 = 7
            fill 0 99 = -1""");
        Run.of(sentence).calls("""
            join; open 0 true = 0; finish 0 0 = 1; fill 0 9 = 0; deliver 0 = 0; gone 0 true; take 0 5 0 7 0 = 0
            stream 0 0 0 = 2; stream 0 0 4 = 0; fill 0 99 = -1""");
        Run.of(sentence).calls("""
            join; take 0 5 1 0 0 = 0; stream 0 1 0 = 3; stream 0 1 8 = 0; fill 0 9 = 0; frame 0 = 0 4 1 0 0 0 4""");
    }

    private static void maxStreamData() {
        Run.of("17 MAX STREAM DATA: LIMIT is at least b.").calls("""
            join; open 0 true = 0; take 0 17 0 0 0 = 0; stream 0 0 3 = 1024; take 0 17 0 1023 0 = 0
            stream 0 0 3 = 1024
            take 0 17 0 1025 0 = 0; stream 0 0 3 = 1025; take 0 17 0 1024 0 = 0; stream 0 0 3 = 1025
            take 0 17 0 4294967296 0 = 0; stream 0 0 3 = 4294967296; take 0 17 0 TOP 0 = 0; stream 0 0 3 = TOP
            tape 2; write 0 0 = 2; fill 0 99 = 0; line 0 5 = 2; stream 0 0 13 = 1024""");
    }

    private static void maxData() {
        Run.of("16 MAX DATA: the limit of all data is at least a.").calls("""
            join; take 0 16 0 0 0 = 0; side 0 1 = 4096; take 0 16 4095 0 0 = 0; side 0 1 = 4096
            take 0 16 4097 0 0 = 0; side 0 1 = 4097; take 0 16 4294967296 0 0 = 0; side 0 1 = 4294967296
            take 0 16 TOP 0 0 = 0; side 0 1 = TOP; take 0 16 5 0 0 = 0; side 0 1 = TOP; side 0 4 = 4096
            side 1 1 = 4096
            open 0 true = 0; tape 2; write 0 0 = 2; fill 0 99 = 0; line 0 5 = 2""");
    }

    private static void maxStreams() {
        String sentence = "18, 19 MAX STREAMS of BOTH, ONE way: that limit is at least a, but at most 64.";
        for (int way = 0; way < 2; way++) {
            String to = "take 0 " + (18 + way);
            String limit = "; side 0 " + (7 + way) + " = ";
            Run.of(sentence).calls("join; " + to + " 3 0 0 = 0" + limit + "4; " + to + " 5 0 0 = 0" + limit + "5")
                .calls(to + " 4 0 0 = 0" + limit + "5; " + to + " 63 0 0 = 0" + limit + "63")
                .calls(to + " 64 0 0 = 0" + limit + "64; " + to + " 65 0 0 = 0" + limit + "64")
                .calls("side 0 " + (8 - way) + " = 4; side 1 " + (7 + way) + " = 4; side 0 " + (11 + way) + " = 4");
            Run.of(sentence).calls("join; " + to + " 65 0 0 = 0" + limit + "64");
            Run.of(sentence).calls("join; " + to + " TOP 0 0 = 0" + limit + "64; " + to + " 0 0 0 = 0" + limit + "64");
            Run.of(sentence).calls("join; " + to + " " + WRAP + " 0 0 = 0" + limit + "64");
            Run.of(sentence).calls("join; " + to + " " + (WRAP + 9) + " 0 0 = 0" + limit + "64");
            Run.of(sentence).calls("join; " + to + " 2147483648 0 0 = 0" + limit + "64");
        }
    }

    private static void blocked() {
        String sentence = "20 .. 23, BLOCKED ones: nothing more.";
        Run.unchanged(sentence, BEGUN, """
            take 0 20 0 0 0 = 0; take 0 20 TOP TOP TOP = 0; take 0 22 0 0 0 = 0; take 0 22 TOP 1 1 = 0
            take 0 23 0 0 0 = 0; take 0 23 64 0 0 = 0; take 0 21 1 TOP TOP = 0; take 0 21 0 0 1 = 0
            take 0 21 9 30 0 = 0
            tape 5; take 0 20 1 0 0 = 0; tape 5; take 0 21 1 4 1 = 0""");
    }

    private static void dataGrantGrows() {
        String sentence = "When bytes are read, or a stream is reset";
        Run.of(sentence).calls("""
            grant 0 4 10; join; tape 8; take 0 8 1 0 0 = 0; side 0 4 = 10; fill 0 9 = -1; read 0 1 8 = 8
            side 0 4 = 18
            fill 0 9 = 0; frame 0 = 0 16 18 0 0 0 2; fill 0 9 = -1""");
        Run.of(sentence).calls("""
            grant 0 4 10; join; take 0 8 1 8 0 = 0; side 0 4 = 10; take 0 4 1 0 8 = 0; side 0 4 = 18
            fill 0 9 = 0; frame 0 = 0 16 18 0 0 0 2; fill 0 9 = -1""");
        Run.of(sentence).calls("""
            grant 0 4 10; join; tape 5; take 0 8 1 0 0 = 0; read 0 1 4 = 4; side 0 4 = 10; take 0 4 3 0 1 = 0
            side 0 3 = 5; side 0 4 = 15""");
        Run.of("it is to be told").calls("""
            grant 0 4 10; join; take 0 4 3 0 5 = 0; side 0 4 = 15; fill 0 2 = 0; frame 0 = 0 16 15 0 0 0 2
            deliver 0 = 0; side 1 1 = 15; gone 0 true; fill 0 2 = 0; line 0 1 = 19""");
    }

    private static void dataGrantHalf() {
        String sentence = "if twice of what CONSUMED + grant 4 is above the DATA GRANT is grant 4 or more";
        Run.of(sentence).calls("""
            grant 0 4 10; join; tape 8; take 0 8 1 0 0 = 0; read 0 1 4 = 4; side 0 4 = 10; fill 0 9 = -1
            read 0 1 1 = 1; side 0 4 = 15; read 0 1 3 = 3; side 0 4 = 15; tape 7; take 0 8 1 8 0 = 0
            read 0 1 1 = 1; side 0 4 = 15; read 0 1 1 = 1; side 0 4 = 20""");
        Run.of(sentence).calls("""
            grant 0 4 9; join; tape 8; take 0 8 1 0 0 = 0; read 0 1 4 = 4; side 0 4 = 9; read 0 1 1 = 1
            side 0 4 = 14""");
        Run.of(sentence).calls("""
            grant 0 4 1; join; tape 1; take 0 8 1 0 0 = 0; side 0 4 = 1; read 0 1 0 = 0; side 0 4 = 1
            read 0 1 1 = 1; side 0 4 = 2""");
        Run.of(sentence).calls("""
            grant 0 4 0; join; take 0 8 1 0 0 = 0; read 0 1 5 = 0; side 0 4 = 0; take 0 4 5 0 0 = 0; side 0 4 = 0
            fill 0 99 = -1""");
        Run.of(sentence).calls("""
            join; take 0 4 1 0 1023 = 0; take 0 4 5 0 1024 = 0; side 0 4 = 4096; take 0 4 9 0 1 = 0
            side 0 4 = 6144""");
    }

    private static void dataGrantMost() {
        String sentence = "the DATA GRANT becomes that sum, at most 65536, if this is more";
        Run.of(sentence).calls("""
            grant 0 4 43690; grant 0 6 65536; join; take 0 4 1 0 21845 = 0; side 0 4 = 65535
            take 0 4 5 0 21844 = 0; side 0 4 = 65535; take 0 4 9 0 1 = 0; side 0 4 = 65536
            fill 0 9 = 0; frame 0 = 0 16 65536 0 0 0 5; take 0 4 13 0 21846 = 0; side 0 4 = 65536; side 0 3 = 65536
            fill 0 9 = -1""");
        Run.of(sentence).calls("""
            grant 0 4 65535; grant 0 6 65536; join; take 0 4 1 0 32767 = 0; side 0 4 = 65535
            take 0 4 5 0 1 = 0; side 0 4 = 65536; fill 0 9 = 0; line 0 2 = 65536""");
        Run.of(sentence).calls("""
            grant 0 4 65536; grant 0 6 65536; join; take 0 4 1 0 65536 = 0; side 0 4 = 65536; side 0 3 = 65536
            fill 0 9 = -1""");
    }

    private static void grantGrows() {
        String sentence = "When bytes of a stream are read, and its state is 0: with its grant of 5 to 7 in place of 4, "
            + "READ in place of CONSUMED, likewise for GRANT.";
        String rows = """
            tape 8; take 0 8 ID 0 0 = 0; read 0 ID 4 = 4; stream 0 ID 13 = 10; fill 0 9 = -1; read 0 ID 1 = 1
            stream 0 ID 13 = 15; fill 0 9 = 0; frame 0 = 0 17 ID 15 0 0 3; fill 0 9 = -1; read 0 ID 3 = 3
            stream 0 ID 13 = 15
            tape 2; take 0 8 ID 8 0 = 0; read 0 ID 1 = 1; stream 0 ID 13 = 15; read 0 ID 1 = 1
            stream 0 ID 13 = 20""";
        Run.of(sentence).calls("grant 0 5 10; join; open 0 true = 0").calls(rows.replace("ID", "0"));
        Run.of(sentence).calls("grant 0 6 10; join").calls(rows.replace("ID", "1"));
        Run.of(sentence).calls("grant 0 7 10; join").calls(rows.replace("ID", "3"));
        Run.of(sentence).calls("""
            grant 0 6 9; join; tape 8; take 0 8 1 0 0 = 0; read 0 1 4 = 4; stream 0 1 13 = 9; read 0 1 1 = 1
            stream 0 1 13 = 14
            """);
        Run.of(sentence).calls("""
            grant 0 6 9; join; tape 8; take 0 8 1 0 0 = 0; take 0 8 1 9 1 = 0; read 0 1 8 = 8; stream 0 1 13 = 9
            tape 1; take 0 8 1 8 0 = 0; read 0 1 8 = 1; stream 0 1 8 = 3; stream 0 1 13 = 9; fill 0 9 = -1""");
        Run.of(sentence).calls("""
            grant 0 6 9; join; tape 8; take 0 8 1 0 0 = 0; tape 8; take 0 8 5 0 0 = 0; read 0 1 8 = 8
            stream 0 5 13 = 9
            stream 0 1 13 = 17; take 0 4 5 0 9 = 0; stream 0 5 13 = 9; stream 0 1 13 = 17""");
        Run.of(sentence).calls("""
            grant 0 6 0; join; take 0 8 1 0 0 = 0; read 0 1 5 = 0; stream 0 1 13 = 0; fill 0 9 = -1""");
    }

    /** So many bytes can't be fed by 512 calls. */
    private static void grantMost() {
        String sentence = "likewise for GRANT.";
        Run run = Run.of(sentence).beyond512().calls("grant 0 4 65536; grant 0 6 43690; join");
        int at = 0;
        while (at < 20480) {
            run.calls("tape 2048; take 0 8 1 " + at + " 0 = 0; read 0 1 2048 = 2048; stream 0 1 13 = 43690");
            at += 2048;
        }
        run.calls("tape 1364; take 0 8 1 20480 0 = 0; read 0 1 2048 = 1364; stream 0 1 13 = 43690; tape 1")
            .calls("""
                take 0 8 1 21844 0 = 0; read 0 1 1 = 1; stream 0 1 13 = 65535; fill 0 99 = 0
                frame 0 = 0 17 1 65535 0 0 6""");
        at = 21845;
        while (at < 42325) {
            run.calls("tape 2048; take 0 8 1 " + at + " 0 = 0; read 0 1 2048 = 2048");
            at += 2048;
        }
        run.calls("""
            stream 0 1 13 = 65535; tape 1365; take 0 8 1 42325 0 = 0; read 0 1 1364 = 1364
            stream 0 1 13 = 65535""")
            .calls("read 0 1 1 = 1; stream 0 1 9 = 43690; stream 0 1 13 = 65536");
    }

    private static final String OVER = "A stream that the other side opened is OVER when its receiving part "
        + "(if there is one here) is in the state 3 or 4 and its sending part (if there is one) in 2 or 4";

    private static void over() {
        String finishSending = "; finish 0 1 = 1; fill 0 9 = 0; deliver 0 = 0; gone 0 true; stream 0 1 0 = 2";
        String resetSending = "; reset 0 1 7 = 1; fill 0 9 = 0; deliver 0 = 0; gone 0 true; stream 0 1 0 = 4";
        String[] sends = {finishSending, resetSending};
        String[] gets = {"; take 0 8 1 0 1 = 0; stream 0 1 8 = 3", "; take 0 4 1 0 0 = 0; stream 0 1 8 = 4"};
        for (String send : sends) {
            for (String get : gets) {
                Run.of(OVER).calls("join; open 1 true = 1; take 0 21 1 0 0 = 0" + send + "; side 0 11 = 4" + get)
                    .calls("side 0 11 = 5; side 0 12 = 4; side 1 11 = 4; fill 0 9 = 0; frame 0 = 0 18 5 0 0 0 2");
                Run.of(OVER).calls("join; open 1 true = 1" + get + "; side 0 11 = 4" + send + "; side 0 11 = 5");
            }
        }
        Run.of(OVER).calls("""
            join; tape 2; take 0 8 3 0 1 = 0; stream 0 3 8 = 2; side 0 12 = 4; read 0 3 1 = 1; side 0 12 = 4
            read 0 3 1 = 1; side 0 12 = 5; side 0 11 = 4; fill 0 9 = 0; frame 0 = 0 19 5 0 0 0 2""");
        Run.of(OVER).calls("""
            join; take 0 4 3 0 9 = 0; side 0 12 = 5; take 0 8 7 9 1 = 0; side 0 12 = 5; stream 0 7 8 = 1""");
        Run.of(OVER).calls("""
            join; open 1 true = 1; take 0 8 1 0 1 = 0; finish 0 1 = 1; side 0 11 = 4; fill 0 9 = 0; deliver 0 = 0
            side 0 11 = 4; reset 0 1 5 = 1; side 0 11 = 4; gone 0 true; stream 0 1 0 = 3; side 0 11 = 4
            fill 0 9 = 0; line 0 1 = 4; deliver 0 = 0; side 0 11 = 4; gone 0 true; side 0 11 = 5""");
        Run.of(OVER).calls("""
            join; open 0 false = 2; finish 0 2 = 1; fill 0 9 = 0; deliver 0 = 0; gone 0 true; stream 0 2 0 = 2
            side 0 12 = 4; side 1 12 = 5; open 0 true = 0; reset 0 0 1 = 1; fill 0 9 = 0; deliver 0 = 0; gone 0 true
            take 0 4 0 0 0 = 0; stream 0 0 8 = 4; stream 0 0 0 = 4; side 0 11 = 4""");
    }

    private static void overOnce() {
        String sentence = "then the number of such streams granted grows by 1, at most to 64, and is to be told if it grew";
        Run.of(sentence).calls("""
            join; take 0 8 3 0 1 = 0; side 0 12 = 5; take 0 8 3 0 1 = 0; take 0 4 3 0 0 = 0; read 0 3 5 = 0
            side 0 12 = 5
            take 0 8 7 0 1 = 0; side 0 12 = 6; fill 0 9 = 0; frame 0 = 0 19 6 0 0 0 2; fill 0 9 = -1""");
        Run.of(sentence).calls("""
            grant 0 9 63; join; take 0 8 3 0 1 = 0; side 0 12 = 64; fill 0 9 = 0; frame 0 = 0 19 64 0 0 0 3
            take 0 8 7 0 1 = 0; side 0 12 = 64; fill 0 9 = -1; take 0 8 255 0 1 = 0; side 0 12 = 64
            fill 0 9 = -1""");
        Run.of(sentence).calls("grant 0 9 64; join; take 0 4 3 0 0 = 0; side 0 12 = 64; fill 0 9 = -1");
        Run.of(sentence).calls("""
            grant 0 8 64; join; open 1 true = 1; take 0 4 1 0 0 = 0; reset 0 1 0 = 1; fill 0 9 = 0; deliver 0 = 0
            gone 0 true
            stream 0 1 0 = 4; side 0 11 = 64; fill 0 9 = -1""");
        Run.of(sentence).calls("""
            grant 0 9 1; join; take 0 4 3 0 0 = 0; side 0 12 = 2; take 0 4 7 0 0 = 0; side 0 12 = 3""");
    }
}
