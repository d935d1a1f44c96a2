/** The sentences of the promises 1 to 19, each by itself: its bounds from both sides, and what it refuses. */
public final class EdgesTest {
    public static void main(String[] args) {
        aNewObject();
        grant();
        grantJoined();
        join();
        feed();
        feedFull();
        open();
        openRefused();
        write();
        writeNowhere();
        finish();
        reset();
        stop();
        stopTwice();
        read();
        readNothing();
        fill();
        fillPlaces();
        deliver();
        gone();
        take();
        takeTape();
        line();
        data();
        outs();
        stream();
        side();
        Run.end("EdgesTest");
    }

    private static void aNewObject() {
        String sentence = "Two sides that are not joined, without streams; tape, out and line empty.";
        Run run = Run.of(sentence).calls("outs 0 throws element; feed 1 7 = 1");
        for (int place = 0; place < 64; place++) {
            run.calls("line " + place + " 0 throws element; data " + place + " 0 throws element")
                .calls("deliver " + place + " throws element; gone " + place + " false throws element");
        }
        run.calls("""
            open 0 true throws state; open 1 false throws state; fill 0 1 throws state
            take 1 16 0 0 0 throws state""")
            .calls("""
                side 0 5 = 0; side 0 6 = 0; side 0 9 = 0; side 0 10 = 0; side 1 5 = 0; side 1 6 = 0
                side 1 9 = 0; side 1 10 = 0""")
            .calls("""
                side 0 0 = 0; side 0 2 = 0; side 0 3 = 0; side 0 13 = 0; side 1 0 = 0; side 1 2 = 0
                side 1 3 = 0; side 1 13 = 0""");
        Run ids = Run.of(sentence);
        for (int id = 0; id < 256; id++) {
            ids.calls("stream 0 " + id + " 0 = -1; stream 1 " + id + " 8 = -1");
        }
        Run.of(sentence).calls("""
            join; outs 0 throws element; fill 0 99 = -1; fill 1 99 = -1; line 0 0 throws element; feed 8 0 = 8""");
    }

    private static void grant() {
        Run.of("Grant id of a side.").calls("""
            grant 1 4 7; grant 1 5 8; grant 1 6 9; grant 1 7 10; grant 1 8 11; grant 1 9 12; grant 1 4 6; join
            side 0 1 = 6; side 1 4 = 6; side 0 7 = 11; side 0 8 = 12; side 1 11 = 11; side 1 12 = 12; side 1 1 = 4096
            side 1 7 = 4; open 0 true = 0; stream 0 0 3 = 9; take 0 5 1 0 0 = 0; stream 0 1 3 = 8; open 0 false = 2
            stream 0 2 3 = 10; open 1 false = 3; stream 1 3 3 = 1024""");
        Run.of("Grant id of a side.").calls("""
            side 1 4 = 4096; side 1 11 = 4; side 1 12 = 4; grant 1 4 7; grant 1 8 11; grant 1 9 12; side 1 4 = 7
            side 1 11 = 11; side 1 12 = 12; side 0 4 = 4096; side 0 11 = 4; side 0 12 = 4""");
        String wrong = "Throws IllegalArgumentException when there is no such side, id is not 4 .. 9, "
            + "or v not 0 .. 65536 (8, 9: 0 .. 64)";
        Run.of(wrong).calls("""
            grant -1 4 0 throws argument; grant 2 4 0 throws argument; grant int.min 4 0 throws argument
            grant 0 3 0 throws argument; grant 0 10 0 throws argument; grant 0 -4 0 throws argument
            grant 0 0 0 throws argument
            grant 0 int.max 0 throws argument; grant 0 int.min 0 throws argument""");
        for (int id = 4; id <= 9; id++) {
            int top = id < 8 ? 65536 : 64;
            for (int s = 0; s < 2; s++) {
                String to = "grant " + s + " " + id + " ";
                Run.of(wrong).calls(to + "-1 throws argument; " + to + (top + 1) + " throws argument")
                    .calls(to + "int.min throws argument; " + to + "int.max throws argument; " + to + "0; " + to + top);
            }
        }
        Run.of(wrong).calls("""
            grant 0 4 65536; grant 0 6 65536; grant 0 8 64; grant 0 9 64; join; side 1 1 = 65536; side 0 4 = 65536
            side 1 7 = 64; side 1 8 = 64; side 0 11 = 64; side 0 12 = 64; open 1 true = 1; stream 1 1 3 = 65536""");
        Run.of(wrong).calls("""
            grant 0 4 0; grant 0 6 0; grant 0 8 0; grant 0 9 0; join; side 1 1 = 0; side 0 4 = 0; side 1 7 = 0
            side 0 12 = 0
            open 1 true = -1; open 1 false = -1""");
    }

    private static void grantJoined() {
        Run.of("IllegalStateException when the sides are joined.").calls("""
            grant 0 4 5; join; grant 0 4 6 throws state; grant 0 4 5 throws state; grant 1 9 1 throws state
            side 0 4 = 5; side 1 1 = 5; side 0 8 = 4; side 1 12 = 4""");
    }

    private static void join() {
        Run.of("The sides are joined: each one's grants are the other one's limits.").calls("""
            grant 0 4 50; grant 1 4 60; grant 0 8 1; grant 1 8 2; grant 0 9 3; grant 1 9 0; join
            side 0 1 = 60; side 1 1 = 50; side 0 7 = 2; side 1 7 = 1; side 0 8 = 0; side 1 8 = 3
            side 0 4 = 50; side 1 4 = 60; open 0 true = 0; open 1 true = 1; fill 0 9 = -1; take 0 16 0 0 0 = 0""");
        Run.of("Throws IllegalStateException when they are.").calls("""
            join; join throws state; join throws state; take 0 16 5000 0 0 = 0; join throws state
            side 0 1 = 5000""");
    }

    private static void feed() {
        String sentence = "The n lowest bytes of v, lowest first, come behind the tape: how many it has.";
        for (int n = 1; n <= 8; n++) {
            Run run = Run.of(sentence).calls("join; open 0 true = 0; feed 1 0x1ff = 1; feed " + n + " 0x8877665544332211 = " + (n + 1))
                .calls("feed 1 -1 = " + (n + 2) + "; write 0 0 = " + (n + 2) + "; fill 0 99 = 0; data 0 0 = 255");
            for (int k = 0; k < n; k++) {
                run.calls("data 0 " + (k + 1) + " = " + 17 * (k + 1));
            }
            run.calls("data 0 " + (n + 1) + " = 255; data 0 " + (n + 2) + " throws element");
        }
        Run.of(sentence).calls("""
            feed 8 long.min = 8; feed 8 long.max = 16; feed 3 -1 = 19; feed 1 256 = 20; join; feed 2 0 = 22""");
        Run.of("Throws IllegalArgumentException when n is not 1 .. 8").calls("""
            feed 0 0 throws argument; feed 9 0 throws argument; feed -1 0 throws argument
            feed int.min 0 throws argument
            feed int.max 0 throws argument; feed 1 0 = 1; feed 8 0 = 9""");
    }

    private static void feedFull() {
        String sentence = "IllegalStateException when it would have more than 2048.";
        for (int n = 1; n <= 8; n++) {
            Run.of(sentence).calls("tape 2040; feed " + n + " 0 = " + (2040 + n) + (n == 8 ? "" : "; feed " + (9 - n) + " 0 throws state"))
                .calls("feed 8 0 throws state" + (n == 8 ? "; feed 1 0 throws state" : "; feed " + (8 - n) + " 0 = 2048"))
                .calls("feed 1 0 throws state; write 0 0 = -1; feed 8 0 = 8");
        }
        Run.of(sentence).calls("tape 2048; join; open 0 true = 0; write 0 0 = 2048; feed 1 0 = 1; side 0 13 = 2048");
    }

    private static void open() {
        Run.of("A side opens a stream of BOTH ways, or ONE: its id").calls("""
            join; open 1 true = 1; open 1 true = 5; open 1 false = 3; open 0 false = 2; open 0 true = 0
            open 1 true = 9
            side 1 5 = 3; side 1 6 = 1; side 0 5 = 1; side 0 6 = 1""");
        Run.of("Throws IllegalArgumentException when there is no such side; IllegalStateException before the sides are joined.").calls("""
            open -1 true throws argument; open 2 false throws argument; open 0 true throws state
            open 1 false throws state
            join; open -1 true throws argument; open 2 false throws argument; open 0 true = 0; open 1 false = 3""");
    }

    private static void openRefused() {
        String sentence = "-1 when the limit does not allow it (that is to be told)";
        Run.of(sentence).calls("""
            join; open 0 true = 0; open 0 true = 4; open 0 true = 8; open 0 true = 12; fill 0 9 = -1; open 0 true = -1
            side 0 5 = 4; stream 0 16 0 = -1; open 0 false = 2; fill 0 9 = 0; frame 0 = 0 22 4 0 0 0 2; fill 1 9 = -1
            take 0 18 5 0 0 = 0; open 0 true = 16; open 0 true = -1; fill 0 9 = 1; frame 1 = 0 22 5 0 0 0 2""");
        Run.of(sentence).calls("""
            grant 0 9 1; join; open 1 false = 3; open 1 false = -1; open 1 false = -1; fill 1 9 = 0
            frame 0 = 1 23 1 0 0 0 2
            fill 1 9 = -1; side 1 6 = 1""");
    }

    private static void write() {
        String sentence = "Writes the tape, which is used up, into a stream: how many bytes were taken "
            + "(as many as there is room for among the 65536)";
        Run.of(sentence).calls("""
            join; open 0 true = 0; write 0 0 = 0; tape 5; write 0 0 = 5; feed 1 0 = 1; write 0 0 = 1; write 0 0 = 0
            stream 0 0 1 = 6; side 0 13 = 6; side 1 13 = 0; side 0 0 = 0""");
        Run.of(sentence).calls("""
            join; open 0 true = 0; tape 3 65; write 0 0 = 3; fill 0 99 = 0; tape 3 97; write 0 0 = 3; fill 0 99 = 1
            bytes 0 = 65 66 67; bytes 1 = 97 98 99; frame 1 = 0 8 0 3 0 3; gone 1 false; gone 0 false; fill 0 99 = 0
            bytes 0 = 65 66 67 97 98 99""");
        Run.of(sentence).calls("tape 2048; join; open 0 true = 0; write 0 0 = 2048; feed 1 0 = 1; stream 0 0 1 = 2048");
    }

    private static void writeNowhere() {
        String sentence = "-1 when it has no sending part in the state 0.";
        Run.of(sentence).calls("""
            write 0 0 = -1; join; write 0 0 = -1; write 0 2 = -1; open 0 false = 2; take 1 21 2 0 0 = 0; tape 3
            write 1 2 = -1
            side 1 13 = 0; tape 1; write 0 2 = 1; stream 0 2 1 = 1""");
        Run.of(sentence).calls("""
            join; open 0 true = 0; finish 0 0 = 1; tape 3; write 0 0 = -1; stream 0 0 1 = 0; side 0 13 = 0
            fill 0 9 = 0; deliver 0 = 0; gone 0 true; stream 0 0 0 = 2; tape 3; write 0 0 = -1; side 0 13 = 0""");
        Run.of(sentence).calls("""
            join; open 0 true = 0; reset 0 0 1 = 1; tape 3; write 0 0 = -1; fill 0 9 = 0; deliver 0 = 0; gone 0 true
            stream 0 0 0 = 4; tape 3; write 0 0 = -1; side 0 13 = 0; stream 0 0 1 = 0""");
        Run.of("Throws IllegalArgumentException when there is no such side.").calls("""
            tape 3; write -1 0 throws argument; write 2 0 throws argument; feed 1 0 = 4; finish -1 0 throws argument
            finish 2 0 throws argument""");
    }

    private static void finish() {
        String sentence = "A sending part in the state 0 is finished: true; false when there is none.";
        Run.of(sentence).calls("""
            finish 0 0 = 0; join; finish 0 0 = 0; finish 1 0 = 0; open 0 true = 0; finish 0 0 = 1; stream 0 0 0 = 1
            finish 0 0 = 0
            finish 1 0 = 0; fill 0 9 = 0; deliver 0 = 0; finish 1 0 = 1; gone 0 true; stream 0 0 0 = 2; finish 0 0 = 0
            stream 0 0 0 = 2; stream 1 0 0 = 1""");
        Run.of(sentence).calls("""
            join; open 0 false = 2; reset 0 2 1 = 1; finish 0 2 = 0; stream 0 2 7 = 0; fill 0 9 = 0; deliver 0 = 0
            gone 0 true
            finish 0 2 = 0; stream 0 2 0 = 4; finish 1 2 = 0; finish 0 -1 = 0; finish 0 256 = 0""");
    }

    private static void reset() {
        String sentence = "A sending part in the states 0, 1 is reset with a code, to be sent: true; false when there is none.";
        Run.of(sentence).calls("""
            reset 0 0 1 = 0; join; reset 0 0 1 = 0; open 0 true = 0; reset 0 0 0 = 1; sends 0 0 = 3 0 0 1024 0 0 0 0
            reset 0 0 2 = 0
            stream 0 0 4 = 0; fill 0 9 = 0; frame 0 = 0 4 0 0 0 0 4; deliver 0 = 0; reset 1 0 6 = 1; gone 0 true
            stream 0 0 0 = 4
            reset 0 0 2 = 0; stream 0 0 0 = 4; fill 0 9 = -1""");
        Run.of(sentence).calls("""
            join; open 0 false = 2; finish 0 2 = 1; reset 0 2 TOP = 1; stream 0 2 4 = TOP; stream 0 2 0 = 3
            fill 0 11 = 0
            frame 0 = 0 4 2 TOP 0 0 11; reset 1 2 0 = 0""");
        Run.of(sentence).calls("""
            join; open 0 false = 2; finish 0 2 = 1; fill 0 9 = 0; deliver 0 = 0; gone 0 true; reset 0 2 1 = 0
            stream 0 2 0 = 2
            stream 0 2 4 = 0; fill 0 9 = -1""");
        String wrong = "Throws IllegalArgumentException when there is no such side, or code is not 0 .. 4611686018427387903.";
        Run.of(wrong).calls("""
            join; open 0 true = 0; reset -1 0 0 throws argument; reset 2 0 0 throws argument
            reset 0 0 -1 throws argument
            reset 0 0 TOP+1 throws argument; reset 0 0 long.min throws argument; reset 0 0 long.max throws argument
            reset 0 4 -1 throws argument; reset 0 999 TOP+1 throws argument; stream 0 0 0 = 0; reset 0 0 TOP = 1""");
    }

    private static void stop() {
        String sentence = "A STOP with a code is to be sent for a receiving part in the states 0, 1: true";
        Run.of(sentence).calls("""
            join; open 0 true = 0; stop 0 0 0 = 1; fill 0 3 = 0; frame 0 = 0 5 0 0 0 0 3; stream 0 0 0 = 0
            stream 0 0 8 = 0
            take 0 8 1 4 1 = 0; stop 0 1 TOP = 1; fill 0 10 = 1; frame 1 = 0 5 1 TOP 0 0 10; stream 0 1 14 = 0
            fill 0 99 = -1""");
        Run.of("Throws as reset does.").calls("""
            join; take 0 21 1 0 0 = 0; stop -1 1 0 throws argument; stop 2 1 0 throws argument
            stop 0 1 -1 throws argument
            stop 0 1 TOP+1 throws argument; stop 0 1 long.min throws argument; stop 0 1 long.max throws argument
            stop 0 5 -1 throws argument; stop 0 999 TOP+1 throws argument; fill 0 99 = -1; stop 0 1 TOP = 1""");
    }

    private static void stopTwice() {
        String sentence = "false when there is none, or for the second time.";
        Run.of(sentence).calls("""
            stop 0 1 0 = 0; join; stop 0 1 0 = 0; open 0 false = 2; stop 0 2 0 = 0; fill 0 9 = -1
            take 0 21 1 0 0 = 0; stop 0 1 3 = 1
            stop 0 1 3 = 0; stop 0 1 4 = 0; fill 0 9 = 0; frame 0 = 0 5 1 3; stop 0 1 3 = 0; gone 0 false
            stop 0 1 5 = 0
            fill 0 9 = 0; frame 0 = 0 5 1 3; open 1 true = 1; deliver 0 = 0; gone 0 true; stop 0 1 3 = 0
            fill 0 9 = -1""");
        Run.of(sentence).calls("""
            join; tape 2; take 0 8 1 0 1 = 0; stop 0 1 0 = 0; read 0 1 2 = 2; stop 0 1 0 = 0; take 0 4 5 0 0 = 0
            stop 0 5 0 = 0
            fill 0 9 = -1""");
    }

    private static void read() {
        String sentence = "Hands out bytes of a receiving part that are READY and not READ, at most so many, as the OUT: how many";
        Run.of(sentence).calls("""
            join; tape 9 65; take 0 8 1 0 0 = 0; tape 3 97; take 0 8 1 10 0 = 0; read 0 1 0 = 0; outs 0 throws element
            read 0 1 1 = 1; outs 0 = 65; outs 1 throws element; read 0 1 7 = 7; outs 0 = 0x48474645444342
            outs 7 throws element
            read 0 1 2048 = 1; outs 0 = 73; read 0 1 2048 = 0; outs 0 throws element; feed 1 48 = 1
            take 0 8 1 9 0 = 0
            read 0 1 3 = 3; outs 0 = 0x626130; read 0 1 3 = 1; outs 0 = 99""");
        Run big = Run.of(sentence).calls("""
            grant 0 6 4096; join; tape 1500; take 0 8 1 0 0 = 0; tape 1500; take 0 8 1 1500 0 = 0""");
        big.calls("read 0 1 2048 = 2048; outs 2047 = 36; outs 2048 throws element; outs 2040 = 0x24232221201f1e1d")
            .calls("read 0 1 2048 = 952; outs 951 = 220; outs 952 throws element; stream 0 1 9 = 3000");
        Run.of("Throws IllegalArgumentException when there is no such side, or most is not 0 .. 2048.").calls("""
            join; tape 3; take 0 8 1 0 0 = 0; read -1 1 1 throws argument; read 2 1 1 throws argument
            read 0 1 -1 throws argument
            read 0 1 2049 throws argument; read 0 1 int.max throws argument; read 0 1 int.min throws argument
            read 0 77 -1 throws argument; read 0 999 2049 throws argument; stream 0 1 9 = 0; read 0 1 0 = 0
            read 0 1 2048 = 3""");
    }

    private static void readNothing() {
        String sentence = "-1 without a receiving part, -2 when it is RESET (the OUT is empty then).";
        Run.of(sentence).calls("""
            read 0 1 5 = -1; join; tape 4; take 0 8 1 0 0 = 0; read 0 1 2 = 2; outs 0 = 0x0201; read 0 5 5 = -1
            outs 0 throws element
            open 0 false = 2; read 0 2 0 = -1; read 1 1 5 = -1; read 0 1 1 = 1; take 0 4 1 7 4 = 0; outs 0 = 3
            read 0 1 5 = -2; outs 0 throws element; read 0 1 0 = -2; stream 0 1 9 = 3""");
        Run.of(sentence).calls("""
            join; tape 4; take 0 8 1 0 1 = 0; take 0 4 1 7 4 = 0; read 0 1 4 = 4; read 0 1 4 = 0
            outs 0 throws element""");
    }

    private static void fill() {
        Run.of("Fills the next frame of a side of at most room bytes").calls("""
            join; open 0 true = 0; open 1 false = 3; tape 9; write 0 0 = 9; tape 9; write 1 3 = 9
            fill 0 1 = -1; fill 1 3 = -1; fill 1 4 = 0; frame 0 = 1 8 3 0 0 1 4; fill 0 12 = 1
            frame 1 = 0 8 0 0 0 9 12""");
        Run.of("-1 when there is no frame.").calls("""
            join; fill 0 1 = -1; fill 0 1200 = -1; fill 1 1200 = -1; open 0 true = 0; fill 0 1200 = -1
            write 0 0 = 0; fill 0 1200 = -1
            line 0 0 throws element""");
        Run.of("Throws IllegalArgumentException when there is no such side, or room is not 1 .. 1200").calls("""
            join; fill -1 9 throws argument; fill 2 9 throws argument; fill 0 0 throws argument
            fill 0 1201 throws argument
            fill 0 -1 throws argument; fill 0 int.max throws argument; fill 0 int.min throws argument; fill 0 1 = -1
            open 0 true = 0; tape 1024; write 0 0 = 1024; fill 0 1200 = 0; frame 0 = 0 8 0 0 0 1024 1028""");
        Run.of("IllegalStateException when the line is full, or before the sides are joined.").calls("""
            fill 0 1 throws state; fill 1 1200 throws state; join; fill 0 1 = -1""");
    }

    private static void fillPlaces() {
        StringBuilder rows = new StringBuilder("join; open 0 false = 2; tape 70; write 0 2 = 70; fill 0 4 = 0");
        for (int place = 1; place < 64; place++) {
            rows.append("; fill 0 5 = ").append(place);
        }
        String full = rows.toString();
        String sentence = "lays it on the line, which has places 0 .. 63, at the least free one: that place";
        Run.of(sentence).calls(full).calls("""
            line 63 3 = 63; line 64 0 throws element; gone 63 false; gone 5 false; gone 0 false; gone 31 false
            fill 0 4 = 0; frame 0 = 0 8 2 0 0 1 4; fill 0 9 = 5; fill 0 9 = 31; fill 0 9 = 63
            fill 0 9 throws state""");
        Run.of("IllegalStateException when the line is full, or before the sides are joined.").calls(full).calls("""
            fill 0 9 throws state; fill 1 9 throws state; deliver 63 = 0; fill 0 9 throws state; gone 63 true
            fill 1 9 = -1
            fill 0 9 = 63; fill 0 9 throws state""");
    }

    private static void deliver() {
        Run.of("The frame at a place is taken by the other side (it stays on the line): the answer.").calls("""
            join; open 0 true = 0; tape 3; write 0 0 = 3; tape 2; fill 0 99 = 0; stream 1 0 10 = -1; deliver 0 = 0
            gets 1 0 = 0 0 3 3 -1 1024 0
            gets 0 0 = 0 0 0 0 -1 1024 0; frame 0 = 0 8 0 0 0 3 6; deliver 0 = 0; gets 1 0 = 0 0 3 3 -1 1024 0
            side 1 2 = 3
            bytes 0 = 1 2 3; feed 1 0 = 3; stream 0 0 6 = 0""");
        Run.of("The frame at a place is taken by the other side (it stays on the line): the answer.").calls("""
            grant 1 4 2; grant 1 8 1; join; take 0 18 2 0 0 = 0; take 0 16 9 0 0 = 0; open 0 true = 0
            open 0 true = 4; finish 0 4 = 1
            fill 0 9 = 0; deliver 0 = 4; line 0 1 = 8; tape 3; write 0 0 = 3; fill 0 9 = 1; deliver 1 = 3
            side 1 9 = 0; deliver 1 = 3
            gone 1 true throws state; reset 0 0 1 = 1; fill 0 9 = 2; deliver 2 = 3; deliver 0 = 4""");
        Run.of("The frame at a place is taken by the other side (it stays on the line): the answer.").calls("""
            join; take 0 21 1 0 0 = 0; reset 0 1 1 = 1; fill 0 9 = 0; deliver 0 = 5; open 1 true = 1; deliver 0 = 0
            deliver 0 = 0
            open 0 false = 2; tape 2; write 0 2 = 2; fill 0 9 = 1; take 1 8 2 1 1 = 0; deliver 1 = 6
            take 1 8 6 1 1 = 0""");
        Run.of("Throws NoSuchElementException when there is none.").calls("""
            deliver 0 throws element; join; deliver 0 throws element; deliver -1 throws element
            deliver 64 throws element
            deliver 63 throws element; deliver int.min throws element; deliver int.max throws element; open 0 true = 0
            finish 0 0 = 1; fill 0 9 = 0; deliver 0 = 0; deliver 1 throws element; gone 0 true
            deliver 0 throws element""");
    }

    private static void gone() {
        Run.of("The sender is told what became of the frame at a place: arrived or lost; the place is free.").calls("""
            join; open 1 true = 1; tape 4; write 1 1 = 4; fill 1 5 = 0; fill 1 9 = 1; deliver 0 = 0; gone 0 true
            line 0 0 throws element; data 0 0 throws element; sends 1 1 = 0 4 4 1024 0 0 2 0; gone 1 false
            line 1 0 throws element; sends 1 1 = 0 4 4 1024 0 2 2 0; fill 1 9 = 0""");
        Run.of("Throws NoSuchElementException when there is none; IllegalStateException when it is said to have arrived, "
            + "but was never delivered without an error.").calls("""
            gone 0 false throws element; join; gone 0 true throws element; gone -1 false throws element
            gone 64 false throws element
            gone 63 false throws element; gone int.min true throws element; gone int.max false throws element
            grant 0 4 1 throws state; take 0 16 9000 0 0 = 0; take 0 17 0 9000 0 = 5; open 0 true = 0
            take 0 17 0 9000 0 = 0
            tape 1025; write 0 0 = 1025; fill 0 1200 = 0; line 0 5 = 1025; gone 0 true throws state; deliver 0 = 3
            gone 0 true throws state; line 0 5 = 1025; gone 0 false; stream 0 0 5 = 1025""");
        Run.of("but was never delivered without an error.").calls("""
            grant 1 7 4; join; take 0 17 2 9 0 = 5; open 0 false = 2; take 0 17 2 9 0 = 0; tape 5; write 0 2 = 5
            fill 0 9 = 0
            deliver 0 = 3; gone 0 true throws state; tape 4; take 1 8 2 0 0 = 0; read 1 2 2 = 2; deliver 0 = 0
            gone 0 true
            stream 0 2 6 = 5; tape 1; write 0 2 = 1; fill 0 9 = 0; gone 0 true throws state""");
        Run.of("but was never delivered without an error.").calls("""
            join; open 0 false = 2; tape 2; write 0 2 = 2; fill 0 9 = 0; deliver 0 = 0; take 1 8 2 3 0
            take 1 4 2 0 3 = 0
            tape 1; write 0 2 = 1; tape 1; write 0 2 = 1; fill 0 9 = 1; line 1 5 = 2; deliver 1 = 6
            gone 1 true throws state
            deliver 0 = 0; gone 0 true; gone 1 false; stream 0 2 6 = 2; stream 0 2 5 = 2""");
    }

    private static void take() {
        String kinds = "kind is not 4, 5, 8 or 16 .. 23";
        for (int kind = -1; kind <= 25; kind++) {
            boolean known = kind == 4 || kind == 5 || kind == 8 || kind >= 16 && kind <= 23;
            Run.of(kinds).calls("join; open 0 true = 0; take 0 " + kind + " 0 0 0 " + (known ? "= 0" : "throws argument"));
        }
        Run.of(kinds).calls("""
            join; take 0 int.min 0 0 0 throws argument; take 0 int.max 0 0 0 throws argument
            take 0 264 0 0 0 throws argument""");
        Run.of("Throws IllegalArgumentException when there is no such side").calls("""
            join; take -1 16 0 0 0 throws argument; take 2 16 0 0 0 throws argument; take 1 16 0 0 0 = 0""");
        Run.of("or a field is not 0 .. 4611686018427387903").calls("""
            join; take 0 20 -1 0 0 throws argument; take 0 20 TOP+1 0 0 throws argument
            take 0 20 0 -1 0 throws argument
            take 0 20 0 TOP+1 0 throws argument; take 0 20 0 0 -1 throws argument; take 0 20 0 0 TOP+1 throws argument
            take 0 20 TOP TOP TOP = 0; take 0 20 0 0 0 = 0; take 0 8 1 -1 0 throws argument
            take 0 4 1 0 -1 throws argument""");
        Run.of("(c 0 or 1 for kind 8, b at most 4611686018427380000)").calls("""
            join; take 0 8 1 0 2 throws argument; take 0 8 1 0 TOP throws argument
            take 0 8 1 4611686018427380001 0 throws argument
            take 0 8 1 TOP 0 throws argument; take 0 8 1 4611686018427380000 0 = 3; take 0 8 1 0 0 = 0
            take 0 8 1 0 1 = 0
            take 0 4 5 4611686018427380001 2 = 0; take 0 5 5 TOP 2 = 0; take 0 16 0 TOP TOP = 0
            take 0 17 9 TOP TOP = 0
            take 0 21 9 TOP TOP = 0; stream 0 5 14 = 4611686018427380001; stream 0 5 4 = TOP""");
        Run.of("(c 0 or 1 for kind 8, b at most 4611686018427380000)").calls(
            "join; tape 2048; take 0 8 1 4611686018427380000 1 = 3; take 0 8 1 4611686018427380000 1 = 3; side 0 9 = 0");
        Run.of("IllegalStateException before the sides are joined.").calls("""
            take 0 16 0 0 0 throws state; take 1 8 0 0 0 throws state; tape 2; take 0 8 1 0 0 throws state
            feed 1 0 = 3; join
            take 0 8 1 0 0 = 0; stream 0 1 10 = 3""");
    }

    private static void takeTape() {
        String sentence = "A side takes a frame of any fields, with the tape, which is used up, as its data: the answer.";
        Run.of(sentence).calls("""
            join; tape 3 65; take 0 8 1 2 0 = 0; feed 1 33 = 1; take 0 8 1 0 0 = 0; feed 1 34 = 1
            take 0 8 1 1 0 = 0; read 0 1 9 = 5
            outs 0 = 0x4342412221; take 0 8 1 5 1 = 0; stream 0 1 8 = 3""");
        Run.of(sentence).calls("""
            join; tape 3; take 0 8 0 0 0 = 5; feed 1 0 = 1; take 0 8 17 0 0 = 4; feed 1 0 = 1; take 0 8 1 1024 0 = 3
            feed 1 0 = 1
            take 0 16 0 0 0 = 0; feed 1 0 = 1; take 0 4 5 0 0 = 0; feed 1 0 = 1; take 0 8 5 0 0 = 6; feed 1 0 = 1""");
        Run run = Run.of(sentence).calls("""
            grant 0 6 2048; join; tape 2048; take 0 8 1 0 1 = 0; gets 0 1 = 2 0 2048 2048 2048 2048 0""");
        run.calls("read 0 1 2048 = 2048; stream 0 1 8 = 3; feed 1 0 = 1");
        Run.of(sentence).calls("grant 0 6 2047; join; tape 2048; take 0 8 1 0 1 = 3; feed 1 0 = 1; side 0 9 = 0");
    }

    private static void line() {
        Run.of("Of the frame at a place: 0 the side that filled it, 1 its kind, 2 a, 3 b, 4 c, 5 how many bytes of data, "
            + "6 how many bytes it has").calls("""
            join; open 0 true = 0; open 0 true = 4; tape 70; write 0 4 = 70; finish 0 4 = 1; fill 0 9 = 0
            frame 0 = 0 8 4 0 0 6 9
            fill 0 99 = 1; frame 1 = 0 8 4 6 1 64 69; reset 0 4 99 = 1; fill 0 9 = 2; frame 2 = 0 4 4 99 70 0 6
            take 1 21 4 0 0 = 0; stop 1 4 8 = 1; fill 1 9 = 3; frame 3 = 1 5 4 8 0 0 3""");
        Run.of("fields that a kind does not have are 0.").calls("""
            grant 0 4 2; grant 0 6 2; grant 1 4 1; grant 1 6 1; grant 1 8 1; grant 1 9 0; join; open 0 true = 0
            tape 2; write 0 0 = 2
            fill 0 9 = 0; frame 0 = 0 8 0 0 0 1 4; fill 0 9 = 1; frame 1 = 0 20 1 0 0 0 2; fill 0 9 = 2
            frame 2 = 0 21 0 1 0 0 3
            gone 0 false; reset 0 0 5 = 1; fill 0 9 = 0; frame 0 = 0 4 0 5 1 0 4; gone 0 false; fill 0 9 = 0
            gone 0 false
            open 0 true = -1; open 0 false = -1; fill 0 2 = 0; frame 0 = 0 22 1 0 0 0 2; fill 0 2 = 3
            frame 3 = 0 23 0 0 0 0 2
            tape 2; take 0 8 1 0 0 = 0; read 0 1 2 = 2; fill 0 2 = 4; frame 4 = 0 16 4 0 0 0 2; fill 0 3 = 5
            frame 5 = 0 17 1 4 0 0 3
            take 0 8 3 0 1 = 0; fill 0 2 = 6; frame 6 = 0 19 5 0 0 0 2; stop 0 1 6 = 1; fill 0 3 = 7
            frame 7 = 0 5 1 6 0 0 3""");
        Run.of("Throws NoSuchElementException when there is none, or no such what.").calls("""
            line 0 0 throws element; join; open 0 true = 0; finish 0 0 = 1; fill 0 9 = 0; line 0 -1 throws element
            line 0 7 throws element
            line 0 int.min throws element; line 0 int.max throws element; line 1 0 throws element
            line -1 0 throws element
            line 64 0 throws element; line 63 0 throws element; line int.min 0 throws element
            line int.max 6 throws element
            line 0 6 = 3; gone 0 false; line 0 0 throws element""");
    }

    private static void data() {
        Run.of("Byte k of the data of the frame at a place.").calls("""
            join; open 0 true = 0; feed 8 0xff80817f00010203 = 8; write 0 0 = 8; fill 0 7 = 0; bytes 0 = 3 2 1 0
            fill 0 99 = 1
            bytes 1 = 127 129 128 255; feed 1 9 = 1; write 0 0 = 1; fill 0 99 = 2; bytes 2 = 9; bytes 0 = 3 2 1 0
            deliver 1 = 0
            bytes 1 = 127 129 128 255; gone 0 false; fill 0 5 = 0; bytes 0 = 3 2""");
        Run.of("Throws NoSuchElementException when there is none.").calls("""
            data 0 0 throws element; join; open 0 true = 0; tape 2; write 0 0 = 2; fill 0 9 = 0; data 0 1 = 2
            data 0 2 throws element
            data 0 -1 throws element; data 0 int.max throws element; data 0 int.min throws element
            data 1 0 throws element
            data -1 0 throws element; data 64 0 throws element; data int.max 0 throws element
            data int.min 0 throws element
            finish 0 0 = 1; fill 0 9 = 1; data 1 0 throws element; reset 0 0 1 = 1; fill 0 9 = 2
            data 2 0 throws element
            gone 0 false; data 0 0 throws element""");
        Run.of("Byte k of the data of the frame at a place.").calls("""
            join; open 0 true = 0; tape 3 65; write 0 0 = 3; fill 0 9 = 0; reset 0 0 1 = 1; gone 0 false
            fill 0 9 = 0; line 0 1 = 4
            data 0 0 throws element; line 0 5 = 0""");
    }

    private static void outs() {
        Run.of("The OUT's bytes from k on, eight at most, lowest first, as a number.").calls("""
            join; feed 8 0x8877665544332211 = 8; feed 2 0xff99 = 10; take 0 8 1 0 0 = 0; read 0 1 10 = 10
            outs 0 = 0x8877665544332211
            outs 1 = 0x9988776655443322; outs 2 = 0xff99887766554433; outs 3 = 0xff998877665544; outs 8 = 0xff99
            outs 9 = 255
            feed 8 -1 = 8; take 0 8 1 10 0 = 0; outs 9 = 255; read 0 1 8 = 8; outs 0 = -1; outs 1 = 0xffffffffffffff
            outs 7 = 255
            feed 8 long.min = 8; take 0 8 1 18 0 = 0; read 0 1 8 = 8; outs 0 = long.min; outs 6 = 0x8000""");
        Run.of("Throws NoSuchElementException when there is no byte k.").calls("""
            outs 0 throws element; join; tape 9; take 0 8 1 0 0 = 0; outs 0 throws element; read 0 1 9 = 9
            outs 8 = 9; outs 9 throws element
            outs -1 throws element; outs int.max throws element; outs int.min throws element; outs 2048 throws element
            read 0 1 1 = 0; outs 0 throws element""");
    }

    private static void stream() {
        Run.of("Of a stream on a side: its sending part: 0 STATE, 1 WRITTEN, 2 SENT, 3 LIMIT, 4 code (0 without), "
            + "5 how many bytes are LOST, 6 how many HERE, 7 its end (0 there is none, 1 NEW, 2 OUT, 3 LOST, 4 HERE)").calls("""
            join; open 0 true = 0; tape 9; write 0 0 = 9; finish 0 0 = 1; fill 0 4 = 0; fill 0 6 = 1; fill 0 7 = 2
            deliver 0 = 0
            gone 0 true; gone 1 false; sends 0 0 = 1 9 6 1024 0 2 1 1; sends 1 0 = 0 0 0 1024 0 0 0 0; reset 0 0 5 = 1
            sends 0 0 = 3 9 6 1024 5 2 1 1""");
        Run.of("its receiving part: 8 STATE, 9 READ, 10 READY, 11 HIGHEST, 12 SIZE, 13 GRANT, 14 code (0 without).").calls("""
            grant 0 6 20; join; tape 5; take 0 8 1 0 0 = 0; tape 2; take 0 8 1 7 0 = 0; read 0 1 3 = 3
            gets 0 1 = 0 3 5 9 -1 20 0
            take 0 8 1 9 1 = 0; gets 0 1 = 1 3 5 9 9 20 0; take 0 4 1 8 9 = 0; gets 0 1 = 4 3 5 9 9 20 8""");
        Run.of("-1 when there is no such part, or stream.").calls("""
            stream 0 0 0 = -1; join; stream 0 0 0 = -1; stream 0 0 8 = -1; open 0 false = 2
            gets 0 2 = -1 -1 -1 -1 -1 -1 -1
            sends 1 2 = -1 -1 -1 -1 -1 -1 -1 -1; gets 1 2 = -1 -1 -1 -1 -1 -1 -1; take 1 21 2 0 0 = 0
            sends 1 2 = -1 -1 -1 -1 -1 -1 -1 -1; stream 0 -1 0 = -1; stream 0 256 0 = -1; stream 1 258 8 = -1
            stream 0 int.min 14 = -1; stream 0 int.max 7 = -1""");
        Run.of("Throws IllegalArgumentException when there is no such side or what.").calls("""
            stream -1 0 0 throws argument; stream 2 0 0 throws argument; stream 0 0 -1 throws argument
            stream 0 0 15 throws argument
            stream 0 999 15 throws argument; stream 0 0 int.min throws argument; stream 0 0 int.max throws argument
            join; open 0 true = 0
            stream 0 0 15 throws argument; stream 0 0 -1 throws argument; stream 0 0 14 = 0; stream 0 0 0 = 0""");
    }

    private static void side() {
        Run.of("Of a side: 0 SENT, 1 the limit of all data, 2 RECEIVED, 3 CONSUMED, 4 the DATA GRANT").calls("""
            grant 0 4 30; grant 1 4 40; join; open 0 true = 0; tape 9; write 0 0 = 9; fill 0 8 = 0; tape 20
            take 0 8 1 2 0 = 0
            tape 2; take 0 8 1 0 0 = 0; read 0 1 15 = 15; side 0 0 = 5; side 0 1 = 40; side 0 2 = 22; side 0 3 = 15
            side 0 4 = 45
            side 0 13 = 9; side 1 0 = 0; side 1 1 = 30; side 1 2 = 0; side 1 3 = 0; side 1 4 = 40; side 1 13 = 0""");
        Run.of("5, 6 how many streams of BOTH, ONE way it has opened, 7, 8 the limits for these, "
            + "9, 10 how many of the other one's are there, 11, 12 how many are granted, 13 all bytes written.").calls("""
            grant 0 8 5; grant 0 9 6; grant 1 8 7; grant 1 9 8; join; open 0 true = 0; open 0 true = 4
            open 0 false = 2
            side 0 5 = 2; side 0 6 = 1; side 0 7 = 7; side 0 8 = 8; side 0 9 = 0; side 0 10 = 0; side 0 11 = 5
            side 0 12 = 6
            take 0 21 9 0 0 = 0; take 0 8 15 0 1 = 0; side 0 9 = 3; side 0 10 = 4; side 0 11 = 5; side 0 12 = 7
            side 1 5 = 0; side 1 6 = 0; side 1 7 = 5; side 1 8 = 6; side 1 9 = 0; side 1 10 = 0; side 1 11 = 7
            side 1 12 = 8
            tape 3; write 0 0 = 3; tape 4; write 0 2 = 4; tape 5; write 0 1 = 5; side 0 13 = 12; side 1 13 = 0""");
        Run.of("Throws IllegalArgumentException when there is no such side or what.").calls("""
            side -1 0 throws argument; side 2 0 throws argument; side 0 -1 throws argument; side 0 14 throws argument
            side 1 int.min throws argument; side 1 int.max throws argument; side int.min 0 throws argument
            side int.max 13 throws argument
            join; side 0 14 throws argument; side 0 13 = 0; side 1 0 = 0""");
    }
}
