import java.util.ArrayList;
import java.util.List;
import java.util.NoSuchElementException;
import java.util.TreeSet;

/**
 * Rows of calls on a new StreamHall, each with the answer that is due, under the sentence of the
 * document that they test. Rows end with a line or with ';':
 *
 * <pre>
 *   open 0 true = 4          the call answers 4 (a boolean counts 1 or 0)
 *   fill 0 0 throws argument (or state, or element)
 *   join                     the call throws nothing, whatever it answers
 *   tape 9 65                feeds 9 bytes, by eights: 65, 66, .. (1, 2, .. without the 65)
 *   frame 3 = 0 8 4 ..       line(3, 0) is 0, line(3, 1) is 8, ..; _ for one that is free
 *   sends 0 4 = ..           stream(0, 4, 0), stream(0, 4, 1), ..
 *   gets 0 4 = ..            stream(0, 4, 8), stream(0, 4, 9), ..
 *   bytes 3 = ..             data(3, 0), data(3, 1), ..
 * </pre>
 */
final class Run {
    private static final int MOST_CALLS = 512;
    private static final TreeSet<String> SENTENCES = new TreeSet<>();
    private static int wrong = 0;

    private final String sentence;
    private final StreamHall hall = new StreamHall();
    private int calls = 0;
    private boolean beyond = false;

    private Run(String sentence) {
        this.sentence = sentence;
        SENTENCES.add(sentence);
    }

    static Run of(String sentence) {
        return new Run(sentence);
    }

    /** Ends a test: exit code 1 if an answer was not as due. */
    static void end(String name) {
        System.out.println(name + ": " + SENTENCES.size() + " sentences, "
            + (wrong == 0 ? "all is as due" : wrong + " faults"));
        if (wrong != 0) {
            System.exit(1);
        }
    }

    /** For edges that 512 calls can't reach: the document leaves the answers free, this class keeps its word. */
    Run beyond512() {
        beyond = true;
        return this;
    }

    Run calls(String rows) {
        for (String row : split(rows)) {
            check(row);
        }
        return this;
    }

    /** Some rows, whose answers are as written in them, leave all as it would be without them. */
    static void unchanged(String sentence, String before, String rows) {
        for (List<String> questions : Questions.ALL) {
            int next = 0;
            while (next < questions.size()) {
                Run with = new Run(sentence).calls(before).calls(rows);
                Run without = new Run(sentence).calls(before);
                if (with.calls >= MOST_CALLS) {
                    with.fault("the test leaves no call for questions");
                    return;
                }
                while (next < questions.size() && with.calls < MOST_CALLS) {
                    String question = questions.get(next++);
                    String got = with.ask(question);
                    String want = without.ask(question);
                    if (!got.equals(want)) {
                        with.fault(question + " behind " + rows + " answers " + got + ", without it " + want);
                    }
                }
            }
        }
    }

    private void check(String row) {
        String want = null;
        String call = row;
        if (row.contains(" throws ")) {
            want = row.substring(row.indexOf(" throws ") + 1);
            call = row.substring(0, row.indexOf(" throws "));
        } else if (row.contains(" = ")) {
            want = number(row.substring(row.indexOf(" = ") + 3).trim()) + "";
            call = row.substring(0, row.indexOf(" = "));
        }
        String got = ask(call);
        if (want == null ? got.startsWith("throws") : !got.equals(want)) {
            fault(call + " (call " + calls + ") answers " + got + ", due is " + (want == null ? "no throw" : want));
        }
    }

    private void fault(String text) {
        wrong++;
        System.out.println("\"" + sentence + "\": " + text);
    }

    /** The answer of one call as a text. */
    private String ask(String call) {
        calls++;
        if (calls > MOST_CALLS && !beyond) {
            fault("the test makes more than 512 calls");
        }
        try {
            return answer(call.trim().split(" +")) + "";
        } catch (IllegalArgumentException e) {
            return e.getClass() == IllegalArgumentException.class ? "throws argument" : "throws " + e;
        } catch (IllegalStateException e) {
            return e.getClass() == IllegalStateException.class ? "throws state" : "throws " + e;
        } catch (NoSuchElementException e) {
            return e.getClass() == NoSuchElementException.class ? "throws element" : "throws " + e;
        } catch (RuntimeException e) {
            return "throws " + e;
        }
    }

    private long answer(String[] w) {
        switch (w[0]) {
            case "grant": hall.grant(num(w, 1), num(w, 2), num(w, 3)); return 0;
            case "join": hall.join(); return 0;
            case "feed": return hall.feed(num(w, 1), number(w[2]));
            case "open": return hall.open(num(w, 1), bool(w[2]));
            case "write": return hall.write(num(w, 1), num(w, 2));
            case "finish": return hall.finish(num(w, 1), num(w, 2)) ? 1 : 0;
            case "reset": return hall.reset(num(w, 1), num(w, 2), number(w[3])) ? 1 : 0;
            case "stop": return hall.stop(num(w, 1), num(w, 2), number(w[3])) ? 1 : 0;
            case "read": return hall.read(num(w, 1), num(w, 2), num(w, 3));
            case "fill": return hall.fill(num(w, 1), num(w, 2));
            case "deliver": return hall.deliver(num(w, 1));
            case "gone": hall.gone(num(w, 1), bool(w[2])); return 0;
            case "take": return hall.take(num(w, 1), num(w, 2), number(w[3]), number(w[4]), number(w[5]));
            case "line": return hall.line(num(w, 1), num(w, 2));
            case "data": return hall.data(num(w, 1), num(w, 2));
            case "outs": return hall.outs(num(w, 1));
            case "stream": return hall.stream(num(w, 1), num(w, 2), num(w, 3));
            case "side": return hall.side(num(w, 1), num(w, 2));
            default: throw new UnsupportedOperationException(w[0]);
        }
    }

    private static boolean bool(String word) {
        if (!word.equals("true") && !word.equals("false")) {
            throw new UnsupportedOperationException(word);
        }
        return word.equals("true");
    }

    private static int num(String[] words, int at) {
        long v = number(words[at]);
        if (v != (int) v) {
            throw new UnsupportedOperationException(words[at]);
        }
        return (int) v;
    }

    private static long number(String word) {
        switch (word) {
            case "true": return 1;
            case "false": return 0;
            case "TOP": return 4611686018427387903L;
            case "TOP+1": return 4611686018427387904L;
            case "int.max": return Integer.MAX_VALUE;
            case "int.min": return Integer.MIN_VALUE;
            case "long.max": return Long.MAX_VALUE;
            case "long.min": return Long.MIN_VALUE;
            default: return word.startsWith("0x") ? Long.parseUnsignedLong(word.substring(2), 16) : Long.parseLong(word);
        }
    }

    /** The plain calls of some rows: tape, frame, sends, gets and bytes stand for several. */
    private static List<String> split(String rows) {
        List<String> all = new ArrayList<>();
        for (String part : rows.split("[;\n]")) {
            String row = part.trim();
            String[] w = row.split(" +");
            switch (w[0]) {
                case "": break;
                case "tape": addTape(all, Integer.parseInt(w[1]), w.length > 2 ? Integer.parseInt(w[2]) : 1); break;
                case "frame": addEach(all, "line " + w[1], 0, row); break;
                case "bytes": addEach(all, "data " + w[1], 0, row); break;
                case "sends": addEach(all, "stream " + w[1] + " " + w[2], 0, row); break;
                case "gets": addEach(all, "stream " + w[1] + " " + w[2], 8, row); break;
                default: all.add(row); break;
            }
        }
        return all;
    }

    private static void addTape(List<String> all, int count, int first) {
        for (int k = 0; k < count; k += 8) {
            int n = Math.min(8, count - k);
            long v = 0;
            for (int i = 0; i < n; i++) {
                v |= (first + k + i & 255L) << 8 * i;
            }
            all.add("feed " + n + " " + v);
        }
    }

    private static void addEach(List<String> all, String call, int first, String row) {
        String[] want = row.substring(row.indexOf(" = ") + 3).trim().split(" +");
        for (int k = 0; k < want.length; k++) {
            if (!want[k].equals("_")) {
                all.add(call + " " + (first + k) + " = " + want[k]);
            }
        }
    }

    /** What unchanged() asks: lists of calls, each for new objects, that together show the whole state. */
    private static final class Questions {
        static final List<List<String>> ALL = List.of(state(), line(), List.of("feed 1 0"), joined(),
            drained(0), drained(1), opened(), told());

        private static List<String> state() {
            List<String> all = new ArrayList<>();
            for (int side = 0; side < 2; side++) {
                for (int what = 0; what < 14; what++) {
                    all.add("side " + side + " " + what);
                }
                for (int id = 0; id < 256; id += id == 19 ? 233 : 1) {
                    for (int what = 0; what < 15; what++) {
                        all.add("stream " + side + " " + id + " " + what);
                    }
                }
            }
            return all;
        }

        private static List<String> line() {
            List<String> all = new ArrayList<>(List.of("outs 0", "outs 1", "outs 8", "outs 9"));
            for (int place = 0; place < 64; place += place == 9 ? 54 : 1) {
                for (int what = 0; what < 7; what++) {
                    all.add("line " + place + " " + what);
                }
                all.add("data " + place + " 0");
                all.add("data " + place + " 1");
            }
            return all;
        }

        private static List<String> joined() {
            List<String> all = new ArrayList<>(List.of("join"));
            all.addAll(state());
            return all;
        }

        /** All that is to be sent or told by a side. */
        private static List<String> drained(int side) {
            List<String> all = new ArrayList<>();
            for (int k = 0; k < 12; k++) {
                all.add("fill " + side + " 1200");
            }
            all.addAll(line());
            return all;
        }

        private static List<String> opened() {
            return List.of("open 0 true", "open 0 false", "open 1 true", "open 1 false");
        }

        /** Which frames may be said to have arrived. */
        private static List<String> told() {
            List<String> all = new ArrayList<>();
            for (int place = 0; place < 64; place++) {
                all.add("gone " + place + " true");
            }
            return all;
        }
    }
}
