import java.util.ArrayList;
import java.util.Arrays;
import java.util.List;

/**
 * What the boundary tests share: how answers are held against those that are due, states to start
 * from, and how two objects are told apart by all that their calls tell of them.
 */
final class Bench {
    static final int NONE = -1, UNKNOWN = -2, OUTSIDE = -3, NOT = -4, FULL = -5;
    static final int LEAST = Integer.MIN_VALUE, MOST = Integer.MAX_VALUE;
    /** Beyond this many calls the document leaves an object's answers free. */
    private static final int MOST_CALLS = 512;
    private static final int PROMISES = 39;

    private static final int[] checks = new int[PROMISES + 1];
    private static final int[] refusals = new int[PROMISES + 1];
    private static int wrong = 0;
    private static int promise = 0;

    private Bench() {
    }

    /** One call of the class. */
    interface Call {
        long on(DrawsOut x);
    }

    static void promise(int number) {
        promise = number;
    }

    static void due(String call, long got, long want) {
        checks[promise]++;
        if (got != want) {
            wrong++;
            System.out.println("promise " + promise + ": " + call + " answered " + got + ", due is " + want);
        }
    }

    /** Both parts of an answer: part 0 and part 1. */
    static void part(String call, long above, long below, long wantAbove, long wantBelow) {
        due(call + " above", above, wantAbove);
        due(call + " below", below, wantBelow);
    }

    /** Ends the test: each of these promises was looked at, and each that refuses was refused. */
    static void finish(int from, int to, int... withoutRefusals) {
        for (int i = from; i <= to; i++) {
            int number = i;
            boolean refuses = Arrays.stream(withoutRefusals).noneMatch(p -> p == number);
            if (checks[i] == 0 || refuses && refusals[i] == 0) {
                wrong++;
                System.out.println("promise " + i + " is not tested");
            }
        }
        System.out.println(wrong == 0 ? "all boundaries hold" : wrong + " answers are not as due");
        if (wrong != 0) {
            System.exit(1);
        }
    }

    // ---- states

    static List<Call> calls(Call... calls) {
        return List.of(calls);
    }

    @SafeVarargs
    static List<Call> join(List<Call>... parts) {
        List<Call> all = new ArrayList<>();
        for (List<Call> part : parts) {
            all.addAll(part);
        }
        return all;
    }

    static List<Call> write(String text) {
        List<Call> writes = new ArrayList<>();
        for (int at = 0; at < text.length(); at += 8) {
            int n = Math.min(8, text.length() - at);
            long bytes = 0;
            for (int i = 0; i < n; i++) {
                bytes |= (text.charAt(at + i) & 255L) << 8 * i;
            }
            long packed = bytes;
            writes.add(x -> x.write(packed, n));
        }
        return writes;
    }

    static List<Call> program(String text) {
        return join(write(text), calls(x -> x.program()));
    }

    static List<Call> inputs(int width, int truth) {
        return calls(x -> x.inputs(width, truth));
    }

    static List<Call> knots(int n) {
        return calls(x -> x.knots(n));
    }

    /** Triples of a knot, a knot and a weight. */
    static List<Call> edges(int... triples) {
        List<Call> all = new ArrayList<>();
        for (int i = 0; i < triples.length; i += 3) {
            int a = triples[i], b = triples[i + 1], weight = triples[i + 2];
            all.add(x -> x.edge(a, b, weight));
        }
        return all;
    }

    static List<Call> cords(int... sets) {
        List<Call> all = new ArrayList<>();
        for (int set : sets) {
            all.add(x -> x.cord(set));
        }
        return all;
    }

    static List<Call> heap(int... rows) {
        List<Call> all = new ArrayList<>();
        for (int sides : rows) {
            all.add(x -> x.heap(sides));
        }
        return all;
    }

    static List<Call> times(int many, Call call) {
        List<Call> all = new ArrayList<>();
        for (int i = 0; i < many; i++) {
            all.add(call);
        }
        return all;
    }

    /** An object after these calls; each of them must have been taken. */
    static DrawsOut made(List<Call> state) {
        DrawsOut x = new DrawsOut();
        for (int i = 0; i < state.size(); i++) {
            long answer = state.get(i).on(x);
            if (answer < 0) {
                due("call " + i + " of a state, to be taken: 1 or", answer, 0);
            }
        }
        return x;
    }

    static DrawsOut with(String text) {
        return made(program(text));
    }

    static DrawsOut with(String text, int width, int truth) {
        return made(join(program(text), inputs(width, truth)));
    }

    static String blanks(int many) {
        return " ".repeat(many);
    }

    static String lines(String line, int many) {
        return String.join(";", java.util.Collections.nCopies(many, line));
    }

    static final List<Call> NEW = List.of();

    /** All that SOME holds but the text. */
    static final List<Call> SOME_BUT_TEXT = join(
        program("0 draw 3;1 draw 2;2 in 0;3 in 1;4 add 0 2;4 mul 4 1;4 xor 4 3;out 4"), inputs(2, 6), knots(5),
        edges(0, 1, 3, 1, 2, 5, 4, 2, 9, 1, 0, 8), cords(7, 26), heap(5, 19, 30),
        calls(x -> x.term(0, 3, 1, 2, 0), x -> x.term(0, -2, 0, 0, 1), x -> x.term(1, 4, 0, 3, 1)));
    static final String SOME_TEXT = "1 draw 5;2 in 2;1 add 1 2;out 1";
    /** A part of each bound. */
    static final List<Call> SOME = join(SOME_BUT_TEXT, write(SOME_TEXT));
    /** As SOME, with a fault in the text. */
    static final List<Call> FAULTY = join(SOME, write(";9 is 1"));

    /** 20 lines, 64 rows, 200 bytes. */
    static final String FULL_PROGRAM = "0 draw 2;1 draw 2;2 draw 2;3 draw 2;4 draw 2;5 draw 2;"
        + "0 add 0 0;0 add 0 1;0 add 0 0;0 add 0 2;0 add 0 0;0 add 0 3;7 in 0;6 in 4;6 add 6 7;0 xor 0 4;0 add 0 5;0 xor 0 6;"
        + "out 0;out 0" + blanks(21);
    /** 20 lines, 64 rows, 200 bytes. */
    static final String FULL_TEXT = "0 draw 8;1 draw 8;" + lines("0 add 0 1", 17) + ";out 0" + blanks(7);

    static final List<Call> FULL_BUT_TEXT = fullButText();
    /** All that has a bound is at it. */
    static final List<Call> FULL_STATE = join(FULL_BUT_TEXT, write(FULL_TEXT));

    private static List<Call> fullButText() {
        List<Call> all = new ArrayList<>(join(program(FULL_PROGRAM), inputs(5, 0x5a3c96e1), knots(8)));
        for (int i = 0; i < 16; i++) {
            int number = i;
            all.add(x -> x.edge(number % 8, (number + 1 + number / 8) % 8, 99 - number));
        }
        for (int i = 0; i < 10; i++) {
            int set = 255 - 11 * i;
            all.add(x -> x.cord(set));
        }
        all.add(x -> x.made(3));
        for (int i = 0; i < 6; i++) {
            int number = i;
            all.add(x -> x.term(0, 9 - number, number % 4, number / 2, 1));
            all.add(x -> x.term(1, number - 9, 3 - number % 4, 1, number / 2));
        }
        return all;
    }

    // ---- what an object tells of itself

    /** The answers of many calls that together tell an object's state; the object is used up by it. */
    private static final class Told {
        final List<Long> answers = new ArrayList<>();
        private final DrawsOut x;

        Told(DrawsOut x) {
            this.x = x;
            for (int what = 0; what <= 7; what++) {
                add(x.count(what));
            }
            program();
            odds();
            web();
            sums();
            theRestByUsingIt();
        }

        private void add(long answer) {
            answers.add(answer);
        }

        private void program() {
            for (int draw = 0; draw <= 6; draw++) {
                add(x.draw(draw));
            }
            for (int input : new int[] {0, 1, 5, 31}) {
                for (int row : new int[] {0, 1, 2, 7, 31, 63}) {
                    add(x.run(input, row));
                }
            }
        }

        private void odds() {
            for (int input = 0; input < 32; input++) {
                add(x.odds(input, 0));
            }
            add(x.mean(0));
            add(x.mean(1));
            add(x.worst(2));
            add(x.kept(1));
            add(x.good(0));
            add(x.together(-1));
        }

        private void web() {
            for (int knot = 0; knot <= 8; knot++) {
                add(x.measure(0, 1 << knot));
            }
            for (int a = 0; a < 8; a++) {
                for (int b = 0; b < a; b++) {
                    add(x.walks(1 << a | 1 << b, 1));
                    add(x.expect(0, 1 << a | 1 << b, 1 << a, 0));
                }
            }
            for (int sides = 0; sides < 256; sides += 7) {
                add(x.measure(1, sides));
            }
            add(x.of(0));
            add(x.of(1));
            for (int t = 1; t <= 8; t++) {
                add(x.error(t, 0));
            }
            add(x.error(8, 1));
            for (int t = 1; t <= 3; t++) {
                add(x.even(t));
            }
        }

        private void sums() {
            for (int sum = 0; sum <= 1; sum++) {
                add(x.degree(sum));
                for (int i = 0; i < 10; i++) {
                    add(x.value(sum, i, 3 * i % 11, 7 * i % 12));
                }
            }
        }

        private void theRestByUsingIt() {
            add(x.fault());
            add(x.program());
            for (int what = 0; what <= 3; what++) {
                add(x.count(what));
            }
            program();
            add(x.edge(0, 1, 1));
            add(x.cord(3));
            add(x.heap(0));
            add(x.term(0, 1, 0, 0, 0));
            add(x.term(1, 1, 0, 0, 0));
        }
    }

    private static List<Long> told(List<Call> state) {
        List<Long> answers = new Told(made(state)).answers;
        due("a state and what is told of it go beyond the calls of an object: 1 if so,",
            state.size() + answers.size() > MOST_CALLS ? 1 : 0, 0);
        return answers;
    }

    static void alike(String what, List<Call> one, List<Call> other) {
        due(what + ": both states tell the same, 1 if so,", told(one).equals(told(other)) ? 1 : 0, 1);
    }

    static void unlike(String what, List<Call> one, List<Call> other) {
        due(what + ": both states tell the same, 1 if so,", told(one).equals(told(other)) ? 1 : 0, 0);
    }

    /** A call that only asks: its answer, and that it changes nothing. */
    static void asked(List<Call> state, String name, Call call, long want) {
        DrawsOut x = made(state);
        due(name, call.on(x), want);
        due("what is told behind " + name + " is told without it: 1 if so,",
            new Told(x).answers.equals(told(state)) ? 1 : 0, 1);
    }

    /** A call that only asks, and whose answer is looked at elsewhere: that it changes nothing. */
    static void changesNothing(String name, Call call) {
        asked(NEW, name + " of a new object", call, call.on(made(NEW)));
        asked(SOME, name + " of some", call, call.on(made(SOME)));
        asked(FULL_STATE, name + " of a full object", call, call.on(made(FULL_STATE)));
    }

    /** A call that is refused: its answer, and that nothing changes. */
    static void refused(List<Call> state, String name, Call call, long want) {
        refusals[promise]++;
        asked(state, name, call, want);
    }

    /** A call that is refused for its arguments alone, whatever the state is. */
    static void refusedAlways(String name, Call call, long want) {
        refused(NEW, name + " of a new object", call, want);
        refused(SOME, name + " of some", call, want);
        refused(FULL_STATE, name + " of a full object", call, want);
    }

    /** A call that is taken: its answer, and that something changes. */
    static void taken(List<Call> state, String name, Call call, long want) {
        DrawsOut x = made(state);
        due(name, call.on(x), want);
        due("what is told behind " + name + " is told without it: 1 if so,",
            new Told(x).answers.equals(told(state)) ? 1 : 0, 0);
    }
}
