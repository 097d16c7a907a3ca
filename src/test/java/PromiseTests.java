import java.util.Arrays;

/** For each promise its ordinary answers, the edges that the document names, and wrong arguments. */
public final class PromiseTests {
    private static final int NONE = -1, UNKNOWN = -2, OUTSIDE = -3, NOT = -4, FULL = -5;
    private static final int[] FAR = {Integer.MIN_VALUE, Integer.MAX_VALUE, -1000, 1000, 1 << 16, 1 << 30};
    private static int wrong = 0;
    private static int promise = 0;

    public static void main(String[] args) {
        newObject();
        writing();
        faults();
        programs();
        running();
        oddsOfInputs();
        fixedDraws();
        rowsForAllInputs();
        runsMore();
        knotsEdgesCords();
        measures();
        sidesChosen();
        heaps();
        leastHeaps();
        walking();
        sums();
        weakDraws();
        counts();
        refusedCallsChangeNothing();
        System.out.println(wrong == 0 ? "all promises hold" : wrong + " answers are not as due");
        if (wrong != 0) {
            System.exit(1);
        }
    }

    private static void due(String call, long got, long want) {
        if (got != want) {
            wrong++;
            System.out.println("promise " + promise + ": " + call + " answered " + got + ", due is " + want);
        }
    }

    private static void part(String call, int above, int below, int wantAbove, int wantBelow) {
        due(call + " above", above, wantAbove);
        due(call + " below", below, wantBelow);
    }

    private static void put(DrawsOut x, String text) {
        for (int i = 0; i < text.length(); i++) {
            x.write(text.charAt(i), 1);
        }
    }

    private static DrawsOut with(String text) {
        DrawsOut x = new DrawsOut();
        put(x, text);
        due("program() of " + text + " is read", x.program() > 0 ? 1 : 0, 1);
        return x;
    }

    private static String lines(String line, int many) {
        String[] all = new String[many];
        Arrays.fill(all, line);
        return String.join(";", all);
    }

    private static void newObject() {
        promise = 1;
        DrawsOut x = new DrawsOut();
        int[] counts = {0, 0, 0, 1, 1, 0, 0, 0};
        for (int what = 0; what < counts.length; what++) {
            due("new: count(" + what + ")", x.count(what), counts[what]);
        }
        due("new: knot 3", x.edge(0, 3, 1), 1);
        due("new: knot 4", x.edge(0, 4, 1), UNKNOWN);
        due("new: run(0, 0)", x.run(0, 0), 0);
        due("new: right(0, 0)", x.right(0, 0), 1);
        due("new: value", x.value(0, 11, 11, 11), 0);
        due("new: degree", x.degree(1), 0);
        due("new: same", x.same(12, 0), 1728);
        due("NONE", DrawsOut.NONE, -1);
        due("UNKNOWN", DrawsOut.UNKNOWN, -2);
        due("OUTSIDE", DrawsOut.OUTSIDE, -3);
        due("NOT", DrawsOut.NOT, -4);
        due("FULL", DrawsOut.FULL, -5);
    }

    private static void writing() {
        promise = 2;
        DrawsOut x = new DrawsOut();
        due("write(.., 0)", x.write(0, 0), OUTSIDE);
        due("write(.., 9)", x.write(0, 9), OUTSIDE);
        for (int far : FAR) {
            due("write(.., " + far + ")", x.write(0, far), OUTSIDE);
        }
        for (int i = 1; i <= 24; i++) {
            due("write(.., 8)", x.write(0x2020202020202020L, 8), 8 * i);
        }
        due("write 7 of 199", x.write(0x20202020202020L, 7), 199);
        due("write 2 of 201", x.write(0, 2), FULL);
        due("OUTSIDE is ahead of FULL", x.write(0, 9), OUTSIDE);
        due("write 1 of 200", x.write(' ', 1), 200);
        due("write beyond 200", x.write(0, 1), FULL);
        due("fault at the end of 200 blanks", x.fault(), 200);
        promise = 3;
        due("erase() of 200", x.erase(), 200);
        due("erase() again", x.erase(), 0);
        promise = 2;
        // "out 7;1 " backwards by bytes, with bytes beyond n that are not taken.
        due("write by bytes", x.write(0x20313b372074756fL, 5), 5);
        due("its fault", x.fault(), NONE);
        due("write another", x.write(0xffL << 56 | 0x3bL, 1), 6);
        due("its fault", x.fault(), 6);
        due("write a high byte", x.write(-1L, 1), 7);
        due("its fault", x.fault(), 6);
        promise = 3;
        due("erase() of 7", x.erase(), 7);
        due("count(0)", x.count(0), 0);
        DrawsOut y = with("1 is 5;out 1");
        put(y, "junk");
        due("erase() of junk", y.erase(), 4);
        due("the program stays", y.run(0, 0), 5);
    }

    private static void fault(String text, int want) {
        DrawsOut x = new DrawsOut();
        put(x, text);
        due("fault() of '" + text + "'", x.fault(), want);
        due("fault() again of '" + text + "'", x.fault(), want);
        due("count(0) after fault() of '" + text + "'", x.count(0), text.length());
        due("program() of '" + text + "'", x.program() == NOT ? 1 : 0, want == NONE ? 0 : 1);
        due("count(0) after program() of '" + text + "'", x.count(0), want == NONE ? 0 : text.length());
    }

    private static void faults() {
        promise = 4;
        fault("", 0);
        fault("   ", 3);
        fault(";", 0);
        fault("0", 1);
        fault("0 ", 2);
        fault("0 draw", 6);
        fault("0 draw 2", NONE);
        fault("0 draw 8", NONE);
        fault("0 draw 9", 7);
        fault("0 draw 1", 7);
        fault("0 draw 02", NONE);
        fault("0 draw 002", 7);
        fault("7 in 4", NONE);
        fault("7 in 5", 5);
        fault("8 in 4", 0);
        fault("07 in 04", NONE);
        fault("007 in 4", 0);
        fault("0 is 15", NONE);
        fault("0 is 16", 5);
        fault("0 is 0 0", 7);
        fault("0 add 7 7", NONE);
        fault("0 add 8 7", 6);
        fault("0 add 7 8", 8);
        fault("0 add 77", 6);
        fault("0 mul 1 2", NONE);
        fault("0 xor 1 2", NONE);
        fault("0 less 1 2", NONE);
        fault("0 pick 1 2 3", NONE);
        fault("0 pick 1 2", 10);
        fault("0 pick 1 2;", 10);
        fault("0 pick 1 2 3 4", 13);
        fault("out 7", NONE);
        fault("out 8", 4);
        fault("out out", 4);
        fault("0 out 1", 2);
        fault("is 1", 0);
        fault("0 isin 1", 2);
        fault("0 i s 1", 2);
        fault("0 Is 1", 2);
        fault("0 drawn 2", 2);
        fault("0 dra 2", 2);
        fault("0 is -1", 5);
        fault("0 is a", 5);
        fault("0\tis 1", 1);
        fault("  0  is  1  ", NONE);
        fault("0is1;out0", NONE);
        fault("0 is 1;", 7);
        fault("0 is 1; ", 8);
        fault("0 is 1;;out 0", 7);
        fault("0 is 1,out 0", 6);
        fault("0 is 1 out 0", 7);
        fault("0 is 1;out" + (char) 200 + "0", 10);
        fault((char) 0 + "", 0);
        fault(lines("out 0", 20), NONE);
        fault(lines("out 0", 20) + "  ", NONE);
        fault(lines("out 0", 21), 119);
        fault(lines("out 0", 20) + ";", 119);
        fault(lines("out 0", 20) + " 1", 120);
        fault(lines("0 draw 2", 6), NONE);
        fault(lines("0 draw 2", 7), 61);
        fault("0 draw 8;0 draw 8", NONE);
        fault("0 draw 8;0 draw 8;0 draw 2", 25);
        fault("0 draw 8;0 draw 7;0 draw 2", 25);
        fault("0 draw 5;0 draw 5;0 draw 2", NONE);
        fault("0 draw 5;0 draw 5;0 draw 3;0 is 99", 25);
    }

    private static void programs() {
        promise = 5;
        DrawsOut x = new DrawsOut();
        due("program() of no text", x.program(), NOT);
        put(x, "0 draw 3;1 draw 4;out 0");
        due("program()", x.program(), 12);
        due("lines", x.count(1), 3);
        due("draws", x.count(2), 2);
        due("rows", x.count(3), 12);
        due("the text is empty", x.count(0), 0);
        due("program() again", x.program(), NOT);
        put(x, "0 draw 2;");
        due("program() with a fault", x.program(), NOT);
        due("the text stays", x.count(0), 9);
        due("the old program stays", x.count(3), 12);
        due("its draws stay", x.draw(1), 4);
        due("its outs stay", x.run(0, 11), 2);
        x.erase();
        put(x, "1 is 3;out 1");
        due("program() without draws", x.program(), 1);
        due("no draws", x.draw(0), UNKNOWN);
        due("its out", x.run(0, 0), 3);
        put(x, "0 draw 8;1 draw 8;1 mul 0 1;out 1");
        due("program() with 64 rows", x.program(), 64);
        due("run(0, 63)", x.run(0, 63), 1);
        promise = 6;
        due("draw(0)", x.draw(0), 8);
        due("draw(1)", x.draw(1), 8);
        due("draw(2)", x.draw(2), UNKNOWN);
        due("draw(-1)", x.draw(-1), UNKNOWN);
        for (int far : FAR) {
            due("draw(" + far + ")", x.draw(far), UNKNOWN);
        }
        DrawsOut six = with("0 draw 2;0 draw 2;0 draw 2;0 draw 2;0 draw 2;0 draw 2;out 0");
        due("draw(5)", six.draw(5), 2);
        due("draw(6)", six.draw(6), UNKNOWN);
        DrawsOut mixed = with("0 draw 3;2 is 1;1 draw 5");
        due("the second draw is draw(1)", mixed.draw(1), 5);
    }

    private static void running() {
        promise = 7;
        DrawsOut x = new DrawsOut();
        for (int width = 0; width <= 5; width++) {
            due("inputs(" + width + ", 0)", x.inputs(width, 0), 1 << width);
            due("count(4)", x.count(4), 1 << width);
        }
        due("inputs(6, 0)", x.inputs(6, 0), OUTSIDE);
        due("inputs(-1, 0)", x.inputs(-1, 0), OUTSIDE);
        due("count(4) stays", x.count(4), 32);
        due("inputs(5, -1)", x.inputs(5, -1), 32);
        due("right(31, 0)", x.right(31, 0), 0);
        due("inputs(5, max)", x.inputs(5, Integer.MAX_VALUE), 32);
        due("right(31, 0)", x.right(31, 0), 1);
        due("right(30, 0)", x.right(30, 0), 0);
        due("inputs(1, -4)", x.inputs(1, -4), 2);
        due("bits beyond do not matter", x.good(0), 1);
        promise = 8;
        int[][] pairs = {{15, 1}, {15, 15}, {7, 9}, {0, 15}, {3, 3}, {8, 2}};
        for (int[] p : pairs) {
            String cells = "1 is " + p[0] + ";2 is " + p[1] + ";";
            due("add", with(cells + "3 add 1 2;out 3").run(0, 0), (p[0] + p[1]) % 16);
            due("mul", with(cells + "3 mul 1 2;out 3").run(0, 0), p[0] * p[1] % 16);
            due("xor", with(cells + "3 xor 1 2;out 3").run(0, 0), p[0] ^ p[1]);
            due("less", with(cells + "3 less 1 2;out 3").run(0, 0), p[0] < p[1] ? 1 : 0);
            due("pick", with(cells + "4 is 6;3 pick 1 2 4;out 3").run(0, 0), p[0] != 0 ? p[1] : 6);
            due("to itself", with(cells + "1 add 1 1;1 add 1 2;out 1").run(0, 0), (2 * p[0] + p[1]) % 16);
        }
        due("without out", with("0 is 9").run(0, 0), 0);
        due("the last out", with("0 is 9;1 is 4;out 0;out 1").run(0, 0), 4);
        due("the cell as it is at out", with("0 is 9;out 0;0 is 4").run(0, 0), 9);
        due("cells are 0 at first", with("out 5").run(0, 0), 0);
        DrawsOut in = with("0 in 0;1 in 4;2 add 1 1;0 add 0 2;out 0");
        in.inputs(5, 0);
        due("bits 0 and 4", in.run(17, 0), 3);
        due("bit 4", in.run(16, 0), 2);
        due("neither", in.run(14, 0), 0);
        due("no input 32", in.run(32, 0), UNKNOWN);
        due("no input -1", in.run(-1, 0), UNKNOWN);
        due("no row 1", in.run(0, 1), UNKNOWN);
        due("no row -1", in.run(0, -1), UNKNOWN);
        DrawsOut rows = with("0 draw 3;1 draw 4;2 is 4;2 mul 2 0;2 add 2 1;out 2");
        for (int row = 0; row < 12; row++) {
            due("the first draw is the highest figure, row " + row, rows.run(0, row), row);
        }
        due("no row 12", rows.run(0, 12), UNKNOWN);
        for (int far : FAR) {
            due("run(" + far + ", 0)", rows.run(far, 0), UNKNOWN);
            due("run(0, " + far + ")", rows.run(0, far), UNKNOWN);
            due("right(" + far + ", 0)", rows.right(far, 0), UNKNOWN);
            due("right(0, " + far + ")", rows.right(0, far), UNKNOWN);
        }
        promise = 9;
        DrawsOut r = with("0 draw 2;1 in 0;1 add 1 1;0 mul 0 1;out 0");
        r.inputs(1, 2);
        due("0 where 0 is told", r.right(0, 1), 1);
        due("0 where not 0 is told", r.right(1, 0), 0);
        due("2 where not 0 is told", r.right(1, 1), 1);
        r.inputs(1, 1);
        due("0 where not 0 is told", r.right(0, 0), 0);
        due("2 where 0 is told", r.right(1, 1), 0);
        due("right(2, 0)", r.right(2, 0), UNKNOWN);
        due("right(0, 2)", r.right(0, 2), UNKNOWN);
    }

    private static final String GUESS = "0 draw 2;1 draw 3;2 in 0;3 in 1;4 xor 0 2;5 less 1 3;4 xor 4 5;out 4";

    private static void oddsOfInputs() {
        promise = 10;
        DrawsOut x = with("0 draw 6;1 in 0;2 in 1;3 is 1;1 add 1 2;1 add 1 3;4 less 0 1;out 4");
        x.inputs(2, 15);
        // OUT is 1 by 1, 2, 2, 3 of 6 rows.
        part("odds(0)", x.odds(0, 0), x.odds(0, 1), 1, 6);
        part("odds(1)", x.odds(1, 0), x.odds(1, 1), 1, 3);
        part("odds(2)", x.odds(2, 0), x.odds(2, 1), 1, 3);
        part("odds(3)", x.odds(3, 0), x.odds(3, 1), 1, 2);
        due("odds(4, 0)", x.odds(4, 0), UNKNOWN);
        due("odds(-1, 0)", x.odds(-1, 0), UNKNOWN);
        due("odds(0, 2)", x.odds(0, 2), OUTSIDE);
        due("odds(0, -1)", x.odds(0, -1), OUTSIDE);
        due("UNKNOWN is ahead of OUTSIDE", x.odds(4, 2), UNKNOWN);
        promise = 11;
        part("worst", x.worst(0), x.worst(1), 1, 6);
        due("worst(2)", x.worst(2), 0);
        due("worst(3)", x.worst(3), OUTSIDE);
        due("worst(-1)", x.worst(-1), OUTSIDE);
        x.inputs(2, 13);
        // 1, 4, 2, 3 of 6.
        part("odds(1) of 0", x.odds(1, 0), x.odds(1, 1), 2, 3);
        promise = 12;
        part("mean", x.mean(0), x.mean(1), 5, 12);
        due("mean(2)", x.mean(2), OUTSIDE);
        due("mean(-1)", x.mean(-1), OUTSIDE);
        promise = 11;
        x.inputs(2, 6);
        // 5, 2, 2, 3 of 6: of both the least input.
        due("worst(2) of several", x.worst(2), 1);
        part("worst", x.worst(0), x.worst(1), 1, 3);
        promise = 12;
        part("mean", x.mean(0), x.mean(1), 1, 2);
        DrawsOut none = with("0 is 1;out 0");
        part("mean 0", none.mean(0), none.mean(1), 0, 1);
        part("worst 0", none.worst(0), none.worst(1), 0, 1);
        part("odds 0", none.odds(0, 0), none.odds(0, 1), 0, 1);
        promise = 13;
        // OUT is whether the draw is unlike the input: an enemy who sees it makes it wrong.
        DrawsOut y = with("0 draw 2;1 in 0;2 xor 0 1;out 2");
        y.inputs(1, 0);
        part("seen 0", y.seen(0, 0), y.seen(0, 1), 1, 2);
        part("seen 1", y.seen(1, 0), y.seen(1, 1), 0, 1);
        due("seen(2, 0)", y.seen(2, 0), UNKNOWN);
        due("seen(-1, 0)", y.seen(-1, 0), UNKNOWN);
        due("seen(0, 2)", y.seen(0, 2), OUTSIDE);
        due("seen(0, -1)", y.seen(0, -1), OUTSIDE);
        due("UNKNOWN is ahead of OUTSIDE", y.seen(2, 2), UNKNOWN);
        // Seeing the first draw d of 3, the second e of 4: right for input 1 if d < e, always for 0.
        DrawsOut z = with("0 draw 3;1 draw 4;2 in 0;3 less 0 1;3 mul 3 2;out 3");
        z.inputs(1, 2);
        part("seen 0", z.seen(0, 0), z.seen(0, 1), 1, 2);
        part("seen 1", z.seen(1, 0), z.seen(1, 1), 1, 2);
        part("seen 2", z.seen(2, 0), z.seen(2, 1), 1, 2);
        // Now input 0 is right if not, so that the enemy takes the lesser: 0 + min (1/4, 3/4) and so on.
        DrawsOut w = with("0 draw 3;1 draw 4;2 in 0;3 less 0 1;3 xor 3 2;out 3");
        w.inputs(1, 0);
        part("seen 0 of both", w.seen(0, 0), w.seen(0, 1), 1, 2);
        part("seen 1 of both", w.seen(1, 0), w.seen(1, 1), 1, 3);
        part("seen 2 of both", w.seen(2, 0), w.seen(2, 1), 0, 1);
    }

    private static void fixedDraws() {
        promise = 14;
        // Right for input 1 always, for input 0 if both draws are 1.
        DrawsOut x = with("0 draw 2;1 draw 2;2 in 0;4 mul 0 1;5 pick 4 0 2;out 5");
        x.inputs(1, 3);
        due("kept(1) where both are 1", x.kept(1), 3);
        due("kept(0) where both are 1", x.kept(0), 2);
        x.inputs(1, 0);
        due("kept(1) of several the least", x.kept(1), 0);
        due("kept(0) of several the least", x.kept(0), 1);
        due("kept(2)", x.kept(2), OUTSIDE);
        due("kept(-1)", x.kept(-1), OUTSIDE);
        // By first draw 0 one input is right, by 1 both, if the second is below the limit, else none.
        String keep = "0 draw 2;1 draw 3;2 in 0;3 is 1;2 xor 2 3;1 less 1 5;4 pick 0 1 2;out 4";
        DrawsOut one = with("5 is 1;" + keep);
        one.inputs(1, 3);
        due("kept(1) goes by the mean, not by the best row", one.kept(1), 0);
        due("kept(0) goes by the mean, not by the best row", one.kept(0), 1);
        due("though row 3 is good", one.good(1), 3);
        DrawsOut two = with("5 is 2;" + keep);
        two.inputs(1, 3);
        due("kept(1) where the mean is greater by 1", two.kept(1), 3);
        due("kept(0) where the mean is greater by 1", two.kept(0), 2);
        DrawsOut late = with("0 draw 2;1 draw 5;2 is 3;3 xor 1 2;4 is 1;5 less 3 4;5 mul 5 0;out 5");
        late.inputs(0, 1);
        due("kept(1) of the one row that is right", late.kept(1), 8);
        due("kept(0) of the one row that is right", late.kept(0), 1);
        DrawsOut six = with("0 draw 2;1 draw 2;2 draw 2;3 draw 2;4 draw 2;5 draw 2;0 mul 0 2;0 mul 0 5;out 0");
        six.inputs(0, 1);
        due("kept(1) of six draws", six.kept(1), 41);
        due("kept(0) of six draws", six.kept(0), 1);
        promise = 13;
        part("seen 6 of six draws", six.seen(6, 0), six.seen(6, 1), 1, 8);
        due("seen(7, 0) of six draws", six.seen(7, 0), UNKNOWN);
        promise = 14;
        DrawsOut none = new DrawsOut();
        due("kept(1) without draws", none.kept(1), 0);
        due("kept(0) without draws", none.kept(0), 1);
        none.inputs(0, 1);
        due("kept(0) never right", none.kept(0), 0);
    }

    private static void rowsForAllInputs() {
        promise = 15;
        DrawsOut x = with("0 draw 4;1 in 0;2 in 1;3 xor 1 2;4 less 0 3;out 4");
        x.inputs(2, 6);
        due("good(0)", x.good(0), 1);
        due("good(1)", x.good(1), 0);
        x.inputs(2, 0);
        due("good(0) of rows 1, 2, 3", x.good(0), 3);
        due("good(1) of rows 1, 2, 3", x.good(1), 1);
        x.inputs(2, 15);
        due("good(0) of none", x.good(0), 0);
        due("good(1) of none", x.good(1), NONE);
        due("good(2)", x.good(2), OUTSIDE);
        due("good(-1)", x.good(-1), OUTSIDE);
        promise = 16;
        due("together(-1) that cannot be", x.together(-1), NONE);
        due("together(0) that cannot be", x.together(0), NONE);
        due("together(-2)", x.together(-2), OUTSIDE);
        due("together(min)", x.together(Integer.MIN_VALUE), OUTSIDE);
        due("together(max)", x.together(Integer.MAX_VALUE), NONE);
        // Row r is right for input r alone.
        DrawsOut y = with("0 draw 4;1 in 0;2 in 1;2 add 2 2;1 add 1 2;2 xor 0 1;out 2");
        y.inputs(2, 0);
        due("together(-1)", y.together(-1), 4);
        for (int i = 0; i < 4; i++) {
            due("together(" + i + ")", y.together(i), i);
        }
        due("together(4)", y.together(4), NONE);
        y.inputs(2, 15);
        // Row r is right for all inputs but r.
        due("together(-1) of all but one", y.together(-1), 2);
        due("together(0) of all but one", y.together(0), 0);
        due("together(1) of all but one", y.together(1), 1);
        due("together(2) of all but one", y.together(2), NONE);
        DrawsOut all = with("0 draw 8;1 draw 4;2 is 4;0 add 0 0;0 add 0 0;0 add 0 1;out 0");
        all.inputs(5, 0);
        due("together(-1) of one row", all.together(-1), 1);
        due("together(0) of one row", all.together(0), 0);
    }

    private static void runsMore() {
        promise = 17;
        // Right by 3 of 4 rows: 3/4, 27/32, 918/1024, 15228/16384.
        DrawsOut x = with("0 draw 4;1 is 3;2 less 0 1;out 2");
        x.inputs(0, 1);
        due("again(3, 4)", x.again(3, 4), 1);
        due("again(76, 100)", x.again(76, 100), 3);
        due("again(27, 32)", x.again(27, 32), 3);
        due("again(85, 100)", x.again(85, 100), 5);
        due("again(89, 100)", x.again(89, 100), 5);
        due("again(90, 100)", x.again(90, 100), 7);
        due("again(92, 100)", x.again(92, 100), 7);
        due("again(93, 100)", x.again(93, 100), NONE);
        due("again(0, 100)", x.again(0, 100), 1);
        due("again(100, 1)", x.again(100, 1), NONE);
        int[][] bad = {{1, 0}, {-1, 1}, {101, 1}, {1, 101}, {1, -1}, {0, 0}, {Integer.MIN_VALUE, 1}, {1, Integer.MIN_VALUE},
            {Integer.MAX_VALUE, 1}, {1, Integer.MAX_VALUE}};
        for (int[] b : bad) {
            promise = 17;
            due("again(" + b[0] + ", " + b[1] + ")", x.again(b[0], b[1]), OUTSIDE);
            promise = 18;
            due("cap(" + b[0] + ", " + b[1] + ")", x.cap(b[0], b[1]), OUTSIDE);
        }
        // None right: 1/4, 1/16, 1/64, 1/256 ..
        due("cap(1, 4)", x.cap(1, 4), 1);
        due("cap(24, 100)", x.cap(24, 100), 2);
        due("cap(1, 16)", x.cap(1, 16), 2);
        due("cap(6, 100)", x.cap(6, 100), 3);
        due("cap(1, 64)", x.cap(1, 64), 3);
        due("cap(1, 65)", x.cap(1, 65), 4);
        due("cap(0, 1)", x.cap(0, 1), NONE);
        due("cap(100, 100)", x.cap(100, 100), 1);
        due("cap(100, 1)", x.cap(100, 1), 1);
        // Half right by 64 rows: 2 to the 42 is within.
        DrawsOut y = with("0 draw 8;1 draw 8;2 is 4;3 less 0 2;out 3");
        due("cap(1, 100) of 1/2", y.cap(1, 100), 7);
        due("cap(1, 2) of 1/2", y.cap(1, 2), 1);
        promise = 17;
        due("again(1, 2) of 1/2", y.again(1, 2), 1);
        due("again(51, 100) of 1/2", y.again(51, 100), NONE);
        // The worst of all inputs counts: one is always right, one by a quarter.
        y.inputs(1, 0);
        DrawsOut z = with("0 draw 4;1 in 0;2 mul 0 1;out 2");
        z.inputs(1, 0);
        due("again(1, 4)", z.again(1, 4), 1);
        due("again(26, 100)", z.again(26, 100), NONE);
        promise = 18;
        due("cap(1, 2) of 1 and 1/4", z.cap(1, 2), 3);
        DrawsOut never = new DrawsOut();
        never.inputs(0, 1);
        due("cap(99, 100) never right", never.cap(99, 100), NONE);
        due("cap(1, 1) never right", never.cap(1, 1), 1);
    }

    private static void knotsEdgesCords() {
        promise = 19;
        DrawsOut x = new DrawsOut();
        x.edge(0, 1, 1);
        x.cord(3);
        x.heap(1);
        due("knots(0)", x.knots(0), OUTSIDE);
        due("knots(9)", x.knots(9), OUTSIDE);
        due("nothing changed", x.count(5) + x.count(6) + x.count(7), 3);
        due("knots(8)", x.knots(8), 1);
        due("no edges", x.count(5), 0);
        due("no cords", x.count(6), 0);
        due("no heap", x.count(7), 0);
        due("cut is 0", x.measure(0, 1), 0);
        due("knots(1)", x.knots(1), 1);
        due("no two knots", x.cord(1), OUTSIDE);
        due("no other knot", x.edge(0, 1, 1), UNKNOWN);
        for (int far : FAR) {
            due("knots(" + far + ")", x.knots(far), OUTSIDE);
        }
        promise = 20;
        x.knots(3);
        due("edge(0, 3, 1)", x.edge(0, 3, 1), UNKNOWN);
        due("edge(-1, 0, 1)", x.edge(-1, 0, 1), UNKNOWN);
        due("edge(2, 2, 1)", x.edge(2, 2, 1), UNKNOWN);
        due("UNKNOWN is ahead", x.edge(0, 3, 0), UNKNOWN);
        due("edge(0, 1, 0)", x.edge(0, 1, 0), OUTSIDE);
        due("edge(0, 1, 100)", x.edge(0, 1, 100), OUTSIDE);
        for (int i = 1; i <= 16; i++) {
            due("edge " + i, x.edge(i % 3, (i + 1) % 3, i == 1 ? 1 : 99), i);
        }
        due("edge 17", x.edge(0, 1, 1), FULL);
        due("OUTSIDE is ahead of FULL", x.edge(0, 1, 100), OUTSIDE);
        due("UNKNOWN is ahead of FULL", x.edge(0, 7, 100), UNKNOWN);
        due("count(5)", x.count(5), 16);
        promise = 21;
        due("cord(0)", x.cord(0), OUTSIDE);
        due("cord(4)", x.cord(4), OUTSIDE);
        due("cord(8 + 1)", x.cord(9), OUTSIDE);
        due("cord(-1)", x.cord(-1), OUTSIDE);
        for (int i = 1; i <= 10; i++) {
            due("cord " + i, x.cord(i % 2 == 0 ? 7 : 5), i);
        }
        due("cord 11", x.cord(3), FULL);
        due("OUTSIDE is ahead of FULL", x.cord(1), OUTSIDE);
        due("count(6)", x.count(6), 10);
    }

    /** Knots 0 .. 4; weights 3, 5, 7, 11, 2; cords 0 1 2, 2 3 4, 0 4. */
    private static DrawsOut ring() {
        DrawsOut x = new DrawsOut();
        x.knots(5);
        x.edge(0, 1, 3);
        x.edge(1, 2, 5);
        x.edge(2, 3, 7);
        x.edge(3, 4, 11);
        x.edge(4, 0, 2);
        x.cord(7);
        x.cord(28);
        x.cord(17);
        return x;
    }

    private static void measures() {
        DrawsOut x = ring();
        promise = 22;
        due("cut of none", x.measure(0, 0), 0);
        due("cut of all", x.measure(0, 31), 0);
        due("cut of 1", x.measure(0, 2), 8);
        due("cut of 0 and 2", x.measure(0, 5), 17);
        due("one of none", x.measure(1, 0), 3);
        due("one of all", x.measure(1, 31), 3);
        due("one of 0 1 2", x.measure(1, 7), 1);
        due("one of 0 1 3", x.measure(1, 11), 0);
        due("measure(2, 0)", x.measure(2, 0), OUTSIDE);
        due("measure(-1, 0)", x.measure(-1, 0), OUTSIDE);
        due("measure(0, 32)", x.measure(0, 32), OUTSIDE);
        due("measure(1, -1)", x.measure(1, -1), OUTSIDE);
        promise = 23;
        part("cut, none fixed", x.expect(0, 0, 0, 0), x.expect(0, 0, 0, 1), 14, 1);
        part("cut, 0 1 fixed apart", x.expect(0, 3, 1, 0), x.expect(0, 3, 1, 1), 31, 2);
        part("cut, 0 1 fixed together", x.expect(0, 3, 3, 0), x.expect(0, 3, 3, 1), 25, 2);
        part("cut, all fixed", x.expect(0, 31, 5, 0), x.expect(0, 31, 5, 1), 17, 1);
        part("one, none fixed", x.expect(1, 0, 0, 0), x.expect(1, 0, 0, 1), 1, 1);
        part("one, 0 fixed", x.expect(1, 1, 1, 0), x.expect(1, 1, 1, 1), 1, 1);
        part("one, 0 1 on 1", x.expect(1, 3, 3, 0), x.expect(1, 3, 3, 1), 5, 4);
        part("one, 0 1 on 0", x.expect(1, 3, 0, 0), x.expect(1, 3, 0, 1), 5, 4);
        part("one, 0 1 apart", x.expect(1, 3, 2, 0), x.expect(1, 3, 2, 1), 3, 4);
        part("one, all fixed", x.expect(1, 31, 7, 0), x.expect(1, 31, 7, 1), 1, 1);
        due("sides of others", x.expect(0, 1, 2, 0), OUTSIDE);
        due("fixed of no knots", x.expect(0, 32, 0, 0), OUTSIDE);
        due("fixed and sides of no knots", x.expect(0, 32, 32, 0), OUTSIDE);
        due("fixed -1", x.expect(0, -1, 0, 0), OUTSIDE);
        due("what 2", x.expect(2, 0, 0, 0), OUTSIDE);
        due("what -1", x.expect(-1, 0, 0, 0), OUTSIDE);
        due("part 2", x.expect(0, 0, 0, 2), OUTSIDE);
        due("part -1", x.expect(0, 0, 0, -1), OUTSIDE);
        DrawsOut y = new DrawsOut();
        y.knots(8);
        y.cord(255);
        part("one of eight", y.expect(1, 0, 0, 0), y.expect(1, 0, 0, 1), 1, 128);
        part("one of eight, one fixed", y.expect(1, 128, 0, 0), y.expect(1, 128, 0, 1), 1, 128);
        part("cut without edges", y.expect(0, 0, 0, 0), y.expect(0, 0, 0, 1), 0, 1);
    }

    private static void sidesChosen() {
        DrawsOut x = ring();
        promise = 24;
        // 1 against 0, 2 against 1, 3 against 2, 4 against 3.
        due("byMeans(0)", x.byMeans(0), 10);
        // 0 and 2 are alike on both sides; 1 goes away from 0, 3 from 2, 4 from 0.
        due("byMeans(1)", x.byMeans(1), 26);
        due("byMeans(2)", x.byMeans(2), OUTSIDE);
        due("byMeans(-1)", x.byMeans(-1), OUTSIDE);
        promise = 25;
        // All but the least weight, 2, with knot 0 on side 0.
        due("best(0)", x.best(0), 10);
        due("best(1) of several the least", x.best(1), 5);
        due("best(2)", x.best(2), OUTSIDE);
        due("best(-1)", x.best(-1), OUTSIDE);
        x.knots(6);
        due("best(0) without edges", x.best(0), 0);
        due("best(1) without cords", x.best(1), 0);
        promise = 24;
        due("byMeans(0) without edges", x.byMeans(0), 0);
        due("byMeans(1) without cords", x.byMeans(1), 0);
        promise = 25;
        x.knots(8);
        x.edge(7, 6, 9);
        due("best(0) of an edge", x.best(0), 64);
        promise = 24;
        due("byMeans(0) of an edge", x.byMeans(0), 128);
    }

    private static void heaps() {
        DrawsOut x = ring();
        promise = 28;
        due("of(0) of none", x.of(0), NONE);
        due("of(1) of none", x.of(1), NONE);
        due("of(2) of none", x.of(2), OUTSIDE);
        promise = 29;
        due("even(1) of none", x.even(1), NOT);
        due("even(4) of none", x.even(4), OUTSIDE);
        promise = 30;
        due("error(1, 0) of none", x.error(1, 0), NOT);
        due("error(9, 0) of none", x.error(9, 0), OUTSIDE);
        due("error(1, 2) of none", x.error(1, 2), OUTSIDE);
        promise = 26;
        due("heap(32)", x.heap(32), OUTSIDE);
        due("heap(-1)", x.heap(-1), OUTSIDE);
        due("heap(0)", x.heap(0), 1);
        due("heap(31)", x.heap(31), 2);
        due("heap(21)", x.heap(21), 3);
        due("heap(10)", x.heap(10), 4);
        due("heap(10) again", x.heap(10), 5);
        promise = 28;
        due("of(0): 21 and 10 are alike, 21 is first", x.of(0), 21);
        due("of(1)", x.of(1), 21);
        due("of(-1)", x.of(-1), OUTSIDE);
        promise = 29;
        due("even(1) of 5", x.even(1), 0);
        promise = 30;
        part("error 1 of 5", x.error(1, 0), x.error(1, 1), 1, 5);
        promise = 26;
        for (int i = 6; i <= 32; i++) {
            due("heap " + i, x.heap(i % 32), i);
        }
        due("heap 33", x.heap(0), FULL);
        due("OUTSIDE is ahead of FULL", x.heap(32), OUTSIDE);
        promise = 27;
        due("made(1)", x.made(1), OUTSIDE);
        due("made(4)", x.made(4), OUTSIDE);
        int[] pairs = {2, 4, 4, 8, 8, 8, 8, 16};
        for (int n = 1; n <= 8; n++) {
            x.knots(n);
            promise = 27;
            due("made(2) of " + n, x.made(2), pairs[n - 1]);
            due("count(7)", x.count(7), pairs[n - 1]);
            promise = 29;
            for (int t = 1; t <= 2; t++) {
                due("even(" + t + ") by pairs of " + n, x.even(t), t <= n ? 1 : OUTSIDE);
            }
            promise = 30;
            part("error 2 by pairs of " + n, x.error(2, 0), x.error(2, 1), 0, 1);
            part("error 8 by pairs of " + n, x.error(8, 0), x.error(8, 1), n < 3 ? 0 : 1, 1);
            promise = 27;
            due("made(3) of " + n, x.made(3), 2 * pairs[n - 1]);
            promise = 29;
            due("even(3) by threes of " + n, x.even(3), n >= 3 ? 1 : OUTSIDE);
            due("even(0)", x.even(0), OUTSIDE);
            due("even(4)", x.even(4), OUTSIDE);
            promise = 30;
            part("error 3 by threes of " + n, x.error(3, 0), x.error(3, 1), 0, 1);
            due("error(0, 0)", x.error(0, 0), OUTSIDE);
            due("error(9, 0)", x.error(9, 0), OUTSIDE);
            due("error(1, -1)", x.error(1, -1), OUTSIDE);
        }
        // Eight knots by pairs: 1 xor 2 is 3, so knots 0 1 2 are never odd together.
        x.made(2);
        promise = 29;
        due("even(3) by pairs of 8", x.even(3), 0);
        promise = 30;
        part("error 3 by pairs of 8", x.error(3, 0), x.error(3, 1), 1, 1);
        promise = 27;
        // Side of knot 0 is bit 0 of s: the second of the heap has knots 0, 2, 4, 6 on side 1.
        x.edge(0, 1, 5);
        x.edge(2, 1, 5);
        x.edge(4, 1, 5);
        x.edge(6, 3, 5);
        promise = 28;
        due("of(0) by pairs of 8", x.of(0), 0b01010101);
        x.knots(2);
        x.made(3);
        promise = 27;
        x.edge(0, 1, 5);
        // s with 3 and 5: s 2 has knot 0 alone on side 1, s 4 knot 1 alone; s 1 both.
        due("of(0) by threes of 2", x.of(0), 1);
        DrawsOut y = new DrawsOut();
        y.knots(2);
        for (int sides : new int[] {0, 3, 1, 2, 2, 1, 3, 0}) {
            y.heap(sides);
        }
        promise = 29;
        due("even(2) of each twice", y.even(2), 1);
        y.heap(0);
        due("even(2) of nine", y.even(2), 0);
        y.knots(2);
        y.heap(0);
        y.heap(3);
        due("even(1) of both alike", y.even(1), 1);
        due("even(2) of both alike", y.even(2), 0);
        promise = 30;
        part("error 1 of both alike", y.error(1, 0), y.error(1, 1), 0, 1);
        part("error 2 of both alike", y.error(2, 0), y.error(2, 1), 1, 1);
        y.heap(1);
        y.heap(1);
        y.heap(2);
        y.heap(0);
        // 0 3 1 1 2 0: knot 0 odd 3 of 6, knot 1 odd 2 of 6, both together odd 3 of 6.
        part("error 1 of six", y.error(1, 0), y.error(1, 1), 1, 3);
        part("error 2 of six", y.error(2, 0), y.error(2, 1), 1, 3);
    }

    private static void leastHeaps() {
        promise = 31;
        DrawsOut x = new DrawsOut();
        due("least(1, 1, 0, 1)", x.least(1, 1, 0, 1), 3);
        due("least(1, 4, 1, 1)", x.least(1, 4, 1, 1), 1);
        due("least(1, 4, 99, 100)", x.least(1, 4, 99, 100), 3);
        due("least(2, 1, 0, 1)", x.least(2, 1, 0, 1), 6);
        due("least(2, 2, 1, 3)", x.least(2, 2, 1, 3), 7);
        due("least(2, 2, 33, 100)", x.least(2, 2, 33, 100), 15);
        due("least(2, 4, 0, 100)", x.least(2, 4, 0, 100), 15);
        due("least(3, 2, 0, 1)", x.least(3, 2, 0, 1), 0b01101001);
        due("least(4, 4, 0, 1)", x.least(4, 4, 0, 1), 65535);
        due("least(4, 4, 1, 15)", x.least(4, 4, 1, 15), 32767);
        due("least(4, 1, 0, 1)", x.least(4, 1, 0, 1), 1 << 7 | 1 << 8);
        due("least(4, 4, 100, 1)", x.least(4, 4, 100, 1), 1);
        x.knots(1);
        due("however many knots there are", x.least(4, 2, 0, 1), 15555);
        int[][] bad = {{0, 1, 0, 1}, {5, 1, 0, 1}, {1, 0, 0, 1}, {1, 5, 0, 1}, {1, 1, -1, 1}, {1, 1, 101, 1}, {1, 1, 0, 0},
            {1, 1, 0, 101}, {Integer.MIN_VALUE, 1, 0, 1}, {1, Integer.MAX_VALUE, 0, 1}, {1, 1, Integer.MAX_VALUE, 1},
            {1, 1, 1, Integer.MIN_VALUE}};
        for (int[] b : bad) {
            due("least(" + Arrays.toString(b) + ")", x.least(b[0], b[1], b[2], b[3]), OUTSIDE);
        }
    }

    private static void walking() {
        promise = 32;
        DrawsOut x = new DrawsOut();
        x.edge(0, 1, 1);
        x.edge(0, 1, 50);
        x.edge(1, 2, 1);
        due("walks of no step", x.walks(15, 0), 4);
        due("walks of no step of two", x.walks(9, 0), 2);
        due("walks of no knots", x.walks(0, 0), 0);
        due("walks of a step, each edge a way", x.walks(15, 1), 6);
        due("walks of two steps", x.walks(15, 2), 4 + 2 + 4 + 1 + 2 + 1);
        due("walks that stay in 0 1", x.walks(3, 2), 8);
        due("walks that stay in 1 2", x.walks(6, 8), 2);
        due("walks(15, 9)", x.walks(15, 9), OUTSIDE);
        due("walks(15, -1)", x.walks(15, -1), OUTSIDE);
        due("walks(16, 1)", x.walks(16, 1), OUTSIDE);
        due("walks(-1, 1)", x.walks(-1, 1), OUTSIDE);
        x.knots(2);
        for (int i = 0; i < 16; i++) {
            x.edge(i % 2, 1 - i % 2, 1);
        }
        due("walks of seven steps", x.walks(3, 7), 2 * 268435456);
        due("walks at most", x.walks(3, 8), 999999999);
    }

    private static void sums() {
        promise = 33;
        DrawsOut x = new DrawsOut();
        due("term of sum 2", x.term(2, 1, 0, 0, 0), UNKNOWN);
        due("term of sum -1", x.term(-1, 1, 0, 0, 0), UNKNOWN);
        due("UNKNOWN is ahead", x.term(2, 10, 4, 0, 0), UNKNOWN);
        int[][] bad = {{10, 0, 0, 0}, {-10, 0, 0, 0}, {1, 4, 0, 0}, {1, -1, 0, 0}, {1, 0, 4, 0}, {1, 0, -1, 0}, {1, 0, 0, 4},
            {1, 0, 0, -1}, {1, Integer.MIN_VALUE, 0, 0}, {Integer.MAX_VALUE, 0, 0, 0}};
        for (int[] b : bad) {
            due("term(0, " + Arrays.toString(b) + ")", x.term(0, b[0], b[1], b[2], b[3]), OUTSIDE);
        }
        due("term 1", x.term(0, 9, 3, 3, 3), 1);
        due("term 2", x.term(0, -9, 3, 2, 1), 2);
        due("term 3", x.term(0, 0, 0, 0, 0), 3);
        promise = 34;
        due("value(0, 1, 1, 1)", x.value(0, 1, 1, 1), 0);
        due("value(0, 2, 3, 5)", x.value(0, 2, 3, 5), 9L * 8 * 27 * 125 - 9L * 8 * 9 * 5);
        due("value(0, 11, 11, 11)", x.value(0, 11, 11, 11), 9L * 2357947691L - 9L * 1771561L);
        due("value(1, 11, 11, 11)", x.value(1, 11, 11, 11), 0);
        due("value(0, 0, 0, 0)", x.value(0, 0, 0, 0), 0);
        int[][] places = {{12, 0, 0}, {0, 12, 0}, {0, 0, 12}, {-1, 0, 0}, {0, -1, 0}, {0, 0, -1}};
        for (int[] p : places) {
            due("value(0, " + Arrays.toString(p) + ")", x.value(0, p[0], p[1], p[2]), Long.MIN_VALUE);
        }
        due("value of sum 2", x.value(2, 0, 0, 0), Long.MIN_VALUE);
        due("value of sum -1", x.value(-1, 0, 0, 0), Long.MIN_VALUE);
        promise = 35;
        due("degree(0)", x.degree(0), 9);
        due("degree(1)", x.degree(1), 0);
        due("degree(2)", x.degree(2), UNKNOWN);
        due("degree(-1)", x.degree(-1), UNKNOWN);
        promise = 33;
        due("term 4", x.term(0, -5, 3, 3, 3), 4);
        due("term 5", x.term(0, -4, 3, 3, 3), 5);
        promise = 35;
        due("degree where the greatest falls out", x.degree(0), 6);
        promise = 33;
        due("term 6", x.term(0, 7, 0, 0, 0), 6);
        due("term 7", x.term(0, 1, 0, 0, 0), FULL);
        due("OUTSIDE is ahead of FULL", x.term(0, 10, 0, 0, 0), OUTSIDE);
        promise = 34;
        due("0 so often as 0 is 1", x.value(0, 0, 0, 0), 7);
        promise = 36;
        DrawsOut y = new DrawsOut();
        due("same(1, 0) of none", y.same(1, 0), 1);
        due("same(12, 1) of none", y.same(12, 1), NONE);
        y.term(0, 1, 1, 0, 0);
        y.term(0, 1, 0, 1, 0);
        y.term(1, 1, 0, 0, 1);
        // x + y = z below 3: six points.
        due("same(3, 0)", y.same(3, 0), 6);
        due("same(3, 1)", y.same(3, 1), 1);
        due("same(1, 1)", y.same(1, 1), NONE);
        y.term(0, -1, 0, 0, 1);
        y.term(1, -1, 0, 0, 1);
        // x + y - z = 0, as before, moved over.
        due("same(3, 0) moved over", y.same(3, 0), 6);
        y.term(0, 1, 0, 0, 1);
        // x + y = 0.
        due("same(12, 0)", y.same(12, 0), 12);
        due("same(12, 1)", y.same(12, 1), 12);
        y.term(0, -1, 0, 1, 0);
        // x = 0.
        due("same(12, 0) of x", y.same(12, 0), 144);
        due("same(12, 1) of x", y.same(12, 1), 144);
        due("same(0, 0)", y.same(0, 0), OUTSIDE);
        due("same(13, 0)", y.same(13, 0), OUTSIDE);
        due("same(1, 2)", y.same(1, 2), OUTSIDE);
        due("same(1, -1)", y.same(1, -1), OUTSIDE);
    }

    private static void weakDraws() {
        promise = 37;
        DrawsOut x = new DrawsOut();
        // 10 01 11 00 10: 1, 0, 1.
        long bits = 0b01_00_11_10_01;
        due("pressed of 10", x.pressed(bits, 10, -1), 3);
        due("pressed 0", x.pressed(bits, 10, 0), 1);
        due("pressed 1", x.pressed(bits, 10, 1), 0);
        due("pressed 2", x.pressed(bits, 10, 2), 1);
        due("pressed 3", x.pressed(bits, 10, 3), NONE);
        due("pressed of 9", x.pressed(bits, 9, -1), 2);
        due("pressed of 0", x.pressed(-1, 0, -1), 0);
        due("pressed of 32", x.pressed(0x5555555555555555L, 32, -1), 16);
        due("pressed of 32, the last", x.pressed(0x5555555555555555L, 32, 15), 1);
        due("pressed of 32, none more", x.pressed(0x5555555555555555L, 32, 16), NONE);
        due("pressed of 32 with the highest bits", x.pressed(0xaaaaaaaaaaaaaaaaL, 32, 15), 0);
        due("pressed of 33", x.pressed(0, 33, -1), OUTSIDE);
        due("pressed of -1", x.pressed(0, -1, -1), OUTSIDE);
        due("pressed -2", x.pressed(0, 1, -2), OUTSIDE);
        due("pressed max", x.pressed(bits, 10, Integer.MAX_VALUE), NONE);
        promise = 38;
        part("mixed of all", x.mixed(65535, 65535, 0), x.mixed(65535, 65535, 1), 1, 16);
        part("mixed of one row", x.mixed(1 << 15, 1 << 15, 0), x.mixed(1 << 15, 1 << 15, 1), 1, 1);
        part("mixed of 1 and 0 1", x.mixed(2, 3, 0), x.mixed(2, 3, 1), 0, 1);
        // Rows 1, 2, 3 with rows 1, 2: odd by 1 1, 2 2, 3 1, 3 2: 4 of 6.
        part("mixed of 1 2 3 and 1 2", x.mixed(14, 6, 0), x.mixed(14, 6, 1), 1, 3);
        // Row 15 with rows 0, 1, 3: odd by one of three.
        part("mixed of 15 and 0 1 3", x.mixed(32768, 11, 0), x.mixed(32768, 11, 1), 1, 3);
        int[][] bad = {{0, 1, 0}, {1, 0, 0}, {65536, 1, 0}, {1, 65536, 0}, {-1, 1, 0}, {1, -1, 0}, {1, 1, 2}, {1, 1, -1}};
        for (int[] b : bad) {
            due("mixed(" + Arrays.toString(b) + ")", x.mixed(b[0], b[1], b[2]), OUTSIDE);
        }
    }

    private static void counts() {
        promise = 39;
        DrawsOut x = with(GUESS);
        put(x, "abc");
        x.inputs(2, 0);
        x.edge(0, 1, 1);
        x.edge(0, 1, 1);
        x.cord(3);
        x.made(2);
        int[] counts = {3, 8, 2, 6, 4, 2, 1, 8};
        for (int what = 0; what < counts.length; what++) {
            due("count(" + what + ")", x.count(what), counts[what]);
        }
        due("count(8)", x.count(8), OUTSIDE);
        due("count(-1)", x.count(-1), OUTSIDE);
    }

    /** Every count, and some answers that hang on each part of the state. */
    private static long[] state(DrawsOut x) {
        long[] state = new long[32];
        for (int what = 0; what < 8; what++) {
            state[what] = x.count(what);
        }
        for (int input = 0; input < 4; input++) {
            state[8 + input] = x.odds(input, 0);
        }
        state[12] = x.fault();
        state[13] = x.draw(0);
        state[14] = x.measure(0, 5);
        state[15] = x.measure(1, 3);
        state[16] = x.of(0);
        state[17] = x.error(3, 0);
        state[18] = x.value(0, 5, 6, 7);
        state[19] = x.value(1, 5, 6, 7);
        state[20] = x.walks(15, 3);
        state[21] = x.best(0);
        return state;
    }

    private static void refusedCallsChangeNothing() {
        promise = 0;
        DrawsOut x = with(GUESS);
        put(x, "0 is 1;x");
        x.inputs(2, 5);
        x.edge(0, 1, 3);
        x.edge(1, 2, 4);
        x.cord(7);
        x.heap(5);
        x.heap(3);
        x.term(0, 3, 1, 1, 1);
        x.term(1, 4, 2, 0, 1);
        long[] before = state(x);
        x.write(-1, 9);
        x.program();
        x.inputs(6, 1);
        x.knots(0);
        x.edge(0, 1, 100);
        x.edge(0, 0, 1);
        x.cord(1);
        x.heap(16);
        x.made(4);
        x.term(0, 1, 4, 0, 0);
        x.term(1, 10, 0, 0, 0);
        x.term(2, 1, 0, 0, 0);
        x.count(9);
        x.kept(2);
        x.together(-2);
        x.expect(0, 16, 16, 0);
        due("the state after refused calls is as before", Arrays.equals(before, state(x)) ? 1 : 0, 1);
    }
}
