import java.util.List;

/** Promises 1 to 9 at their bounds: a new object, texts and their faults, programs, inputs, runs. */
public final class BoundaryPrograms {
    private static final int NONE = Bench.NONE, UNKNOWN = Bench.UNKNOWN, OUTSIDE = Bench.OUTSIDE, NOT = Bench.NOT,
        FULL = Bench.FULL, LEAST = Bench.LEAST, MOST = Bench.MOST;
    private static final long EIGHT_BLANKS = 0x2020202020202020L;

    public static void main(String[] args) {
        newObject();
        writeNumber();
        writeOrder();
        writeRoom();
        erase();
        faultAtNumbers();
        faultAtWords();
        faultAtAnyByte();
        faultAtTheEnd();
        faultAtLines();
        faultAtRows();
        faultInLongTexts();
        program();
        programsOneAfterTheOther();
        draw();
        inputs();
        runBounds();
        runCells();
        runOuts();
        right();
        Bench.finish(1, 9, 1, 3, 4);
    }

    private static void due(String call, long got, long want) {
        Bench.due(call, got, want);
    }

    private static void newObject() {
        Bench.promise(1);
        DrawsOut x = new DrawsOut();
        int[] counts = {0, 0, 0, 1, 1, 0, 0, 0};
        for (int what = 0; what < counts.length; what++) {
            due("count(" + what + ")", x.count(what), counts[what]);
        }
        due("fault() of no text", x.fault(), 0);
        due("draw(0) of no program", x.draw(0), UNKNOWN);
        due("run(0, 0): width 0, no lines", x.run(0, 0), 0);
        due("run(1, 0): width 0", x.run(1, 0), UNKNOWN);
        due("run(0, 1): one row", x.run(0, 1), UNKNOWN);
        due("right(0, 0): truth 0", x.right(0, 0), 1);
        due("of(0): no heap", x.of(0), NONE);
        due("measure(0, 15): knots 0 .. 3", x.measure(0, 15), 0);
        due("measure(0, 16): no knot 4", x.measure(0, 16), OUTSIDE);
        due("edge(3, 0, 1): knot 3", x.edge(3, 0, 1), 1);
        due("edge(4, 0, 1): no knot 4", x.edge(4, 0, 1), UNKNOWN);
        due("even(3): no heap", x.even(3), NOT);
        due("value(0): no terms", x.value(0, 11, 11, 11), 0);
        due("value(1): no terms", x.value(1, 11, 11, 11), 0);
        due("term(0): the first", x.term(0, 1, 0, 0, 0), 1);
        due("term(1): the first", x.term(1, 1, 0, 0, 0), 1);
        Bench.made(Bench.FULL_STATE);
        due("a full object leaves a new one empty", new DrawsOut().count(0), 0);
        Bench.alike("knots(4) of a new object", Bench.NEW, Bench.knots(4));
        Bench.alike("inputs(0, 0) of a new object", Bench.NEW, Bench.inputs(0, 0));
        lastCalls();
        due("NONE", DrawsOut.NONE, -1);
        due("UNKNOWN", DrawsOut.UNKNOWN, -2);
        due("OUTSIDE", DrawsOut.OUTSIDE, -3);
        due("NOT", DrawsOut.NOT, -4);
        due("FULL", DrawsOut.FULL, -5);
    }

    /** 512 calls of one object, of which the last four still tell what the others did. */
    private static void lastCalls() {
        DrawsOut x = new DrawsOut();
        for (int i = 0; i < 127; i++) {
            x.knots(8);
            x.edge(0, 7, 99);
            x.cord(255);
            x.made(3);
        }
        due("call 509", x.count(5), 1);
        due("call 510", x.count(6), 1);
        due("call 511", x.count(7), 32);
        due("call 512", x.measure(0, 1), 99);
    }

    private static void writeNumber() {
        Bench.promise(2);
        for (int n : new int[] {LEAST, -8, -1, 0, 9, 10, 16, 64, 200, 201, 256, 257, MOST}) {
            Bench.refusedAlways("write(.., " + n + ")", x -> x.write(EIGHT_BLANKS, n), OUTSIDE);
        }
        for (int n = 1; n <= 8; n++) {
            int many = n;
            Bench.taken(Bench.NEW, "write(.., " + n + ")", x -> x.write(EIGHT_BLANKS, many), n);
            Bench.taken(Bench.SOME, "write(.., " + n + ") more", x -> x.write(EIGHT_BLANKS, many), Bench.SOME_TEXT.length() + n);
        }
    }

    /** A text of blanks but for one byte has its fault there, or at the end if that byte is not taken. */
    private static void writeOrder() {
        Bench.promise(2);
        for (int place = 0; place < 8; place++) {
            long bytes = EIGHT_BLANKS ^ (long) (' ' ^ 'z') << 8 * place;
            for (int n = 1; n <= 8; n++) {
                DrawsOut x = new DrawsOut();
                x.write(bytes, n);
                due("fault() of " + n + " bytes, z is byte " + place, x.fault(), Math.min(place, n));
            }
        }
        for (int b = 0; b < 256; b++) {
            DrawsOut x = new DrawsOut();
            due("write of byte " + b, x.write(EIGHT_BLANKS & ~(255L << 56) | (long) b << 56, 8), 8);
            boolean couldGoOn = b == ' ' || b >= '0' && b <= '7';
            due("fault() of byte " + b + " behind blanks", x.fault(), couldGoOn ? 8 : 7);
        }
        DrawsOut y = new DrawsOut();
        for (char c : "0 is 9;out 0".toCharArray()) {
            // The bytes above the first are not taken.
            y.write(-256L | c, 1);
        }
        due("fault() of a text written byte by byte", y.fault(), NONE);
        y.program();
        due("run(0, 0) of a text written byte by byte", y.run(0, 0), 9);
    }

    private static void writeRoom() {
        Bench.promise(2);
        for (int length = 191; length <= 200; length++) {
            List<Bench.Call> state = Bench.write(Bench.blanks(length));
            for (int n = 1; n <= 8; n++) {
                int many = n;
                String name = "write(.., " + n + ") behind " + length + " bytes";
                if (length + n <= 200) {
                    Bench.taken(state, name, x -> x.write(EIGHT_BLANKS, many), length + n);
                } else {
                    Bench.refused(state, name, x -> x.write(EIGHT_BLANKS, many), FULL);
                }
            }
        }
        for (int n = 1; n <= 8; n++) {
            int many = n;
            Bench.refused(Bench.FULL_STATE, "write(.., " + n + ") of a full object", x -> x.write(0, many), FULL);
        }
        for (int n : new int[] {0, 9, -1, MOST, LEAST}) {
            Bench.refused(Bench.FULL_STATE, "OUTSIDE is ahead of FULL: write(.., " + n + ")", x -> x.write(0, n), OUTSIDE);
        }
        DrawsOut x = Bench.made(Bench.write(Bench.blanks(198)));
        due("write(.., 3) behind 198", x.write(EIGHT_BLANKS, 3), FULL);
        due("write(.., 2) behind that", x.write(EIGHT_BLANKS, 2), 200);
        due("write(.., 1) behind that", x.write(EIGHT_BLANKS, 1), FULL);
        x.erase();
        due("write(.., 8) behind erase()", x.write(EIGHT_BLANKS, 8), 8);
        DrawsOut y = Bench.made(Bench.FULL_STATE);
        y.program();
        due("write(.., 8) behind program()", y.write(EIGHT_BLANKS, 8), 8);
    }

    private static void erase() {
        Bench.promise(3);
        Bench.asked(Bench.NEW, "erase() of no text", x -> x.erase(), 0);
        Bench.taken(Bench.write("z"), "erase() of a byte", x -> x.erase(), 1);
        Bench.taken(Bench.SOME, "erase() of some", x -> x.erase(), Bench.SOME_TEXT.length());
        Bench.taken(Bench.FULL_STATE, "erase() of 200 bytes", x -> x.erase(), 200);
        Bench.alike("erase() leaves the rest of some", Bench.SOME_BUT_TEXT, Bench.join(Bench.SOME, Bench.calls(x -> x.erase())));
        Bench.alike("erase() leaves the rest of a full object", Bench.FULL_BUT_TEXT,
            Bench.join(Bench.FULL_STATE, Bench.calls(x -> x.erase())));
        Bench.alike("erase() takes a fault away", Bench.SOME_BUT_TEXT, Bench.join(Bench.FAULTY, Bench.calls(x -> x.erase())));
        DrawsOut x = Bench.made(Bench.FULL_STATE);
        x.erase();
        due("erase() again", x.erase(), 0);
        due("count(0) behind it", x.count(0), 0);
        due("fault() behind it", x.fault(), 0);
    }

    private static void fault(String text, int want) {
        DrawsOut x = Bench.made(Bench.write(text));
        due("fault() of '" + text + "'", x.fault(), want);
        due("fault() again of '" + text + "'", x.fault(), want);
        due("count(0) behind fault() of '" + text + "'", x.count(0), text.length());
        due("program() of '" + text + "' is NOT: 1 if so,", x.program() == NOT ? 1 : 0, want == NONE ? 0 : 1);
        due("count(0) behind program() of '" + text + "'", x.count(0), want == NONE ? 0 : text.length());
    }

    /** Each place of a number, with its bounds: each number of 1 or 2 digits, three digits, none, a word. */
    private static void faultAtNumbers() {
        Bench.promise(4);
        numberAt("# draw 2", 0, 7);
        numberAt("0 draw #", 2, 8);
        numberAt("# in 0", 0, 7);
        numberAt("0 in #", 0, 4);
        numberAt("# is 0", 0, 7);
        numberAt("0 is #", 0, 15);
        for (String verb : new String[] {"add", "mul", "xor", "less"}) {
            numberAt("# " + verb + " 0 0", 0, 7);
            numberAt("0 " + verb + " # 0", 0, 7);
            numberAt("0 " + verb + " 0 #", 0, 7);
        }
        numberAt("# pick 0 0 0", 0, 7);
        numberAt("0 pick # 0 0", 0, 7);
        numberAt("0 pick 0 # 0", 0, 7);
        numberAt("0 pick 0 0 #", 0, 7);
        numberAt("out #", 0, 7);
    }

    private static void numberAt(String line, int low, int high) {
        for (String form : new String[] {line, "7 is 15;" + line, line + ";out 0"}) {
            int place = form.indexOf('#');
            for (int number = 0; number <= 99; number++) {
                int want = number >= low && number <= high ? NONE : place;
                if (number < 10) {
                    fault(form.replace("#", "" + number), want);
                    fault(form.replace("#", "0" + number), want);
                    fault(form.replace("#", "00" + number), place);
                } else {
                    fault(form.replace("#", "" + number), want);
                }
            }
            fault(form.replace("#", "100"), place);
            fault(form.replace("#", "256"), place);
            fault(form.replace("#", "4294967296"), place);
            fault(form.replace("#", "a"), place);
            fault(form.replace("#", "in"), place);
            fault(form.replace("#", ";"), place);
            fault(form.replace("#", "-1"), place);
            fault(form.substring(0, place), place);
        }
    }

    private static void faultAtWords() {
        Bench.promise(4);
        String[] lines = {"0 draw 2", "0 in 0", "0 is 0", "0 add 0 0", "0 mul 0 0", "0 xor 0 0", "0 less 0 0", "0 pick 0 0 0"};
        for (String line : lines) {
            String verb = line.split(" ")[1];
            fault(line, NONE);
            fault(line.substring(2), 0);
            fault(line.replace(verb, verb + "s"), 2);
            fault(line.replace(verb, "x" + verb), 2);
            fault(line.replace(verb, verb.substring(1)), 2);
            fault(line.replace(verb, verb.substring(0, verb.length() - 1)), 2);
            fault(line.replace(verb, verb + verb), 2);
            fault(line.replace(verb, verb + " " + verb), 3 + verb.length());
            fault(line.replace(verb, verb.toUpperCase()), 2);
            for (int i = 0; i < verb.length(); i++) {
                // Another small letter in the place of each.
                fault(line.replace(verb, verb.substring(0, i) + "q" + verb.substring(i + 1)), 2);
            }
            fault(line.replace(verb, "out"), 2);
            fault(line.replace(verb, "0"), 2);
            fault(line.replace(verb, ";"), 2);
            fault(line.replace(" ", "  "), NONE);
            fault(line + " 0", line.length() + 1);
            fault(line + " out", line.length() + 1);
            fault(line.substring(0, line.lastIndexOf(' ')), line.lastIndexOf(' '));
            fault(line.substring(0, line.lastIndexOf(' ')) + ";out 0", line.lastIndexOf(' '));
        }
        fault("0draw2", NONE);
        fault("0in0", NONE);
        fault("0is0", NONE);
        // Two digits side by side are one number, so that the second is lacking; three are none.
        fault("0add00", 6);
        fault("0mul00", 6);
        fault("0xor00", 6);
        fault("0less00", 7);
        fault("0less0 0", NONE);
        fault("0pick000", 5);
        fault("0pick00 0", 9);
        fault("0pick0 0 0", NONE);
        fault("out 0", NONE);
        fault("out0", NONE);
        fault("0 out 0", 2);
        fault("Out 0", 0);
        fault("OUT 0", 0);
        fault("ou 0", 0);
        fault("outs 0", 0);
        fault("ut 0", 0);
        fault("qut 0", 0);
        fault("oqt 0", 0);
        fault("ouq 0", 0);
        fault("out 0 0", 6);
        fault("out out", 4);
        fault("out", 3);
        fault("out;", 3);
        // Small letters alone are letters: an A is a token of its own.
        fault("0 isA 1", 4);
        // Of several faults the first is told.
        fault("9 foo 77;;", 0);
        fault("0 foo 77;;", 2);
        fault("0 is 77;;", 5);
        fault("0 is 7;;", 7);
    }

    /** Each byte at the beginning, behind a word, behind a line and at the end of a text. */
    private static void faultAtAnyByte() {
        Bench.promise(4);
        for (int b = 0; b < 256; b++) {
            char c = (char) b;
            boolean digit = c >= '0' && c <= '9';
            boolean letter = c >= 'a' && c <= 'z';
            fault(c + "out 0", c == ' ' ? NONE : c >= '0' && c <= '7' ? 1 : 0);
            fault("0 is" + c + "1", c == ' ' || c == '0' || c == '1' ? NONE : letter ? 2 : 4);
            fault("0 is 1" + c + "out 0", c == ';' ? NONE : c == ' ' || c >= '0' && c <= '5' ? 7 : digit ? 5 : 6);
            fault("out 0" + c, c == ' ' || c >= '0' && c <= '7' ? NONE : c == ';' ? 6 : digit ? 4 : 5);
        }
    }

    private static void faultAtTheEnd() {
        Bench.promise(4);
        String text = "7 pick 1 2 3;out 7";
        int[] wants = {0, 1, 2, 2, 2, 2, 6, 7, 8, 9, 10, 11, NONE, 13, 13, 13, 16, 17, NONE};
        for (int length = 0; length < wants.length; length++) {
            fault(text.substring(0, length), wants[length]);
        }
        fault(" ", 1);
        fault(Bench.blanks(8), 8);
        fault(";", 0);
        fault(" ;out 0", 1);
        fault("out 0;", 6);
        fault("out 0; ", 7);
        fault("out 0;;out 0", 6);
        fault("out 0 ; out 0", NONE);
        fault("  out  0  ;  out  0  ", NONE);
    }

    private static void faultAtLines() {
        Bench.promise(4);
        fault("out 0", NONE);
        for (int many = 2; many <= 20; many++) {
            fault(Bench.lines("out 0", many), NONE);
        }
        String twenty = Bench.lines("out 0", 20);
        fault(twenty + ";", 119);
        fault(twenty + " ;", 120);
        fault(twenty + ";out 0", 119);
        fault(twenty + ";9", 119);
        fault(twenty + " out 0", 120);
        fault(twenty + "   ", NONE);
        fault(Bench.lines("out 0", 19) + ";", 114);
        fault(Bench.lines("out 0", 19) + ";out 8", 118);
        fault(Bench.lines("0is1", 20), NONE);
        fault(Bench.lines("0is1", 21), 99);
        fault(Bench.lines("0is1", 40), 99);
    }

    private static void faultAtRows() {
        Bench.promise(4);
        fault(draws(8, 8), NONE);
        fault(draws(8, 8, 2), 25);
        fault(draws(4, 4, 4), NONE);
        fault(draws(4, 4, 5), 25);
        fault(draws(2, 4, 8), NONE);
        fault(draws(7, 3, 3), NONE);
        fault(draws(7, 3, 4), 25);
        fault(draws(7, 5, 2), 25);
        fault(draws(7, 5), NONE);
        fault(draws(8, 2, 4), NONE);
        fault(draws(8, 2, 5), 25);
        fault(draws(3, 3, 7), NONE);
        fault(draws(3, 3, 8), 25);
        fault(draws(2, 2, 2, 2, 2), NONE);
        fault(draws(2, 2, 2, 2, 2, 2), NONE);
        fault(draws(2, 2, 2, 2, 2, 3), 52);
        fault(draws(2, 2, 2, 2, 2, 2, 2), 61);
        fault(draws(3, 3, 3, 2), NONE);
        fault(draws(3, 3, 3, 3), 34);
        fault(draws(8, 8) + ";2 draw", 24);
        fault(draws(8, 8) + ";2 draw;", 24);
        fault(draws(8, 8) + ";2 draw 1", 25);
        fault(draws(8, 8) + ";2 draw 2;9", 25);
        fault(draws(8, 8) + ";" + Bench.lines("0 is 1", 18), NONE);
        fault(Bench.lines("0 is 1", 18) + ";" + draws(8, 8), NONE);
        fault(Bench.lines("0 is 1", 17) + ";" + draws(8, 8, 2), 17 * 7 + 25);
        // A reading that went wrong leaves no rows behind for the next one.
        DrawsOut x = Bench.made(Bench.write(draws(8, 8, 2)));
        due("fault() of too many rows", x.fault(), 25);
        x.erase();
        x.write('0', 1);
        due("fault() of a cell alone", x.fault(), 1);
        x.write(0x382077617264L << 8 | ' ', 7);
        due("fault() of a draw behind it", x.fault(), NONE);
        due("program() of it", x.program(), 8);
    }

    private static String draws(int... sizes) {
        StringBuilder text = new StringBuilder();
        for (int i = 0; i < sizes.length; i++) {
            text.append(i == 0 ? "" : ";").append(i).append(" draw ").append(sizes[i]);
        }
        return text.toString();
    }

    private static void faultInLongTexts() {
        Bench.promise(4);
        fault(Bench.blanks(200), 200);
        fault(Bench.blanks(199), 199);
        fault(Bench.blanks(199) + "z", 199);
        fault(Bench.blanks(199) + "0", 200);
        fault(Bench.blanks(195) + "out 0", NONE);
        fault(Bench.blanks(196) + "out ", 200);
        fault("out 0" + Bench.blanks(195), NONE);
        fault("out 0" + Bench.blanks(194) + ";", 200);
        fault("out 0" + Bench.blanks(194) + "0", 199);
        fault("out" + Bench.blanks(196) + "7", NONE);
        fault("out" + Bench.blanks(196) + "8", 199);
        fault("o".repeat(200), 0);
        fault("0".repeat(200), 0);
        fault("out " + "0".repeat(196), 4);
        fault("0 " + "z".repeat(198), 2);
        fault(Bench.FULL_TEXT, NONE);
        fault(Bench.FULL_PROGRAM, NONE);
        due("bytes of that text", Bench.FULL_TEXT.length(), 200);
        due("bytes of that text", Bench.FULL_PROGRAM.length(), 200);
        Bench.asked(Bench.SOME, "fault() of some", x -> x.fault(), NONE);
        Bench.asked(Bench.FAULTY, "fault() of a fault", x -> x.fault(), Bench.SOME_TEXT.length() + 1);
        Bench.asked(Bench.FULL_STATE, "fault() of a full object", x -> x.fault(), NONE);
    }

    private static void program() {
        Bench.promise(5);
        Bench.refused(Bench.NEW, "program() of no text", x -> x.program(), NOT);
        Bench.refused(Bench.SOME_BUT_TEXT, "program() of no text, with a program", x -> x.program(), NOT);
        Bench.refused(Bench.FULL_BUT_TEXT, "program() of no text, with a full program", x -> x.program(), NOT);
        Bench.refused(Bench.FAULTY, "program() of a fault", x -> x.program(), NOT);
        Bench.refused(Bench.join(Bench.SOME_BUT_TEXT, Bench.write(" ")), "program() of a blank", x -> x.program(), NOT);
        Bench.refused(Bench.join(Bench.SOME_BUT_TEXT, Bench.write("0 is 1;")), "program() that ends too soon", x -> x.program(), NOT);
        Bench.refused(Bench.join(Bench.FULL_BUT_TEXT, Bench.write(draws(8, 8, 2))), "program() of 128 rows", x -> x.program(), NOT);
        Bench.refused(Bench.join(Bench.FULL_BUT_TEXT, Bench.write(Bench.lines("0is1", 21))), "program() of 21 lines",
            x -> x.program(), NOT);
        Bench.taken(Bench.SOME, "program() of some", x -> x.program(), 5);
        Bench.taken(Bench.FULL_STATE, "program() of 200 bytes, 20 lines, 64 rows", x -> x.program(), 64);
        rows("out 0", 1);
        rows("0 draw 2", 2);
        rows("0 draw 8", 8);
        rows(draws(7, 3, 3), 63);
        rows(draws(8, 8), 64);
        rows(draws(2, 2, 2, 2, 2, 2), 64);
        DrawsOut x = Bench.made(Bench.FULL_STATE);
        x.program();
        due("the text is empty then", x.count(0), 0);
        due("its fault then", x.fault(), 0);
        due("program() again", x.program(), NOT);
        due("the program stays", x.count(3), 64);
        // Nothing of the program ahead is left, and the rest stays.
        List<Bench.Call> rest = Bench.join(Bench.inputs(3, 77), Bench.knots(3), Bench.edges(0, 2, 5));
        for (String text : new String[] {"out 3", "0 draw 4;out 0", "0 draw 2;1 draw 3;1 add 0 1;out 1"}) {
            Bench.alike("program() of " + text + " over a full one", Bench.join(Bench.program(text), rest),
                Bench.join(Bench.program(Bench.FULL_PROGRAM), rest, Bench.program(text)));
        }
        Bench.alike("program() over one that was refused", Bench.program("0 draw 4;out 0"),
            Bench.join(Bench.write(draws(5, 6, 7)), Bench.calls(y -> y.fault(), y -> y.erase()), Bench.program("0 draw 4;out 0")));
    }

    /** Odds asked of each of several programs on one object: each has its own. */
    private static void programsOneAfterTheOther() {
        Bench.promise(5);
        DrawsOut x = Bench.made(Bench.inputs(1, 2));
        String[] texts = {"out 0", "0 is 1;out 0", "0 in 0;out 0", "0 draw 4;out 0", "0 draw 2;1 in 0;0 xor 0 1;out 0", "0 is 1",
            "0 draw 3;1 in 0;0 mul 0 1;out 0", "1 is 1;out 1", "0 in 1;out 0"};
        // How many of how many rows are right for input 0, where 0 is told, and for input 1, where not.
        int[][] wants = {{1, 1, 0, 1}, {0, 1, 1, 1}, {1, 1, 1, 1}, {1, 4, 3, 4}, {1, 2, 1, 2}, {1, 1, 0, 1}, {1, 1, 2, 3}, {0, 1, 1, 1},
            {1, 1, 0, 1}};
        for (int i = 0; i < texts.length; i++) {
            for (Bench.Call write : Bench.write(texts[i])) {
                write.on(x);
            }
            x.program();
            Bench.part("odds(0) of " + texts[i], x.odds(0, 0), x.odds(0, 1), wants[i][0], wants[i][1]);
            Bench.part("odds(1) of " + texts[i], x.odds(1, 0), x.odds(1, 1), wants[i][2], wants[i][3]);
        }
    }

    private static void rows(String text, int want) {
        Bench.taken(Bench.write(text), "program() of " + text, x -> x.program(), want);
        due("count(3) of " + text, Bench.with(text).count(3), want);
    }

    private static void draw() {
        Bench.promise(6);
        for (int draw : new int[] {LEAST, -3, -2, -1, 6, 7, 8, 63, 64, 256, 1 << 16, MOST}) {
            Bench.refusedAlways("draw(" + draw + ")", x -> x.draw(draw), UNKNOWN);
        }
        Bench.refused(Bench.NEW, "draw(0) of no program", x -> x.draw(0), UNKNOWN);
        Bench.refused(Bench.program("0 is 1"), "draw(0) of no draws", x -> x.draw(0), UNKNOWN);
        Bench.refused(Bench.write("0 draw 2"), "draw(0) of a text that is no program yet", x -> x.draw(0), UNKNOWN);
        for (int n = 2; n <= 8; n++) {
            DrawsOut x = Bench.with("5 draw " + n);
            due("draw(0) of " + n, x.draw(0), n);
            due("draw(1) of one", x.draw(1), UNKNOWN);
        }
        DrawsOut x = Bench.with("3 draw 2;3 is 1;3 draw 4;out 3;3 draw 8");
        due("draw(0) of three", x.draw(0), 2);
        due("draw(1) of three", x.draw(1), 4);
        due("draw(2) of three", x.draw(2), 8);
        due("draw(3) of three", x.draw(3), UNKNOWN);
        DrawsOut six = Bench.with("0 draw 2;0 draw 2;0 draw 2;0 draw 2;0 draw 2;0 draw 2");
        due("draw(5) of six", six.draw(5), 2);
        due("draw(6) of six", six.draw(6), UNKNOWN);
        Bench.asked(Bench.SOME, "draw(0) of some", y -> y.draw(0), 3);
        Bench.asked(Bench.SOME, "draw(1) of some", y -> y.draw(1), 2);
        Bench.refused(Bench.SOME, "draw(2) of some", y -> y.draw(2), UNKNOWN);
    }

    private static void inputs() {
        Bench.promise(7);
        for (int width : new int[] {LEAST, -32, -1, 6, 7, 8, 31, 32, 33, 256, MOST}) {
            for (int truth : new int[] {0, -1, LEAST}) {
                Bench.refusedAlways("inputs(" + width + ", " + truth + ")", x -> x.inputs(width, truth), OUTSIDE);
            }
        }
        for (int width = 0; width <= 5; width++) {
            int wide = width;
            int beyond = width == 5 ? 0 : -1 << (1 << width);
            for (int truth : new int[] {0, -1, 1, LEAST, MOST, 0x13579bdf}) {
                DrawsOut x = new DrawsOut();
                due("inputs(" + width + ", " + truth + ")", x.inputs(width, truth), 1 << width);
                due("count(4)", x.count(4), 1 << width);
                for (int input = 0; input < 1 << width; input++) {
                    due("right(" + input + ", 0) of 0 by truth " + truth, x.right(input, 0), 1 - (truth >>> input & 1));
                }
                due("right(" + (1 << width) + ", 0)", x.right(1 << width, 0), UNKNOWN);
                Bench.alike("bits of " + truth + " beyond width " + width, Bench.join(Bench.SOME, Bench.inputs(wide, truth)),
                    Bench.join(Bench.SOME, Bench.inputs(wide, truth ^ beyond)));
            }
            Bench.unlike("the last bit of truth in width " + width, Bench.join(Bench.SOME, Bench.inputs(wide, 0)),
                Bench.join(Bench.SOME, Bench.inputs(wide, 1 << (1 << wide) - 1)));
        }
        Bench.taken(Bench.SOME, "inputs(0, 1) of some", x -> x.inputs(0, 1), 1);
        Bench.taken(Bench.FULL_STATE, "inputs(4, -1) of a full object", x -> x.inputs(4, -1), 16);
        // Of several calls the last one holds, width and truth both.
        Bench.alike("inputs(2, 6) behind another", Bench.join(Bench.SOME, Bench.inputs(5, -1), Bench.inputs(2, 6)), Bench.SOME);
    }

    private static void runBounds() {
        Bench.promise(8);
        for (int wrong : new int[] {LEAST, -64, -32, -2, -1, 64, 65, 128, 256, 1 << 16, MOST}) {
            Bench.refusedAlways("run(" + wrong + ", 0)", x -> x.run(wrong, 0), UNKNOWN);
            Bench.refusedAlways("run(0, " + wrong + ")", x -> x.run(0, wrong), UNKNOWN);
            Bench.refusedAlways("run(" + wrong + ", " + wrong + ")", x -> x.run(wrong, wrong), UNKNOWN);
        }
        for (int width = 0; width <= 5; width++) {
            DrawsOut x = Bench.with("0 is 9;out 0", width, 0);
            int many = 1 << width;
            due("run(0, 0) of width " + width, x.run(0, 0), 9);
            due("run(" + (many - 1) + ", 0) of width " + width, x.run(many - 1, 0), 9);
            due("run(" + many + ", 0) of width " + width, x.run(many, 0), UNKNOWN);
            due("run(0, 1) of one row", x.run(0, 1), UNKNOWN);
        }
        int[][] sizes = {{2}, {3}, {8}, {7, 3, 3}, {8, 8}, {2, 2, 2, 2, 2, 2}};
        for (int[] some : sizes) {
            DrawsOut x = Bench.with(draws(some) + ";7 is 5;out 7");
            int many = x.count(3);
            due("run(0, " + (many - 1) + ") of " + many + " rows", x.run(0, many - 1), 5);
            due("run(0, " + many + ") of " + many + " rows", x.run(0, many), UNKNOWN);
        }
        Bench.refused(Bench.FULL_STATE, "run(32, 0) of a full object", x -> x.run(32, 0), UNKNOWN);
        Bench.asked(Bench.FULL_STATE, "run(0, 0) of a full object", x -> x.run(0, 0), 0);
        // All draws 1: 15, xor 1, plus 1, xor 2.
        Bench.asked(Bench.FULL_STATE, "run(31, 63) of a full object", x -> x.run(31, 63), 13);
        // First figure 2, second 1, input 3: (2 + 1) * 1, xor 1.
        Bench.asked(Bench.SOME, "run(3, 5) of some", x -> x.run(3, 5), 2);
    }

    /** Each line that joins two cells, for each two numbers 0 .. 15: where it wraps around, and where not. */
    private static void runCells() {
        Bench.promise(8);
        String numbers = "0 draw 8;1 draw 8;2 in 0;3 in 1;4 is 8;2 mul 2 4;3 mul 3 4;0 add 0 2;1 add 1 3;";
        for (String line : new String[] {"5 add 0 1", "5 mul 0 1", "5 xor 0 1", "5 less 0 1", "5 pick 0 1 4", "1 add 0 1;5 add 1 6"}) {
            DrawsOut x = Bench.with(numbers + line + ";out 5", 2, 0);
            for (int input = 0; input < 4; input++) {
                for (int row = 0; row < 64; row++) {
                    int a = row / 8 + 8 * (input & 1);
                    int b = row % 8 + 8 * (input >> 1);
                    due(line + " of " + a + ", " + b, x.run(input, row), joined(line, a, b));
                }
            }
        }
        for (int v = 0; v <= 15; v++) {
            due("is " + v, Bench.with("7 is " + v + ";out 7").run(0, 0), v);
        }
        for (int bit = 0; bit <= 4; bit++) {
            DrawsOut x = Bench.with("0 in " + bit + ";out 0", 5, 0);
            for (int input = 0; input < 32; input++) {
                due("in " + bit + " of " + input, x.run(input, 0), input >> bit & 1);
            }
        }
        // A bit beyond the width is 0.
        DrawsOut narrow = Bench.with("0 in 1;out 0", 1, 0);
        due("in 1 of input 1, width 1", narrow.run(1, 0), 0);
        for (int cell = 0; cell <= 7; cell++) {
            due("cell " + cell + " is 0 at first", Bench.with("out " + cell).run(0, 0), 0);
            DrawsOut x = Bench.with("out " + cell + ";" + cell + " is 15");
            x.run(0, 0);
            due("cell " + cell + " is 0 at first of another run", x.run(0, 0), 0);
            due("cell " + cell + " itself", Bench.with(cell + " is 6;" + cell + " add " + cell + " " + cell + ";out " + cell).run(0, 0), 12);
        }
        // The first draw is the highest figure, whatever N and cells are.
        DrawsOut x = Bench.with("1 draw 2;0 draw 3;2 draw 2;3 is 6;1 mul 1 3;0 add 0 0;0 add 0 1;0 add 0 2;out 0");
        for (int row = 0; row < 12; row++) {
            due("figures of row " + row, x.run(0, row), row);
        }
        DrawsOut over = Bench.with("0 draw 4;0 draw 5;out 0");
        for (int row = 0; row < 20; row++) {
            due("the later draw in the same cell, row " + row, over.run(0, row), row % 5);
        }
    }

    private static int joined(String line, int a, int b) {
        switch (line.substring(0, 5)) {
            case "5 add": return (a + b) % 16;
            case "5 mul": return a * b % 16;
            case "5 xor": return a ^ b;
            case "5 les": return a < b ? 1 : 0;
            case "5 pic": return a != 0 ? b : 8;
            default: return (a + b) % 16;
        }
    }

    private static void runOuts() {
        Bench.promise(8);
        due("no lines", new DrawsOut().run(0, 0), 0);
        due("no out", Bench.with("0 is 15").run(0, 0), 0);
        due("one out", Bench.with("0 is 15;out 0").run(0, 0), 15);
        due("of two outs the last", Bench.with("0 is 15;1 is 3;out 0;out 1").run(0, 0), 3);
        due("of two outs the last, though it is 0", Bench.with("0 is 15;out 0;out 1").run(0, 0), 0);
        due("lines behind out go on", Bench.with("0 is 15;out 0;1 is 4;out 1").run(0, 0), 4);
        due("20 lines", Bench.with(Bench.lines("0 is 1", 18) + ";0 is 7;out 0").run(0, 0), 7);
        due("20 outs", Bench.with("0 is 7;" + Bench.lines("out 1", 18) + ";out 0").run(0, 0), 7);
    }

    private static void right() {
        Bench.promise(9);
        for (int wrong : new int[] {LEAST, -64, -32, -2, -1, 64, 65, 128, 256, 1 << 16, MOST}) {
            Bench.refusedAlways("right(" + wrong + ", 0)", x -> x.right(wrong, 0), UNKNOWN);
            Bench.refusedAlways("right(0, " + wrong + ")", x -> x.right(0, wrong), UNKNOWN);
            Bench.refusedAlways("right(" + wrong + ", " + wrong + ")", x -> x.right(wrong, wrong), UNKNOWN);
        }
        for (int width = 0; width <= 5; width++) {
            int many = 1 << width;
            DrawsOut x = Bench.with("0 draw 8;1 draw 8;out 0", width, -1);
            due("right(" + (many - 1) + ", 63) of width " + width, x.right(many - 1, 63), 1);
            due("right(" + (many - 1) + ", 7) of width " + width, x.right(many - 1, 7), 0);
            due("right(" + (many - 1) + ", 8) of width " + width, x.right(many - 1, 8), 1);
            due("right(" + many + ", 63) of width " + width, x.right(many, 63), UNKNOWN);
            due("right(0, 64)", x.right(0, 64), UNKNOWN);
        }
        for (int v = 0; v <= 15; v++) {
            DrawsOut x = Bench.with("0 is " + v + ";out 0", 1, 2);
            due("right of " + v + " where 0 is told", x.right(0, 0), v == 0 ? 1 : 0);
            due("right of " + v + " where not 0 is told", x.right(1, 0), v == 0 ? 0 : 1);
        }
        for (int bit = 0; bit < 32; bit++) {
            DrawsOut x = Bench.with("0 is 1;out 0", 5, 1 << bit);
            due("right by bit " + bit, x.right(bit, 0), 1);
            due("right by another bit", x.right((bit + 1) % 32, 0), 0);
        }
        Bench.asked(Bench.SOME, "right(1, 0) of some", x -> x.right(1, 0), 0);
        Bench.asked(Bench.SOME, "right(1, 1) of some", x -> x.right(1, 1), 1);
        Bench.refused(Bench.SOME, "right(4, 1) of some", x -> x.right(4, 1), UNKNOWN);
        Bench.refused(Bench.SOME, "right(1, 6) of some", x -> x.right(1, 6), UNKNOWN);
    }
}
