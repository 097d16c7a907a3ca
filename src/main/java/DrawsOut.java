import java.util.Arrays;

/**
 * Programs that draw lots and what their odds are, sides of knots and heaps of them, sums told
 * apart by points, weak draws. ../shared/DOC.md says what each call answers.
 *
 * Every row is made in a constructor and used again, so that no call makes an object.
 */
public final class DrawsOut {
    public static final int NONE = -1, UNKNOWN = -2, OUTSIDE = -3, NOT = -4, FULL = -5;

    private static final int ABOVE = 0, BELOW = 1;
    private static final int MOST_BY = 100;
    private static final long LEAST_LONG = 1L << 63;

    private final Text text;
    private final Reader reader;
    private final Trial trial;
    private Program draft;
    private final Web web;
    private final Heap heap;
    private final SmallRows smallRows;
    private final Sum first;
    private final Sum second;
    private final Points points;

    public DrawsOut() {
        text = new Text();
        reader = new Reader(text);
        trial = new Trial(new Program());
        draft = new Program();
        web = new Web();
        heap = new Heap();
        smallRows = new SmallRows();
        first = new Sum();
        second = new Sum();
        points = new Points();
    }

    // ---- programs

    public int write(long bytes, int n) {
        if (n < 1 || n > 8) {
            return OUTSIDE;
        }
        if (n > Text.MOST - text.length) {
            return FULL;
        }
        for (int i = 0; i < n; i++) {
            text.add((int) (bytes >> 8 * i & 255));
        }
        return text.length;
    }

    public int erase() {
        int had = text.length;
        text.length = 0;
        return had;
    }

    public int fault() {
        return reader.readInto(draft);
    }

    public int program() {
        if (reader.readInto(draft) != NONE) {
            return NOT;
        }
        // The two programs change places: the old one is the room for the next reading.
        Program old = trial.replaceProgram(draft);
        draft = old;
        text.length = 0;
        return trial.program.rows;
    }

    public int draw(int draw) {
        Program now = trial.program;
        return draw >= 0 && draw < now.draws ? now.sizes[draw] : UNKNOWN;
    }

    public int inputs(int width, int truth) {
        if (width < 0 || width > Trial.MOST_WIDTH) {
            return OUTSIDE;
        }
        trial.setInputs(width, truth);
        return trial.inputCount();
    }

    public int run(int input, int row) {
        return trial.hasInput(input) && trial.hasRow(row) ? trial.program.outOf(input, row) : UNKNOWN;
    }

    public int right(int input, int row) {
        if (!trial.hasInput(input) || !trial.hasRow(row)) {
            return UNKNOWN;
        }
        return trial.isRight(input, row) ? 1 : 0;
    }

    // ---- odds

    public int odds(int input, int part) {
        if (!trial.hasInput(input)) {
            return UNKNOWN;
        }
        return isPart(part) ? lowest(fresh().rightCount(input), trial.program.rows, part) : OUTSIDE;
    }

    public int worst(int part) {
        if (part < 0 || part > 2) {
            return OUTSIDE;
        }
        int input = fresh().worstInput();
        return part == 2 ? input : lowest(trial.rightCount(input), trial.program.rows, part);
    }

    public int mean(int part) {
        if (!isPart(part)) {
            return OUTSIDE;
        }
        int rows = trial.program.rows;
        return lowest(fresh().rightInputsWithin(0, rows), rows * trial.inputCount(), part);
    }

    public int seen(int i, int part) {
        if (i < 0 || i > trial.program.draws) {
            return UNKNOWN;
        }
        return isPart(part) ? lowest(fresh().rightBeforeEnemy(i), trial.program.rows, part) : OUTSIDE;
    }

    public int kept(int what) {
        if (!isChoice(what)) {
            return OUTSIDE;
        }
        int row = fresh().keptRow();
        return what == 0 ? trial.rightInputsWithin(row, 1) : row;
    }

    public int good(int what) {
        if (!isChoice(what)) {
            return OUTSIDE;
        }
        return what == 0 ? fresh().goodCount() : fresh().leastGood();
    }

    public int together(int i) {
        if (i < -1) {
            return OUTSIDE;
        }
        int many = fresh().gatherRows();
        if (i == -1) {
            return many;
        }
        return i < many ? trial.gathered[i] : NONE;
    }

    public int again(int a, int b) {
        return isRatio(a, b) ? fresh().runsForMajority(a, b) : OUTSIDE;
    }

    public int cap(int a, int b) {
        return isRatio(a, b) ? fresh().runsForOne(a, b) : OUTSIDE;
    }

    // ---- knots, heaps

    public int knots(int n) {
        if (n < 1 || n > Web.MOST_KNOTS) {
            return OUTSIDE;
        }
        web.restart(n);
        heap.size = 0;
        return 1;
    }

    public int edge(int a, int b, int weight) {
        if (!web.hasKnot(a) || !web.hasKnot(b) || a == b) {
            return UNKNOWN;
        }
        if (weight < 1 || weight > 99) {
            return OUTSIDE;
        }
        return web.addEdge(a, b, weight);
    }

    public int cord(int set) {
        if (!web.hasKnotsOf(set) || Integer.bitCount(set) < 2) {
            return OUTSIDE;
        }
        return web.addCord(set);
    }

    public int measure(int what, int sides) {
        return isChoice(what) && web.hasKnotsOf(sides) ? web.measureOf(what, sides) : OUTSIDE;
    }

    public int expect(int what, int fixed, int sides, int part) {
        if (!isChoice(what) || !isPart(part) || !web.hasKnotsOf(fixed) || (sides & ~fixed) != 0) {
            return OUTSIDE;
        }
        return lowest(web.meanAbove(what, fixed, sides), Web.meanBelow(what), part);
    }

    public int byMeans(int what) {
        return isChoice(what) ? web.sidesByMeans(what) : OUTSIDE;
    }

    public int best(int what) {
        return isChoice(what) ? web.bestSides(what) : OUTSIDE;
    }

    public int heap(int sides) {
        return web.hasKnotsOf(sides) ? heap.add(sides) : OUTSIDE;
    }

    public int made(int t) {
        if (t != 2 && t != 3) {
            return OUTSIDE;
        }
        heap.make(web.size, t == 3);
        return heap.size;
    }

    public int of(int what) {
        return isChoice(what) ? heap.bestBy(web, what) : OUTSIDE;
    }

    public int even(int t) {
        if (t < 1 || t > 3 || t > web.size) {
            return OUTSIDE;
        }
        if (heap.size == 0) {
            return NOT;
        }
        // Each row of sides of t knots comes equally often just when no parity of them leans.
        return heap.greatestLean(web.size, t) == 0 ? 1 : 0;
    }

    public int error(int t, int part) {
        if (t < 1 || t > Web.MOST_KNOTS || !isPart(part)) {
            return OUTSIDE;
        }
        if (heap.size == 0) {
            return NOT;
        }
        return lowest(heap.greatestLean(web.size, t), heap.size, part);
    }

    public int least(int k, int t, int a, int b) {
        if (k < 1 || k > SmallRows.MOST_BITS || t < 1 || t > SmallRows.MOST_BITS || !isRatio(a, b)) {
            return OUTSIDE;
        }
        return smallRows.leastHeap(k, t, a, b);
    }

    public int walks(int set, int t) {
        return web.hasKnotsOf(set) && t >= 0 && t <= Web.MOST_STEPS ? web.walkCount(set, t) : OUTSIDE;
    }

    // ---- sums, weak draws

    public int term(int sum, int number, int x, int y, int z) {
        if (!isChoice(sum)) {
            return UNKNOWN;
        }
        if (number < -9 || number > 9 || !Sum.isPower(x) || !Sum.isPower(y) || !Sum.isPower(z)) {
            return OUTSIDE;
        }
        return sumNumbered(sum).add(number, x, y, z);
    }

    public long value(int sum, int x, int y, int z) {
        if (!isChoice(sum) || !Points.isPlace(x) || !Points.isPlace(y) || !Points.isPlace(z)) {
            return LEAST_LONG;
        }
        return points.valueAt(sumNumbered(sum), x, y, z);
    }

    public int degree(int sum) {
        return isChoice(sum) ? sumNumbered(sum).greatestPower() : UNKNOWN;
    }

    public int same(int k, int what) {
        if (k < 1 || k > Points.PLACES || !isChoice(what)) {
            return OUTSIDE;
        }
        points.compare(first, second, k);
        return what == 0 ? points.alike : points.firstApart;
    }

    public int pressed(long bits, int n, int i) {
        if (n < 0 || n > 32 || i < -1) {
            return OUTSIDE;
        }
        int many = 0;
        for (int at = 0; at + 1 < n; at += 2) {
            int ahead = (int) (bits >> at & 1);
            int behind = (int) (bits >> at + 1 & 1);
            if (ahead != behind) {
                if (many == i) {
                    return ahead;
                }
                many++;
            }
        }
        return i == -1 ? many : NONE;
    }

    public int mixed(int one, int two, int part) {
        if (!SmallRows.isSet(one) || !SmallRows.isSet(two) || !isPart(part)) {
            return OUTSIDE;
        }
        int pairs = Integer.bitCount(one) * Integer.bitCount(two);
        return lowest(Math.abs(pairs - 2 * smallRows.oddPairs(one, two)), pairs, part);
    }

    public int count(int what) {
        switch (what) {
            case 0: return text.length;
            case 1: return trial.program.lines;
            case 2: return trial.program.draws;
            case 3: return trial.program.rows;
            case 4: return trial.inputCount();
            case 5: return web.edges;
            case 6: return web.cords;
            case 7: return heap.size;
            default: return OUTSIDE;
        }
    }

    // ---- what several calls share

    /** The trial, with what its odds are told from made up first: only calls that need it pay. */
    private Trial fresh() {
        trial.refresh();
        return trial;
    }

    private Sum sumNumbered(int sum) {
        return sum == 0 ? first : second;
    }

    private static boolean isPart(int part) {
        return part == ABOVE || part == BELOW;
    }

    private static boolean isChoice(int what) {
        return what == 0 || what == 1;
    }

    private static boolean isRatio(int a, int b) {
        return a >= 0 && a <= MOST_BY && b >= 1 && b <= MOST_BY;
    }

    /** One part of above / below in lowest terms; below is 1 or more. */
    private static int lowest(int above, int below, int part) {
        int common = below;
        int rest = above;
        // Euclid's steps are far fewer than this for any int.
        for (int step = 0; step < 100 && rest != 0; step++) {
            int next = common % rest;
            common = rest;
            rest = next;
        }
        if (common == 0) {
            return NONE;
        }
        return part == ABOVE ? above / common : below / common;
    }

    /** THE TEXT. */
    private static final class Text {
        static final int MOST = 200, NO_BYTE = -1;

        private final int[] bytes;
        int length;

        Text() {
            bytes = new int[MOST];
            length = 0;
        }

        void add(int oneByte) {
            if (length < MOST) {
                bytes[length] = oneByte;
                length++;
            }
        }

        int at(int place) {
            return place >= 0 && place < length && place < MOST ? bytes[place] : NO_BYTE;
        }
    }

    /** Reads THE TEXT token by token, to its first fault. */
    private static final class Reader {
        private static final int END = 0, WORD = 1, NUMBER = 2, SIGN = 3, BLANK = 4;

        private final Text text;
        private int begin;
        private int end;
        private int sort;

        Reader(Text text) {
            this.text = text;
            begin = 0;
            end = 0;
            sort = END;
        }

        /** The place of the fault, or NONE: then the draft is what the text says. */
        int readInto(Program draft) {
            draft.clear();
            end = 0;
            step();
            for (int line = 1; line <= Program.MOST_LINES; line++) {
                if (!readLine(draft)) {
                    return begin;
                }
                if (sort == END) {
                    return NONE;
                }
                if (sort != SIGN || text.at(begin) != ';') {
                    return begin;
                }
                if (line < Program.MOST_LINES) {
                    step();
                }
            }
            return begin;
        }

        /** Goes behind a line; if it has a fault, stays at it and answers false. */
        private boolean readLine(Program draft) {
            int cell = 0;
            boolean withCell = sort != WORD;
            if (withCell) {
                if (!isNumberWithin(0, Program.CELLS - 1)) {
                    return false;
                }
                cell = number();
                step();
            }
            int verb = verbHere();
            if (verb == NONE || withCell == (verb == Program.OUT)) {
                return false;
            }
            step();
            draft.addLine(verb, cell);
            for (int i = 0; i < Program.operandCount(verb); i++) {
                if (!isNumberWithin(Program.leastOperand(verb), Program.greatestOperand(verb))
                        || !draft.setOperand(i, number())) {
                    return false;
                }
                step();
            }
            return true;
        }

        private void step() {
            begin = behind(end, BLANK);
            sort = sortOf(text.at(begin));
            if (sort == WORD || sort == NUMBER) {
                end = behind(begin, sort);
            } else {
                end = sort == END ? begin : begin + 1;
            }
        }

        private int behind(int from, int wanted) {
            int place = from;
            while (place < text.length && sortOf(text.at(place)) == wanted) {
                place++;
            }
            return place;
        }

        private static int sortOf(int oneByte) {
            if (oneByte == Text.NO_BYTE) {
                return END;
            }
            if (oneByte >= 'a' && oneByte <= 'z') {
                return WORD;
            }
            if (oneByte >= '0' && oneByte <= '9') {
                return NUMBER;
            }
            return oneByte == ' ' ? BLANK : SIGN;
        }

        private boolean isNumberWithin(int low, int high) {
            if (sort != NUMBER || end - begin > 2) {
                return false;
            }
            int number = number();
            return number >= low && number <= high;
        }

        private int number() {
            int number = 0;
            for (int place = begin; place < end; place++) {
                number = 10 * number + text.at(place) - '0';
            }
            return number;
        }

        private int verbHere() {
            if (isWord("draw")) {
                return Program.DRAW;
            }
            if (isWord("in")) {
                return Program.IN;
            }
            if (isWord("is")) {
                return Program.IS;
            }
            if (isWord("add")) {
                return Program.ADD;
            }
            if (isWord("mul")) {
                return Program.MUL;
            }
            if (isWord("xor")) {
                return Program.XOR;
            }
            if (isWord("less")) {
                return Program.LESS;
            }
            if (isWord("pick")) {
                return Program.PICK;
            }
            return isWord("out") ? Program.OUT : NONE;
        }

        private boolean isWord(String word) {
            if (sort != WORD || end - begin != word.length()) {
                return false;
            }
            for (int i = 0; i < word.length(); i++) {
                if (text.at(begin + i) != word.charAt(i)) {
                    return false;
                }
            }
            return true;
        }
    }

    /** THE PROGRAM, or the room in which the next one is read. */
    private static final class Program {
        static final int DRAW = 0, IN = 1, IS = 2, ADD = 3, MUL = 4, XOR = 5, LESS = 6, PICK = 7, OUT = 8;
        static final int MOST_LINES = 20, MOST_ROWS = 64, MOST_DRAWS = 6, CELLS = 8, MOST_INPUTS = 32;
        private static final int OPERANDS = 3;

        int lines;
        private final int[] verbs;
        private final int[] targets;
        private final int[] operands;
        int draws;
        int rows;
        final int[] sizes;
        private final int[] figures;
        private final int[] cells;
        /** For each input the rows by which OUT is not 0, where bit input of known is set. */
        private final long[] notZero;
        private int known;

        Program() {
            verbs = new int[MOST_LINES];
            targets = new int[MOST_LINES];
            operands = new int[OPERANDS * MOST_LINES];
            sizes = new int[MOST_DRAWS];
            figures = new int[MOST_DRAWS];
            cells = new int[CELLS];
            notZero = new long[MOST_INPUTS];
            lines = 0;
            draws = 0;
            rows = 1;
            known = 0;
        }

        void clear() {
            lines = 0;
            draws = 0;
            rows = 1;
            known = 0;
        }

        static int operandCount(int verb) {
            if (verb == PICK) {
                return 3;
            }
            return verb == ADD || verb == MUL || verb == XOR || verb == LESS ? 2 : 1;
        }

        static int leastOperand(int verb) {
            return verb == DRAW ? 2 : 0;
        }

        static int greatestOperand(int verb) {
            switch (verb) {
                case DRAW: return 8;
                case IN: return 4;
                case IS: return 15;
                default: return CELLS - 1;
            }
        }

        void addLine(int verb, int target) {
            if (lines < MOST_LINES) {
                verbs[lines] = verb;
                targets[lines] = target;
                lines++;
            }
        }

        /** Operand i of the last line; false, if it is a draw that makes too many rows. */
        boolean setOperand(int i, int number) {
            if (lines < 1 || lines > MOST_LINES || i < 0 || i >= OPERANDS) {
                return false;
            }
            int line = lines - 1;
            if (verbs[line] != DRAW) {
                operands[OPERANDS * line + i] = number;
                return true;
            }
            operands[OPERANDS * line] = draws;
            return addDraw(number);
        }

        private boolean addDraw(int size) {
            if (rows * size > MOST_ROWS || draws >= MOST_DRAWS) {
                return false;
            }
            sizes[draws] = size;
            draws++;
            rows *= size;
            return true;
        }

        /** The rows by which OUT is not 0 for an input. They are kept: truth and width do not matter. */
        long notZeroRows(int input) {
            if (input < 0 || input >= MOST_INPUTS) {
                return 0;
            }
            if ((known >> input & 1) == 0) {
                long found = 0;
                for (int row = 0; row < rows; row++) {
                    if (outOf(input, row) != 0) {
                        found |= 1L << row;
                    }
                }
                notZero[input] = found;
                known |= 1 << input;
            }
            return notZero[input];
        }

        int outOf(int input, int row) {
            spreadRow(row);
            Arrays.fill(cells, 0);
            int out = 0;
            for (int line = 0; line < lines; line++) {
                if (verbs[line] == OUT) {
                    out = cells[operands[OPERANDS * line]];
                } else {
                    cells[targets[line]] = resultOf(line, input);
                }
            }
            return out;
        }

        private void spreadRow(int row) {
            int rest = row;
            for (int draw = draws - 1; draw >= 0; draw--) {
                int size = sizes[draw];
                if (size > 0) {
                    figures[draw] = rest % size;
                    rest /= size;
                }
            }
        }

        private int resultOf(int line, int input) {
            int operand = operands[OPERANDS * line];
            switch (verbs[line]) {
                case DRAW: return figures[operand];
                case IN: return input >> operand & 1;
                case IS: return operand;
                default: return joined(line, cells[operand]);
            }
        }

        private int joined(int line, int one) {
            int two = cells[operands[OPERANDS * line + 1]];
            switch (verbs[line]) {
                case ADD: return one + two & 15;
                case MUL: return one * two & 15;
                case XOR: return one ^ two;
                case LESS: return one < two ? 1 : 0;
                default: return one != 0 ? two : cells[operands[OPERANDS * line + 2]];
            }
        }
    }

    /** THE PROGRAM with its inputs, and by which rows it is right. */
    private static final class Trial {
        static final int MOST_WIDTH = 5;
        private static final int MOST_RUNS = 7;

        Program program;
        private int width;
        private int truth;
        private boolean stale;
        /** For each input the rows, for each row the inputs that are right with it. */
        private final long[] rightRows;
        private final int[] rightInputs;
        final int[] gathered;
        private final long[] ways;

        Trial(Program program) {
            this.program = program;
            rightRows = new long[Program.MOST_INPUTS];
            rightInputs = new int[Program.MOST_ROWS];
            gathered = new int[Program.MOST_INPUTS];
            ways = new long[MOST_RUNS + 1];
            width = 0;
            truth = 0;
            stale = true;
        }

        Program replaceProgram(Program next) {
            Program old = program;
            program = next;
            stale = true;
            return old;
        }

        void setInputs(int newWidth, int newTruth) {
            width = newWidth;
            truth = newTruth;
            stale = true;
        }

        int inputCount() {
            return 1 << width;
        }

        boolean hasInput(int input) {
            return input >= 0 && input < inputCount();
        }

        boolean hasRow(int row) {
            return row >= 0 && row < program.rows;
        }

        boolean isRight(int input, int row) {
            return (program.outOf(input, row) != 0) == isTrue(input);
        }

        private boolean isTrue(int input) {
            return (truth >> input & 1) == 1;
        }

        /** The rows from .. from + many - 1, by bits; many is 1 or more. */
        private static long span(int from, int many) {
            return -1L >>> 64 - many << from;
        }

        /** To be called ahead of all calls below: makes up which rows and inputs are right. */
        void refresh() {
            if (!stale) {
                return;
            }
            Arrays.fill(rightInputs, 0);
            long all = span(0, program.rows);
            for (int input = 0; input < inputCount(); input++) {
                long notZero = program.notZeroRows(input);
                long rights = isTrue(input) ? notZero : all & ~notZero;
                rightRows[input] = rights;
                for (int row = 0; row < program.rows; row++) {
                    rightInputs[row] |= (int) (rights >> row & 1) << input;
                }
            }
            stale = false;
        }

        int rightCount(int input) {
            return Long.bitCount(rightRows[input]);
        }

        int worstInput() {
            int worst = 0;
            for (int input = 1; input < inputCount(); input++) {
                if (rightCount(input) < rightCount(worst)) {
                    worst = input;
                }
            }
            return worst;
        }

        /** How many inputs are right, over all of these rows together. */
        int rightInputsWithin(int from, int many) {
            int sum = 0;
            for (int row = from; row < from + many; row++) {
                sum += Integer.bitCount(rightInputs[row]);
            }
            return sum;
        }

        /** In how many ways the draws from one on, up to another, can come. */
        private int waysOf(int fromDraw, int toDraw) {
            int many = 1;
            for (int draw = fromDraw; draw < toDraw; draw++) {
                many *= program.sizes[draw];
            }
            return many;
        }

        /** By how many rows it is right, if an enemy sees the first draws and chooses the input then. */
        int rightBeforeEnemy(int draws) {
            int seen = waysOf(0, draws);
            int many = waysOf(draws, program.draws);
            int sum = 0;
            for (int i = 0; i < seen; i++) {
                sum += leastWithin(span(i * many, many));
            }
            return sum;
        }

        private int leastWithin(long rows) {
            int least = Program.MOST_ROWS;
            for (int input = 0; input < inputCount(); input++) {
                least = Math.min(least, Long.bitCount(rightRows[input] & rows));
            }
            return least;
        }

        int keptRow() {
            int from = 0;
            for (int draw = 0; draw < program.draws; draw++) {
                from = keptWithin(from, waysOf(draw + 1, program.draws), program.sizes[draw]);
            }
            return from;
        }

        private int keptWithin(int from, int many, int size) {
            int kept = from;
            int most = rightInputsWithin(from, many);
            for (int number = 1; number < size; number++) {
                int sum = rightInputsWithin(from + number * many, many);
                if (sum > most) {
                    most = sum;
                    kept = from + number * many;
                }
            }
            return kept;
        }

        private boolean isGood(int row) {
            return Integer.bitCount(rightInputs[row]) == inputCount();
        }

        int goodCount() {
            int many = 0;
            for (int row = 0; row < program.rows; row++) {
                if (isGood(row)) {
                    many++;
                }
            }
            return many;
        }

        int leastGood() {
            for (int row = 0; row < program.rows; row++) {
                if (isGood(row)) {
                    return row;
                }
            }
            return NONE;
        }

        /** Puts ROWS TOGETHER into gathered: how many, or NONE. */
        int gatherRows() {
            int open = (int) span(0, inputCount());
            for (int many = 0; many < Program.MOST_INPUTS; many++) {
                int row = rowForMost(open);
                if ((rightInputs[row] & open) == 0) {
                    return NONE;
                }
                gathered[many] = row;
                open &= ~rightInputs[row];
                if (open == 0) {
                    return many + 1;
                }
            }
            return NONE;
        }

        private int rowForMost(int open) {
            int best = 0;
            int most = 0;
            for (int row = 0; row < program.rows; row++) {
                int many = Integer.bitCount(rightInputs[row] & open);
                if (many > most) {
                    most = many;
                    best = row;
                }
            }
            return best;
        }

        /** The worst input decides: with better odds more than half are right more often. */
        int runsForMajority(int a, int b) {
            int rights = rightCount(worstInput());
            long all = 1;
            Arrays.fill(ways, 0);
            ways[0] = 1;
            for (int runs = 1; runs <= MOST_RUNS; runs++) {
                addRun(rights);
                all *= program.rows;
                if ((runs & 1) == 1 && majorityWays(runs) * b >= a * all) {
                    return runs;
                }
            }
            return NONE;
        }

        /** Afterwards ways[i] is by how many rows of rows, with one run more, i runs are right. */
        private void addRun(int rights) {
            int wrongs = program.rows - rights;
            for (int i = MOST_RUNS; i > 0; i--) {
                ways[i] = ways[i] * wrongs + ways[i - 1] * rights;
            }
            ways[0] *= wrongs;
        }

        private long majorityWays(int runs) {
            long sum = 0;
            for (int i = runs / 2 + 1; i <= runs; i++) {
                sum += ways[i];
            }
            return sum;
        }

        int runsForOne(int a, int b) {
            int wrongs = program.rows - rightCount(worstInput());
            long all = 1;
            long allWrong = 1;
            for (int runs = 1; runs <= MOST_RUNS; runs++) {
                all *= program.rows;
                allWrong *= wrongs;
                if (allWrong * b <= a * all) {
                    return runs;
                }
            }
            return NONE;
        }
    }

    /** KNOTS with their EDGES and CORDS. */
    private static final class Web {
        static final int MOST_KNOTS = 8, MOST_STEPS = 8;
        private static final int MOST_EDGES = 16, MOST_CORDS = 10, MOST_WALKS = 999999999;
        private static final int CUT = 0;

        int size;
        int edges;
        int cords;
        private final int[] from;
        private final int[] to;
        private final int[] weights;
        private final int[] sets;
        private long[] walksTo;
        private long[] longerTo;

        Web() {
            from = new int[MOST_EDGES];
            to = new int[MOST_EDGES];
            weights = new int[MOST_EDGES];
            sets = new int[MOST_CORDS];
            walksTo = new long[MOST_KNOTS];
            longerTo = new long[MOST_KNOTS];
            size = 4;
            edges = 0;
            cords = 0;
        }

        void restart(int knots) {
            size = knots;
            edges = 0;
            cords = 0;
        }

        boolean hasKnot(int knot) {
            return knot >= 0 && knot < size;
        }

        boolean hasKnotsOf(int set) {
            return set >= 0 && set < 1 << size;
        }

        int addEdge(int a, int b, int weight) {
            if (edges >= MOST_EDGES) {
                return FULL;
            }
            from[edges] = a;
            to[edges] = b;
            weights[edges] = weight;
            edges++;
            return edges;
        }

        int addCord(int set) {
            if (cords >= MOST_CORDS) {
                return FULL;
            }
            sets[cords] = set;
            cords++;
            return cords;
        }

        int measureOf(int what, int sides) {
            return what == CUT ? cutOf(sides) : oneSided(sides);
        }

        private int cutOf(int sides) {
            int sum = 0;
            for (int edge = 0; edge < edges; edge++) {
                sum += weights[edge] * (sides >> from[edge] & 1 ^ sides >> to[edge] & 1);
            }
            return sum;
        }

        private int oneSided(int sides) {
            int many = 0;
            for (int cord = 0; cord < cords; cord++) {
                int set = sets[cord];
                if ((set & sides) == 0 || (set & sides) == set) {
                    many++;
                }
            }
            return many;
        }

        /** Means are told as this many parts of one, so that they stay whole. */
        static int meanBelow(int what) {
            return what == CUT ? 2 : 1 << MOST_KNOTS;
        }

        int meanAbove(int what, int fixed, int sides) {
            return what == CUT ? cutMean(fixed, sides) : oneSidedMean(fixed, sides);
        }

        private int cutMean(int fixed, int sides) {
            int sum = 0;
            for (int edge = 0; edge < edges; edge++) {
                int ends = 1 << from[edge] | 1 << to[edge];
                if ((ends & fixed) != ends) {
                    sum += weights[edge];
                } else if ((ends & sides) != 0 && (ends & sides) != ends) {
                    sum += 2 * weights[edge];
                }
            }
            return sum;
        }

        private int oneSidedMean(int fixed, int sides) {
            int sum = 0;
            for (int cord = 0; cord < cords; cord++) {
                int told = sets[cord] & fixed;
                int onOne = sets[cord] & sides;
                int chance = 1 << MOST_KNOTS - Integer.bitCount(sets[cord] & ~fixed);
                // All on side 0 and all on side 1 may each still come.
                if (onOne == 0) {
                    sum += chance;
                }
                if (onOne == told) {
                    sum += chance;
                }
            }
            return sum;
        }

        static boolean isBetter(int what, int one, int other) {
            return what == CUT ? one > other : one < other;
        }

        int sidesByMeans(int what) {
            int fixed = 0;
            int sides = 0;
            for (int knot = 0; knot < size; knot++) {
                fixed |= 1 << knot;
                int other = sides | 1 << knot;
                if (isBetter(what, meanAbove(what, fixed, other), meanAbove(what, fixed, sides))) {
                    sides = other;
                }
            }
            return sides;
        }

        int bestSides(int what) {
            int best = 0;
            int bestMeasure = measureOf(what, 0);
            for (int sides = 1; sides < 1 << size; sides++) {
                int measure = measureOf(what, sides);
                if (isBetter(what, measure, bestMeasure)) {
                    best = sides;
                    bestMeasure = measure;
                }
            }
            return best;
        }

        int walkCount(int set, int steps) {
            for (int knot = 0; knot < MOST_KNOTS; knot++) {
                walksTo[knot] = set >> knot & 1;
            }
            for (int step = 0; step < steps; step++) {
                lengthenWalks(set);
            }
            long sum = 0;
            for (int knot = 0; knot < MOST_KNOTS; knot++) {
                sum += walksTo[knot];
            }
            return (int) Math.min(sum, MOST_WALKS);
        }

        private void lengthenWalks(int set) {
            Arrays.fill(longerTo, 0);
            for (int edge = 0; edge < edges; edge++) {
                int a = from[edge];
                int b = to[edge];
                if ((set >> a & set >> b & 1) == 1) {
                    longerTo[a] += walksTo[b];
                    longerTo[b] += walksTo[a];
                }
            }
            long[] old = walksTo;
            walksTo = longerTo;
            longerTo = old;
        }
    }

    /** THE HEAP. */
    private static final class Heap {
        private static final int MOST = 32;

        private final int[] rows;
        int size;

        Heap() {
            rows = new int[MOST];
            size = 0;
        }

        int add(int sides) {
            if (size >= MOST) {
                return FULL;
            }
            rows[size] = sides;
            size++;
            return size;
        }

        void make(int knots, boolean byThrees) {
            int seeds = 1;
            for (int m = 0; m < 4 && seeds <= knots; m++) {
                seeds *= 2;
            }
            if (byThrees) {
                seeds *= 2;
            }
            size = 0;
            for (int seed = 0; seed < seeds; seed++) {
                add(sidesOf(seed, knots, byThrees));
            }
        }

        private static int sidesOf(int seed, int knots, boolean byThrees) {
            int sides = 0;
            for (int knot = 0; knot < knots; knot++) {
                int mark = byThrees ? 2 * (knot + 1) + 1 : knot + 1;
                sides |= (Integer.bitCount(seed & mark) & 1) << knot;
            }
            return sides;
        }

        int bestBy(Web web, int what) {
            if (size == 0) {
                return NONE;
            }
            int best = rows[0];
            for (int i = 1; i < size; i++) {
                if (Web.isBetter(what, web.measureOf(what, rows[i]), web.measureOf(what, best))) {
                    best = rows[i];
                }
            }
            return best;
        }

        /** Over all sets of 1 to t knots the most by which odd and even are unlike in number. */
        int greatestLean(int knots, int t) {
            int greatest = 0;
            for (int set = 1; set < 1 << knots; set++) {
                if (Integer.bitCount(set) <= t) {
                    greatest = Math.max(greatest, leanOf(set));
                }
            }
            return greatest;
        }

        private int leanOf(int set) {
            int odd = 0;
            for (int i = 0; i < size; i++) {
                odd += Integer.bitCount(rows[i] & set) & 1;
            }
            return Math.abs(size - 2 * odd);
        }
    }

    /** Sets of rows of four bits or fewer, row r being bit r of the set. */
    private static final class SmallRows {
        static final int MOST_BITS = 4;
        private static final int ROWS = 16;
        /** How many sets of eight of sixteen rows there are: no size has more. */
        private static final int MOST_OF_A_SIZE = 12870;

        /** For each row the rows with which it has an odd number of bits in both. */
        private final int[] oddWith;

        SmallRows() {
            oddWith = new int[ROWS];
            for (int one = 0; one < ROWS; one++) {
                for (int other = 0; other < ROWS; other++) {
                    oddWith[one] |= (Integer.bitCount(one & other) & 1) << other;
                }
            }
        }

        static boolean isSet(int set) {
            return set >= 1 && set < 1 << ROWS;
        }

        int oddPairs(int one, int two) {
            int odd = 0;
            for (int row = 0; row < ROWS; row++) {
                if ((one >> row & 1) == 1) {
                    odd += Integer.bitCount(two & oddWith[row]);
                }
            }
            return odd;
        }

        int leastHeap(int bits, int t, int a, int b) {
            int rows = 1 << bits;
            for (int size = 1; size < rows; size++) {
                int lean = leanAllowed(size, a, b);
                int found = mayLeanSoLittle(bits, t, size, lean) ? leastOfSize(bits, t, size, lean) : NONE;
                if (found != NONE) {
                    return found;
                }
            }
            // All rows together never lean.
            return (1 << rows) - 1;
        }

        /** The greatest lean within a / b; leans are odd or even as the size is, so -1 may be left. */
        private static int leanAllowed(int size, int a, int b) {
            if (b < 1) {
                return NONE;
            }
            int lean = a * size / b;
            return lean - (lean - size & 1);
        }

        /**
         * False only if no heap of the size can lean so little: the squares of the leans of all
         * parities together are always size * (rows - size). This spares most of the search.
         */
        private static boolean mayLeanSoLittle(int bits, int t, int size, int lean) {
            if (lean < 0) {
                return false;
            }
            int rows = 1 << bits;
            int utmost = Math.min(size, rows - size);
            int squares = 0;
            for (int parity = 1; parity < rows; parity++) {
                int most = Integer.bitCount(parity) <= t ? Math.min(lean, utmost) : utmost;
                squares += most * most;
            }
            return squares >= size * (rows - size);
        }

        private int leastOfSize(int bits, int t, int size, int lean) {
            int rows = 1 << bits;
            int heap = (1 << size) - 1;
            for (int tried = 0; tried < MOST_OF_A_SIZE && heap < 1 << rows; tried++) {
                if (leansSoLittle(heap, rows, t, lean)) {
                    return heap;
                }
                heap = nextOfSize(heap);
            }
            return NONE;
        }

        private boolean leansSoLittle(int heap, int rows, int t, int lean) {
            int size = Integer.bitCount(heap);
            for (int parity = 1; parity < rows; parity++) {
                if (Integer.bitCount(parity) <= t
                        && Math.abs(size - 2 * Integer.bitCount(heap & oddWith[parity])) > lean) {
                    return false;
                }
            }
            return true;
        }

        /** The next greater number with as many bits. */
        private static int nextOfSize(int heap) {
            int low = heap & -heap;
            if (low == 0) {
                return heap;
            }
            int carried = heap + low;
            return carried | ((carried ^ heap) >>> 2) / low;
        }
    }

    /** A SUM: the numbers of like x, y, z are taken together at once. */
    private static final class Sum {
        static final int POWERS = 4, PLACES = 64;
        private static final int MOST_TERMS = 6;

        /** The number before x, y, z so often stands at 16 x + 4 y + z. */
        final long[] numbers;
        private int terms;

        Sum() {
            numbers = new long[PLACES];
            terms = 0;
        }

        static boolean isPower(int power) {
            return power >= 0 && power < POWERS;
        }

        int add(int number, int x, int y, int z) {
            if (terms >= MOST_TERMS) {
                return FULL;
            }
            numbers[16 * x + 4 * y + z] += number;
            terms++;
            return terms;
        }

        int greatestPower() {
            int greatest = 0;
            for (int place = 0; place < PLACES; place++) {
                if (numbers[place] != 0) {
                    greatest = Math.max(greatest, (place >> 4) + (place >> 2 & 3) + (place & 3));
                }
            }
            return greatest;
        }
    }

    /** Sums at points: x, then y, then z is put in, and a quarter of the numbers is left each time. */
    private static final class Points {
        static final int PLACES = 12;

        private final long[] apart;
        private final long[] withX;
        private final long[] withY;
        private final long[] withZ;
        int alike;
        int firstApart;

        Points() {
            apart = new long[Sum.PLACES];
            withX = new long[16];
            withY = new long[4];
            withZ = new long[1];
            alike = 0;
            firstApart = NONE;
        }

        static boolean isPlace(int place) {
            return place >= 0 && place < PLACES;
        }

        long valueAt(Sum sum, int x, int y, int z) {
            putIn(sum.numbers, withX, x);
            putIn(withX, withY, y);
            putIn(withY, withZ, z);
            return withZ[0];
        }

        /** Sets alike and firstApart, over all points below k. */
        void compare(Sum one, Sum other, int k) {
            for (int i = 0; i < Sum.PLACES; i++) {
                apart[i] = one.numbers[i] - other.numbers[i];
            }
            alike = 0;
            firstApart = NONE;
            for (int x = 0; x < k; x++) {
                putIn(apart, withX, x);
                for (int y = 0; y < k; y++) {
                    putIn(withX, withY, y);
                    compareRow(144 * x + 12 * y, k);
                }
            }
        }

        private void compareRow(int start, int k) {
            for (int z = 0; z < k; z++) {
                putIn(withY, withZ, z);
                if (withZ[0] == 0) {
                    alike++;
                } else if (firstApart == NONE) {
                    firstApart = start + z;
                }
            }
        }

        private static void putIn(long[] numbers, long[] left, int at) {
            int many = left.length;
            if (numbers.length < Sum.POWERS * many) {
                return;
            }
            for (int i = 0; i < many; i++) {
                long sum = numbers[3 * many + i];
                sum = sum * at + numbers[2 * many + i];
                sum = sum * at + numbers[many + i];
                left[i] = sum * at + numbers[i];
            }
        }
    }
}
