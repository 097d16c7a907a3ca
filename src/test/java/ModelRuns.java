import java.math.BigInteger;
import java.nio.charset.StandardCharsets;
import java.util.ArrayList;
import java.util.Arrays;
import java.util.HashMap;
import java.util.List;
import java.util.Map;
import java.util.Random;
import java.util.regex.Matcher;
import java.util.regex.Pattern;

/**
 * Long runs of drawn calls, each answer held against a slow model that follows the document's
 * words: means by going through all cases, heaps by counting, texts by patterns.
 * The draws come from fixed seeds, so that every run is the same.
 */
public final class ModelRuns {
    static final int NONE = -1, UNKNOWN = -2, OUTSIDE = -3, NOT = -4, FULL = -5;
    static final int RUNS = 600, CALLS = 512;
    private static int wrong = 0;

    public static void main(String[] args) {
        Map<String, Integer> answered = new HashMap<>();
        for (int seed = 1; seed <= RUNS && wrong < 20; seed++) {
            new Run(seed, answered).go();
        }
        for (String name : Run.NAMES) {
            if (wrong == 0 && answered.getOrDefault(name, 0) < 800) {
                wrong++;
                System.out.println(name + " was hardly tried with arguments that are not refused");
            }
        }
        allLeast();
        everyTwoBytes();
        System.out.println(wrong == 0 ? "the model agrees" : wrong + " answers are not the model's");
        if (wrong != 0) {
            System.exit(1);
        }
    }

    static void due(String where, long got, long want) {
        if (got != want) {
            wrong++;
            System.out.println(where + " answered " + got + ", the model says " + want);
        }
    }

    private static void allLeast() {
        DrawsOut x = new DrawsOut();
        Model m = new Model();
        int[][] ratios = {{0, 1}, {0, 100}, {1, 100}, {1, 15}, {1, 16}, {1, 14}, {1, 9}, {1, 8}, {1, 7}, {1, 6}, {1, 5},
            {19, 100}, {1, 4}, {24, 100}, {2, 7}, {1, 3}, {33, 100}, {2, 5}, {3, 7}, {1, 2}, {49, 100}, {3, 5}, {59, 100},
            {2, 3}, {3, 4}, {99, 100}, {1, 1}, {100, 99}, {100, 1}};
        for (int k = 1; k <= 4; k++) {
            for (int t = 1; t <= 4; t++) {
                for (int[] r : ratios) {
                    due("least(" + k + ", " + t + ", " + r[0] + ", " + r[1] + ")", x.least(k, t, r[0], r[1]),
                        m.least(k, t, r[0], r[1]));
                }
            }
        }
    }

    /** Each byte at each place of a good line: the fault is where the model sees it. */
    private static void everyTwoBytes() {
        String[] lines = {"0 draw 8;out 0", "1 pick 2 3 4", "0 in 4 ; 7 is 15", "out 7;3less0 1"};
        for (String line : lines) {
            for (int place = 0; place <= line.length(); place++) {
                for (int b = 0; b < 256; b++) {
                    DrawsOut x = new DrawsOut();
                    Model m = new Model();
                    String put = line.substring(0, place) + (char) b + line.substring(Math.min(place + b % 2, line.length()));
                    for (int i = 0; i < put.length(); i++) {
                        x.write(put.charAt(i), 1);
                        m.write(put.charAt(i), 1);
                    }
                    due("fault() of " + put, x.fault(), m.fault());
                    due("program() of " + put, x.program(), m.program());
                }
            }
        }
    }

    /** A run of calls on one object and one model. */
    static final class Run {
        static final String[] NAMES = {"write", "erase", "fault", "program", "draw", "inputs", "run", "right", "odds", "worst",
            "mean", "seen", "kept", "good", "together", "again", "cap", "knots", "edge", "cord", "measure", "expect", "byMeans",
            "best", "heap", "made", "of", "even", "error", "least", "walks", "term", "value", "degree", "same", "pressed", "mixed",
            "count"};
        private final int seed;
        private final Random random;
        private final Map<String, Integer> answered;
        private final DrawsOut x = new DrawsOut();
        private final Model m = new Model();
        private final int theme;
        private int calls = 0;

        Run(int seed, Map<String, Integer> answered) {
            this.seed = seed;
            this.random = new Random(seed);
            this.answered = answered;
            this.theme = seed % 4;
        }

        void go() {
            while (calls < CALLS && wrong < 20) {
                if (random.nextInt(theme == 0 ? 6 : 25) == 0) {
                    writeText();
                } else {
                    oneCall(NAMES[random.nextInt(NAMES.length)]);
                }
            }
        }

        private void check(String name, String call, long got, long want) {
            calls++;
            if (want >= 0) {
                answered.merge(name, 1, Integer::sum);
            }
            due("seed " + seed + ", call " + calls + ": " + call, got, want);
        }

        private int near(int low, int high) {
            int kind = random.nextInt(24);
            if (kind == 0) {
                return low - 1;
            }
            if (kind == 1) {
                return high + 1;
            }
            if (kind == 2) {
                int[] far = {Integer.MIN_VALUE, Integer.MAX_VALUE, -1, -2, 1 << 16, 1 << 30, 256, random.nextInt()};
                return far[random.nextInt(far.length)];
            }
            return low + random.nextInt(high - low + 1);
        }

        private int knotSet() {
            return random.nextInt(12) == 0 ? near(0, 255) : random.nextInt(1 << m.n);
        }

        private void writeText() {
            String text = drawnText();
            byte[] bytes = text.getBytes(StandardCharsets.ISO_8859_1);
            for (int at = 0; at < bytes.length; ) {
                int n = Math.min(random.nextInt(4) > 0 ? 8 : 1 + random.nextInt(8), bytes.length - at);
                long packed = random.nextBoolean() ? 0 : random.nextLong();
                for (int i = 0; i < n; i++) {
                    packed &= ~(255L << 8 * i);
                    packed |= (bytes[at + i] & 255L) << 8 * i;
                }
                check("write", "write(" + packed + ", " + n + ")", x.write(packed, n), m.write(packed, n));
                at += n;
            }
            check("fault", "fault() of " + m.shown(), x.fault(), m.fault());
            if (random.nextInt(10) > 0) {
                check("program", "program()", x.program(), m.program());
            }
            if (random.nextInt(4) > 0) {
                check("erase", "erase()", x.erase(), m.erase());
            }
            if (random.nextBoolean()) {
                int width = random.nextInt(6), truth = random.nextInt(3) == 0 ? random.nextInt() : m.likelyTruth();
                check("inputs", "inputs(" + width + ", " + truth + ")", x.inputs(width, truth), m.inputs(width, truth));
            }
        }

        private String drawnText() {
            StringBuilder text = new StringBuilder();
            int lines = 1 + random.nextInt(random.nextInt(8) == 0 ? 22 : 12);
            int drawsLeft = random.nextInt(5);
            for (int i = 0; i < lines; i++) {
                if (i > 0) {
                    text.append(";");
                }
                text.append(drawnLine(i < drawsLeft));
            }
            int mutations = random.nextInt(5) == 0 ? 1 + random.nextInt(3) : 0;
            String odd = " ;0123456789abiolsADRW\t\n\0.-" + (char) 200 + (char) 255;
            for (int i = 0; i < mutations && text.length() > 0; i++) {
                int at = random.nextInt(text.length());
                char c = odd.charAt(random.nextInt(odd.length()));
                switch (random.nextInt(3)) {
                    case 0 -> text.setCharAt(at, c);
                    case 1 -> text.insert(at, c);
                    default -> text.deleteCharAt(at);
                }
            }
            if (random.nextInt(20) == 0) {
                text.append(random.nextBoolean() ? " " : ";");
            }
            if (text.length() == 0) {
                text.append("out 0");
            }
            return text.toString();
        }

        private String drawnLine(boolean draws) {
            String blank = random.nextInt(6) == 0 ? "  " : " ";
            String gap = random.nextInt(6) == 0 ? "" : blank;
            String cell = cellName();
            int kind = draws ? 0 : random.nextInt(11);
            return switch (kind) {
                case 0 -> cell + gap + "draw" + gap + (random.nextInt(15) == 0 ? near(2, 8) : 2 + random.nextInt(3));
                case 1, 2 -> cell + gap + "in" + gap + random.nextInt(random.nextInt(20) == 0 ? 6 : 5);
                case 3 -> cell + gap + "is" + gap + random.nextInt(random.nextInt(20) == 0 ? 17 : 16);
                case 4 -> cell + gap + "add" + gap + cellName() + blank + cellName();
                case 5 -> cell + gap + "mul" + gap + cellName() + blank + cellName();
                case 6 -> cell + gap + "xor" + gap + cellName() + blank + cellName();
                case 7, 8 -> cell + gap + "less" + gap + cellName() + blank + cellName();
                case 9 -> cell + gap + "pick" + gap + cellName() + blank + cellName() + blank + cellName();
                default -> "out" + gap + cellName();
            };
        }

        private String cellName() {
            int cell = random.nextInt(100) == 0 ? 8 : random.nextInt(random.nextBoolean() ? 3 : 8);
            return random.nextInt(30) == 0 ? "0" + cell : "" + cell;
        }

        private void oneCall(String name) {
            // Themes keep some of the state standing, so that it grows.
            if (name.equals("knots") && theme != 1 && random.nextInt(6) > 0) {
                return;
            }
            int a = near(0, 100), b = near(1, 100);
            if (random.nextInt(3) == 0) {
                b = near(1, 12);
                a = near(0, 12);
            }
            int what = near(0, 1), part = near(0, 1);
            int in = near(0, Math.max(0, m.inputCount() - 1)), row = near(0, m.rows() - 1);
            switch (name) {
                case "write" -> {
                    long bytes = random.nextLong();
                    int n = near(1, 8);
                    if (random.nextInt(8) == 0) {
                        check(name, "write(" + bytes + ", " + n + ")", x.write(bytes, n), m.write(bytes, n));
                    }
                }
                case "erase" -> check(name, "erase()", x.erase(), m.erase());
                case "fault" -> check(name, "fault() of " + m.shown(), x.fault(), m.fault());
                case "program" -> check(name, "program()", x.program(), m.program());
                case "draw" -> {
                    int i = near(0, 4);
                    check(name, "draw(" + i + ")", x.draw(i), m.draw(i));
                }
                case "inputs" -> {
                    int width = near(0, 5), truth = random.nextBoolean() ? random.nextInt() : random.nextInt(16);
                    check(name, "inputs(" + width + ", " + truth + ")", x.inputs(width, truth), m.inputs(width, truth));
                }
                case "run" -> check(name, "run(" + in + ", " + row + ")", x.run(in, row), m.run(in, row));
                case "right" -> check(name, "right(" + in + ", " + row + ")", x.right(in, row), m.right(in, row));
                case "odds" -> check(name, "odds(" + in + ", " + part + ")", x.odds(in, part), m.odds(in, part));
                case "worst" -> {
                    int p = near(0, 2);
                    check(name, "worst(" + p + ")", x.worst(p), m.worst(p));
                }
                case "mean" -> check(name, "mean(" + part + ")", x.mean(part), m.mean(part));
                case "seen" -> {
                    int i = near(0, m.sizes.size());
                    check(name, "seen(" + i + ", " + part + ")", x.seen(i, part), m.seen(i, part));
                }
                case "kept" -> check(name, "kept(" + what + ")", x.kept(what), m.kept(what));
                case "good" -> check(name, "good(" + what + ")", x.good(what), m.good(what));
                case "together" -> {
                    int i = near(-1, 2);
                    check(name, "together(" + i + ")", x.together(i), m.together(i));
                }
                case "again" -> check(name, "again(" + a + ", " + b + ")", x.again(a, b), m.again(a, b));
                case "cap" -> check(name, "cap(" + a + ", " + b + ")", x.cap(a, b), m.cap(a, b));
                default -> knotCall(name, what, part, a, b);
            }
        }

        private void knotCall(String name, int what, int part, int a, int b) {
            int set = knotSet();
            switch (name) {
                case "knots" -> {
                    int n = near(1, 8);
                    check(name, "knots(" + n + ")", x.knots(n), m.knots(n));
                }
                case "edge" -> {
                    int p = near(0, m.n - 1), q = near(0, m.n - 1), w = near(1, 99);
                    check(name, "edge(" + p + ", " + q + ", " + w + ")", x.edge(p, q, w), m.edge(p, q, w));
                }
                case "cord" -> check(name, "cord(" + set + ")", x.cord(set), m.cord(set));
                case "measure" -> check(name, "measure(" + what + ", " + set + ")", x.measure(what, set), m.measure(what, set));
                case "expect" -> {
                    int sides = random.nextInt(8) == 0 ? knotSet() : set & random.nextInt();
                    check(name, "expect(" + what + ", " + set + ", " + sides + ", " + part + ")", x.expect(what, set, sides, part),
                        m.expect(what, set, sides, part));
                }
                case "byMeans" -> check(name, "byMeans(" + what + ")", x.byMeans(what), m.byMeans(what));
                case "best" -> check(name, "best(" + what + ")", x.best(what), m.best(what));
                case "heap" -> check(name, "heap(" + set + ")", x.heap(set), m.heap(set));
                case "made" -> {
                    int t = near(2, 3);
                    check(name, "made(" + t + ")", x.made(t), m.made(t));
                }
                case "of" -> check(name, "of(" + what + ")", x.of(what), m.of(what));
                case "even" -> {
                    int t = near(1, 3);
                    check(name, "even(" + t + ")", x.even(t), m.even(t));
                }
                case "error" -> {
                    int t = near(1, 8);
                    check(name, "error(" + t + ", " + part + ")", x.error(t, part), m.error(t, part));
                }
                case "least" -> {
                    int k = near(1, 4), t = near(1, 4);
                    check(name, "least(" + k + ", " + t + ", " + a + ", " + b + ")", x.least(k, t, a, b), m.least(k, t, a, b));
                }
                case "walks" -> {
                    int t = near(0, 8);
                    check(name, "walks(" + set + ", " + t + ")", x.walks(set, t), m.walks(set, t));
                }
                default -> sumCall(name, what, part);
            }
        }

        private void sumCall(String name, int what, int part) {
            int sum = near(0, 1);
            switch (name) {
                case "term" -> {
                    boolean cancel = random.nextBoolean() && sum == 1 && m.terms.get(0).size() > m.terms.get(1).size();
                    int[] t = cancel ? m.terms.get(0).get(m.terms.get(1).size()).clone()
                        : new int[] {near(-9, 9), near(0, 3), near(0, 3), near(0, 3)};
                    if (random.nextInt(5) == 0 && (sum == 0 || sum == 1) && !m.terms.get(sum).isEmpty()) {
                        t = m.terms.get(sum).get(m.terms.get(sum).size() - 1).clone();
                        t[0] = -t[0];
                    }
                    check(name, "term(" + sum + ", " + Arrays.toString(t) + ")", x.term(sum, t[0], t[1], t[2], t[3]),
                        m.term(sum, t[0], t[1], t[2], t[3]));
                }
                case "value" -> {
                    int p = near(0, 11), q = near(0, 11), r = near(0, 11);
                    check(name, "value(" + sum + ", " + p + ", " + q + ", " + r + ")", x.value(sum, p, q, r), m.value(sum, p, q, r));
                }
                case "degree" -> check(name, "degree(" + sum + ")", x.degree(sum), m.degree(sum));
                case "same" -> {
                    int k = near(1, random.nextInt(4) == 0 ? 12 : 4);
                    check(name, "same(" + k + ", " + what + ")", x.same(k, what), m.same(k, what));
                }
                case "pressed" -> {
                    long bits = random.nextLong();
                    int n = near(0, 32), i = near(-1, 9);
                    check(name, "pressed(" + bits + ", " + n + ", " + i + ")", x.pressed(bits, n, i), m.pressed(bits, n, i));
                }
                case "mixed" -> {
                    int one = near(1, 65535), two = near(1, 65535);
                    check(name, "mixed(" + one + ", " + two + ", " + part + ")", x.mixed(one, two, part), m.mixed(one, two, part));
                }
                case "count" -> {
                    int w = near(0, 7);
                    check(name, "count(" + w + ")", x.count(w), m.count(w));
                }
                default -> throw new IllegalStateException(name);
            }
        }
    }

    /** The document's words, as plainly and slowly as can be. */
    static final class Model {
        private static final Pattern TOKEN = Pattern.compile("[a-z]+|[0-9]+|[^ ]", Pattern.DOTALL);
        private static final Map<Integer, int[][]> LEANS = new HashMap<>();

        private String text = "";
        private List<String[]> lines = new ArrayList<>();
        List<Integer> sizes = new ArrayList<>();
        private int width = 0, truth = 0;
        int n = 4;
        private final List<int[]> edges = new ArrayList<>();
        private final List<Integer> cords = new ArrayList<>();
        private final List<Integer> heap = new ArrayList<>();
        final List<List<int[]>> terms = List.of(new ArrayList<>(), new ArrayList<>());
        private boolean[][] rights = null;

        String shown() {
            return "\"" + text + "\"";
        }

        int write(long bytes, int count) {
            if (count < 1 || count > 8) {
                return OUTSIDE;
            }
            if (text.length() + count > 200) {
                return FULL;
            }
            for (int i = 0; i < count; i++) {
                text += (char) (bytes >> 8 * i & 255);
            }
            return text.length();
        }

        int erase() {
            int had = text.length();
            text = "";
            return had;
        }

        private static String shape(String verb) {
            return switch (verb) {
                case "draw" -> "N";
                case "in" -> "X";
                case "is" -> "V";
                case "add", "mul", "xor", "less" -> "RR";
                case "pick" -> "RRR";
                default -> null;
            };
        }

        private static boolean fits(String token, char kind) {
            if (!token.matches("[0-9]{1,2}")) {
                return false;
            }
            int v = Integer.parseInt(token);
            return switch (kind) {
                case 'R' -> v <= 7;
                case 'N' -> v >= 2 && v <= 8;
                case 'X' -> v <= 4;
                default -> v <= 15;
            };
        }

        int fault() {
            List<String> tokens = new ArrayList<>();
            List<Integer> places = new ArrayList<>();
            Matcher matcher = TOKEN.matcher(text);
            while (matcher.find()) {
                tokens.add(matcher.group());
                places.add(matcher.start());
            }
            places.add(text.length());
            // What may come next: S a line's start, W a verb, E a line's end, R N X V numbers.
            String wanted = "S";
            int lineCount = 0, rowCount = 1;
            for (int i = 0; i < tokens.size(); i++) {
                String token = tokens.get(i);
                char want = wanted.charAt(0);
                wanted = wanted.substring(1);
                boolean fine = true;
                switch (want) {
                    case 'S' -> {
                        lineCount++;
                        wanted = token.equals("out") ? "RE" : "WE";
                        fine = token.equals("out") || fits(token, 'R');
                    }
                    case 'W' -> {
                        fine = shape(token) != null;
                        wanted = shape(token) + "E";
                    }
                    case 'E' -> {
                        fine = token.equals(";") && lineCount < 20;
                        wanted = "S";
                    }
                    case 'N' -> {
                        fine = fits(token, 'N') && rowCount * Integer.parseInt(token) <= 64;
                        rowCount *= fine ? Integer.parseInt(token) : 1;
                    }
                    default -> fine = fits(token, want);
                }
                if (!fine) {
                    return places.get(i);
                }
            }
            return wanted.equals("E") ? NONE : text.length();
        }

        int program() {
            if (fault() != NONE) {
                return NOT;
            }
            lines = new ArrayList<>();
            sizes = new ArrayList<>();
            for (String line : text.split(";")) {
                List<String> tokens = new ArrayList<>();
                Matcher matcher = TOKEN.matcher(line);
                while (matcher.find()) {
                    tokens.add(matcher.group());
                }
                lines.add(tokens.toArray(new String[0]));
                if (tokens.get(1).equals("draw")) {
                    sizes.add(Integer.parseInt(tokens.get(2)));
                }
            }
            text = "";
            rights = null;
            return rows();
        }

        int rows() {
            int rows = 1;
            for (int size : sizes) {
                rows *= size;
            }
            return rows;
        }

        int inputCount() {
            return (int) Math.pow(2, width);
        }

        int draw(int i) {
            return i < 0 || i >= sizes.size() ? UNKNOWN : sizes.get(i);
        }

        int inputs(int newWidth, int newTruth) {
            if (newWidth < 0 || newWidth > 5) {
                return OUTSIDE;
            }
            width = newWidth;
            truth = newTruth;
            rights = null;
            return inputCount();
        }

        /** What the program mostly tells: with it odds are good, and rows right for all more often there. */
        int likelyTruth() {
            int likely = 0, oldWidth = width;
            width = 5;
            for (int input = 0; input < 32; input++) {
                int notZero = 0;
                for (int row = 0; row < rows(); row++) {
                    notZero += run(input, row) != 0 ? 1 : 0;
                }
                likely |= 2 * notZero > rows() ? 1 << input : 0;
            }
            width = oldWidth;
            return likely;
        }

        private boolean known(int input, int row) {
            return input >= 0 && input < inputCount() && row >= 0 && row < rows();
        }

        /** The numbers that a row gives to the draws, found by counting up from all 0. */
        private int[] numbers(int row) {
            int[] numbers = new int[sizes.size()];
            for (int i = 0; i < row; i++) {
                int at = numbers.length - 1;
                while (numbers[at] == sizes.get(at) - 1) {
                    numbers[at] = 0;
                    at--;
                }
                numbers[at]++;
            }
            return numbers;
        }

        int run(int input, int row) {
            if (!known(input, row)) {
                return UNKNOWN;
            }
            int[] numbers = numbers(row);
            int[] cell = new int[8];
            int out = 0, drawn = 0;
            for (String[] line : lines) {
                if (line[0].equals("out")) {
                    out = cell[Integer.parseInt(line[1])];
                    continue;
                }
                int[] v = new int[line.length];
                for (int i = 2; i < line.length; i++) {
                    v[i] = Integer.parseInt(line[i]);
                }
                int to = Integer.parseInt(line[0]);
                cell[to] = switch (line[1]) {
                    case "draw" -> numbers[drawn++];
                    case "in" -> Integer.toBinaryString(input + 32).charAt(5 - v[2]) - '0';
                    case "is" -> v[2];
                    case "add" -> (cell[v[2]] + cell[v[3]]) % 16;
                    case "mul" -> (cell[v[2]] * cell[v[3]]) % 16;
                    case "xor" -> (cell[v[2]] | cell[v[3]]) - (cell[v[2]] & cell[v[3]]);
                    case "less" -> cell[v[2]] < cell[v[3]] ? 1 : 0;
                    case "pick" -> cell[v[2]] != 0 ? cell[v[3]] : cell[v[4]];
                    default -> throw new IllegalStateException(line[1]);
                };
            }
            return out;
        }

        int right(int input, int row) {
            if (!known(input, row)) {
                return UNKNOWN;
            }
            boolean told = BigInteger.valueOf(truth).testBit(input);
            return (run(input, row) != 0) == told ? 1 : 0;
        }

        private boolean isRight(int input, int row) {
            if (rights == null) {
                rights = new boolean[inputCount()][rows()];
                for (int i = 0; i < inputCount(); i++) {
                    for (int r = 0; r < rows(); r++) {
                        rights[i][r] = right(i, r) == 1;
                    }
                }
            }
            return rights[input][row];
        }

        private Part oddsOf(int input) {
            int many = 0;
            for (int row = 0; row < rows(); row++) {
                many += isRight(input, row) ? 1 : 0;
            }
            return Part.of(many, rows());
        }

        int odds(int input, int part) {
            if (input < 0 || input >= inputCount()) {
                return UNKNOWN;
            }
            return part < 0 || part > 1 ? OUTSIDE : oddsOf(input).told(part);
        }

        int worst(int part) {
            if (part < 0 || part > 2) {
                return OUTSIDE;
            }
            int worst = 0;
            for (int input = 0; input < inputCount(); input++) {
                if (oddsOf(input).compareTo(oddsOf(worst)) < 0) {
                    worst = input;
                }
            }
            return part == 2 ? worst : oddsOf(worst).told(part);
        }

        int mean(int part) {
            if (part < 0 || part > 1) {
                return OUTSIDE;
            }
            Part sum = Part.of(0, 1);
            for (int input = 0; input < inputCount(); input++) {
                sum = sum.plus(oddsOf(input));
            }
            return sum.times(Part.of(1, inputCount())).told(part);
        }

        private List<Integer> rowsThatBegin(int[] numbers, int many) {
            List<Integer> found = new ArrayList<>();
            for (int row = 0; row < rows(); row++) {
                if (Arrays.equals(Arrays.copyOf(numbers(row), many), Arrays.copyOf(numbers, many))) {
                    found.add(row);
                }
            }
            return found;
        }

        int seen(int i, int part) {
            if (i < 0 || i > sizes.size()) {
                return UNKNOWN;
            }
            if (part < 0 || part > 1) {
                return OUTSIDE;
            }
            Part sum = Part.of(0, 1);
            int cases = 0;
            boolean[] had = new boolean[rows()];
            for (int row = 0; row < rows(); row++) {
                if (had[row]) {
                    continue;
                }
                List<Integer> group = rowsThatBegin(numbers(row), i);
                Part least = Part.of(1, 1);
                for (int input = 0; input < inputCount(); input++) {
                    int many = 0;
                    for (int member : group) {
                        had[member] = true;
                        many += isRight(input, member) ? 1 : 0;
                    }
                    Part p = Part.of(many, group.size());
                    least = p.compareTo(least) < 0 ? p : least;
                }
                sum = sum.plus(least);
                cases++;
            }
            return sum.times(Part.of(1, cases)).told(part);
        }

        private int inputsRightBy(int row) {
            int many = 0;
            for (int input = 0; input < inputCount(); input++) {
                many += isRight(input, row) ? 1 : 0;
            }
            return many;
        }

        int kept(int what) {
            if (what < 0 || what > 1) {
                return OUTSIDE;
            }
            int[] fixed = new int[sizes.size()];
            for (int draw = 0; draw < fixed.length; draw++) {
                int best = -1;
                Part bestMean = null;
                for (int number = 0; number < sizes.get(draw); number++) {
                    fixed[draw] = number;
                    List<Integer> group = rowsThatBegin(fixed, draw + 1);
                    int many = 0;
                    for (int row : group) {
                        many += inputsRightBy(row);
                    }
                    Part mean = Part.of(many, group.size() * inputCount());
                    if (best == -1 || mean.compareTo(bestMean) > 0) {
                        best = number;
                        bestMean = mean;
                    }
                }
                fixed[draw] = best;
            }
            int row = rowsThatBegin(fixed, fixed.length).get(0);
            return what == 0 ? inputsRightBy(row) : row;
        }

        int good(int what) {
            if (what < 0 || what > 1) {
                return OUTSIDE;
            }
            List<Integer> good = new ArrayList<>();
            for (int row = 0; row < rows(); row++) {
                if (inputsRightBy(row) == inputCount()) {
                    good.add(row);
                }
            }
            if (what == 0) {
                return good.size();
            }
            return good.isEmpty() ? NONE : good.get(0);
        }

        int together(int i) {
            if (i < -1) {
                return OUTSIDE;
            }
            List<Integer> open = new ArrayList<>();
            for (int input = 0; input < inputCount(); input++) {
                open.add(input);
            }
            List<Integer> chosen = new ArrayList<>();
            while (!open.isEmpty()) {
                long most = 0;
                int best = -1;
                for (int row = 0; row < rows(); row++) {
                    int candidate = row;
                    long many = open.stream().filter(input -> isRight(input, candidate)).count();
                    if (many > most) {
                        most = many;
                        best = row;
                    }
                }
                if (best == -1) {
                    return NONE;
                }
                int taken = best;
                chosen.add(best);
                open.removeIf(input -> isRight(input, taken));
            }
            if (i == -1) {
                return chosen.size();
            }
            return i < chosen.size() ? chosen.get(i) : NONE;
        }

        private static boolean ratio(int a, int b) {
            return a >= 0 && a <= 100 && b >= 1 && b <= 100;
        }

        /** The chance that more than half of the runs are right, over all ways they may end. */
        private static Part majority(Part odds, int runs) {
            Part wrong = Part.of(1, 1).plus(odds.times(Part.of(-1, 1)));
            Part sum = Part.of(0, 1);
            for (int ends = 0; ends < 1 << runs; ends++) {
                if (2 * Integer.bitCount(ends) > runs) {
                    Part chance = Part.of(1, 1);
                    for (int i = 0; i < runs; i++) {
                        chance = chance.times((ends >> i & 1) == 1 ? odds : wrong);
                    }
                    sum = sum.plus(chance);
                }
            }
            return sum;
        }

        int again(int a, int b) {
            if (!ratio(a, b)) {
                return OUTSIDE;
            }
            Map<String, Part> unlike = new HashMap<>();
            for (int input = 0; input < inputCount(); input++) {
                unlike.put(oddsOf(input).toString(), oddsOf(input));
            }
            for (int runs = 1; runs <= 7; runs += 2) {
                boolean all = true;
                for (Part odds : unlike.values()) {
                    all &= majority(odds, runs).compareTo(Part.of(a, b)) >= 0;
                }
                if (all) {
                    return runs;
                }
            }
            return NONE;
        }

        int cap(int a, int b) {
            if (!ratio(a, b)) {
                return OUTSIDE;
            }
            for (int runs = 1; runs <= 7; runs++) {
                boolean all = true;
                for (int input = 0; input < inputCount(); input++) {
                    Part wrong = Part.of(1, 1).plus(oddsOf(input).times(Part.of(-1, 1)));
                    Part chance = Part.of(1, 1);
                    for (int i = 0; i < runs; i++) {
                        chance = chance.times(wrong);
                    }
                    all &= chance.compareTo(Part.of(a, b)) <= 0;
                }
                if (all) {
                    return runs;
                }
            }
            return NONE;
        }

        int knots(int count) {
            if (count < 1 || count > 8) {
                return OUTSIDE;
            }
            n = count;
            edges.clear();
            cords.clear();
            heap.clear();
            return 1;
        }

        int edge(int a, int b, int weight) {
            if (a < 0 || b < 0 || a >= n || b >= n || a == b) {
                return UNKNOWN;
            }
            if (weight < 1 || weight > 99) {
                return OUTSIDE;
            }
            if (edges.size() == 16) {
                return FULL;
            }
            edges.add(new int[] {a, b, weight});
            return edges.size();
        }

        private boolean strange(int set) {
            return set < 0 || set >= Math.pow(2, n);
        }

        int cord(int set) {
            if (strange(set) || Integer.bitCount(set) < 2) {
                return OUTSIDE;
            }
            if (cords.size() == 10) {
                return FULL;
            }
            cords.add(set);
            return cords.size();
        }

        private static int side(int sides, int knot) {
            return sides / (int) Math.pow(2, knot) % 2;
        }

        int measure(int what, int sides) {
            if (what < 0 || what > 1 || strange(sides)) {
                return OUTSIDE;
            }
            int found = 0;
            if (what == 0) {
                for (int[] e : edges) {
                    found += side(sides, e[0]) != side(sides, e[1]) ? e[2] : 0;
                }
                return found;
            }
            for (int cord : cords) {
                boolean zero = false, one = false;
                for (int knot = 0; knot < n; knot++) {
                    if (side(cord, knot) == 1) {
                        zero |= side(sides, knot) == 0;
                        one |= side(sides, knot) == 1;
                    }
                }
                found += zero && one ? 0 : 1;
            }
            return found;
        }

        private Part meanOf(int what, int fixed, int sides) {
            int sum = 0, cases = 0;
            for (int full = 0; full < 1 << n; full++) {
                if ((full & fixed) == sides) {
                    sum += measure(what, full);
                    cases++;
                }
            }
            return Part.of(sum, cases);
        }

        int expect(int what, int fixed, int sides, int part) {
            if (what < 0 || what > 1 || part < 0 || part > 1 || strange(fixed) || strange(sides) || (sides | fixed) != fixed) {
                return OUTSIDE;
            }
            return meanOf(what, fixed, sides).told(part);
        }

        int byMeans(int what) {
            if (what < 0 || what > 1) {
                return OUTSIDE;
            }
            int sides = 0;
            for (int knot = 0; knot < n; knot++) {
                int fixed = (2 << knot) - 1;
                int way = meanOf(what, fixed, sides + (1 << knot)).compareTo(meanOf(what, fixed, sides));
                sides += (what == 0 ? way > 0 : way < 0) ? 1 << knot : 0;
            }
            return sides;
        }

        private int bestAmong(int what, List<Integer> some) {
            int best = -1, found = 0;
            for (int sides : some) {
                int m = measure(what, sides) * (what == 0 ? 1 : -1);
                if (best == -1 || m > found) {
                    best = sides;
                    found = m;
                }
            }
            return best;
        }

        int best(int what) {
            if (what < 0 || what > 1) {
                return OUTSIDE;
            }
            List<Integer> all = new ArrayList<>();
            for (int sides = 0; sides < 1 << n; sides++) {
                all.add(sides);
            }
            return bestAmong(what, all);
        }

        int heap(int sides) {
            if (strange(sides)) {
                return OUTSIDE;
            }
            if (heap.size() == 32) {
                return FULL;
            }
            heap.add(sides);
            return heap.size();
        }

        int made(int t) {
            if (t < 2 || t > 3) {
                return OUTSIDE;
            }
            int m = 0;
            while (Math.pow(2, m) <= n) {
                m++;
            }
            heap.clear();
            for (int s = 0; s < Math.pow(2, t == 2 ? m : m + 1); s++) {
                int sides = 0;
                for (int i = 0; i < n; i++) {
                    int other = t == 2 ? i + 1 : 2 * (i + 1) + 1;
                    sides += Integer.bitCount(s & other) % 2 == 1 ? 1 << i : 0;
                }
                heap.add(sides);
            }
            return heap.size();
        }

        int of(int what) {
            return what < 0 || what > 1 ? OUTSIDE : bestAmong(what, heap);
        }

        int even(int t) {
            if (t < 1 || t > 3 || t > n) {
                return OUTSIDE;
            }
            if (heap.isEmpty()) {
                return NOT;
            }
            for (int set = 0; set < 1 << n; set++) {
                if (Integer.bitCount(set) == t) {
                    Map<Integer, Integer> often = new HashMap<>();
                    for (int sides : heap) {
                        often.merge(sides & set, 1, Integer::sum);
                    }
                    if (often.size() != 1 << t || often.values().stream().distinct().count() != 1) {
                        return 0;
                    }
                }
            }
            return 1;
        }

        int error(int t, int part) {
            if (t < 1 || t > 8 || part < 0 || part > 1) {
                return OUTSIDE;
            }
            if (heap.isEmpty()) {
                return NOT;
            }
            Part greatest = Part.of(0, 1);
            for (int set = 1; set < 1 << n; set++) {
                if (Integer.bitCount(set) <= t) {
                    int odd = 0, even = 0;
                    for (int sides : heap) {
                        if (Integer.bitCount(sides & set) % 2 == 1) {
                            odd++;
                        } else {
                            even++;
                        }
                    }
                    Part p = Part.of(Math.abs(odd - even), heap.size());
                    greatest = p.compareTo(greatest) > 0 ? p : greatest;
                }
            }
            return greatest.told(part);
        }

        /** For each heap of rows of k sides, by bits: how far it leans for t 1 .. 4. */
        private static int[][] leans(int k) {
            return LEANS.computeIfAbsent(k, key -> {
                int[][] all = new int[1 << (1 << k)][5];
                for (int heap = 1; heap < all.length; heap++) {
                    for (int set = 1; set < 1 << k; set++) {
                        int lean = 0;
                        for (int row = 0; row < 1 << k; row++) {
                            if ((heap >> row & 1) == 1) {
                                lean += Integer.bitCount(row & set) % 2 == 0 ? 1 : -1;
                            }
                        }
                        for (int t = Integer.bitCount(set); t <= 4; t++) {
                            all[heap][t] = Math.max(all[heap][t], Math.abs(lean));
                        }
                    }
                }
                return all;
            });
        }

        int least(int k, int t, int a, int b) {
            if (k < 1 || k > 4 || t < 1 || t > 4 || !ratio(a, b)) {
                return OUTSIDE;
            }
            int[][] leans = leans(k);
            int best = -1;
            for (int heap = 1; heap < leans.length; heap++) {
                int size = Integer.bitCount(heap);
                if (leans[heap][t] * b <= a * size && (best == -1 || size < Integer.bitCount(best))) {
                    best = heap;
                }
            }
            return best;
        }

        int walks(int set, int t) {
            if (strange(set) || t < 0 || t > 8) {
                return OUTSIDE;
            }
            BigInteger sum = BigInteger.ZERO;
            Map<String, BigInteger> had = new HashMap<>();
            for (int knot = 0; knot < n; knot++) {
                sum = sum.add(walksFrom(knot, set, t, had));
            }
            return sum.min(BigInteger.valueOf(999999999)).intValueExact();
        }

        private BigInteger walksFrom(int knot, int set, int t, Map<String, BigInteger> had) {
            if (side(set, knot) == 0) {
                return BigInteger.ZERO;
            }
            if (t == 0) {
                return BigInteger.ONE;
            }
            String key = knot + " " + t;
            if (!had.containsKey(key)) {
                BigInteger sum = BigInteger.ZERO;
                for (int[] e : edges) {
                    if (e[0] == knot || e[1] == knot) {
                        sum = sum.add(walksFrom(e[0] == knot ? e[1] : e[0], set, t - 1, had));
                    }
                }
                had.put(key, sum);
            }
            return had.get(key);
        }

        int term(int sum, int number, int px, int py, int pz) {
            if (sum < 0 || sum > 1) {
                return UNKNOWN;
            }
            if (number < -9 || number > 9 || px < 0 || px > 3 || py < 0 || py > 3 || pz < 0 || pz > 3) {
                return OUTSIDE;
            }
            if (terms.get(sum).size() == 6) {
                return FULL;
            }
            terms.get(sum).add(new int[] {number, px, py, pz});
            return terms.get(sum).size();
        }

        long value(int sum, int px, int py, int pz) {
            if (sum < 0 || sum > 1 || px < 0 || px > 11 || py < 0 || py > 11 || pz < 0 || pz > 11) {
                return Long.MIN_VALUE;
            }
            BigInteger value = BigInteger.ZERO;
            for (int[] t : terms.get(sum)) {
                value = value.add(BigInteger.valueOf(t[0]).multiply(BigInteger.valueOf(px).pow(t[1]))
                    .multiply(BigInteger.valueOf(py).pow(t[2])).multiply(BigInteger.valueOf(pz).pow(t[3])));
            }
            return value.longValueExact();
        }

        int degree(int sum) {
            if (sum < 0 || sum > 1) {
                return UNKNOWN;
            }
            int degree = 0;
            for (int[] t : terms.get(sum)) {
                int number = 0;
                for (int[] u : terms.get(sum)) {
                    number += t[1] == u[1] && t[2] == u[2] && t[3] == u[3] ? u[0] : 0;
                }
                degree = number == 0 ? degree : Math.max(degree, t[1] + t[2] + t[3]);
            }
            return degree;
        }

        int same(int k, int what) {
            if (k < 1 || k > 12 || what < 0 || what > 1) {
                return OUTSIDE;
            }
            int many = 0, apart = NONE;
            for (int px = 0; px < k; px++) {
                for (int py = 0; py < k; py++) {
                    for (int pz = 0; pz < k; pz++) {
                        if (value(0, px, py, pz) == value(1, px, py, pz)) {
                            many++;
                        } else if (apart == NONE) {
                            apart = 144 * px + 12 * py + pz;
                        }
                    }
                }
            }
            return what == 0 ? many : apart;
        }

        int pressed(long bits, int count, int i) {
            if (count < 0 || count > 32 || i < -1) {
                return OUTSIDE;
            }
            StringBuilder row = new StringBuilder();
            for (int at = 0; at < count; at++) {
                row.append(BigInteger.valueOf(bits).testBit(at) ? '1' : '0');
            }
            StringBuilder out = new StringBuilder();
            for (int at = 0; at + 2 <= count; at += 2) {
                String two = row.substring(at, at + 2);
                out.append(two.equals("01") ? "0" : two.equals("10") ? "1" : "");
            }
            if (i == -1) {
                return out.length();
            }
            return i < out.length() ? out.charAt(i) - '0' : NONE;
        }

        int mixed(int one, int two, int part) {
            if (one < 1 || one > 65535 || two < 1 || two > 65535 || part < 0 || part > 1) {
                return OUTSIDE;
            }
            int odd = 0, even = 0;
            for (int p = 0; p < 16; p++) {
                for (int q = 0; q < 16; q++) {
                    if ((one >> p & two >> q & 1) == 1) {
                        if (Integer.bitCount(p & q) % 2 == 1) {
                            odd++;
                        } else {
                            even++;
                        }
                    }
                }
            }
            return Part.of(Math.abs(odd - even), odd + even).told(part);
        }

        int count(int what) {
            return switch (what) {
                case 0 -> text.length();
                case 1 -> lines.size();
                case 2 -> sizes.size();
                case 3 -> rows();
                case 4 -> inputCount();
                case 5 -> edges.size();
                case 6 -> cords.size();
                case 7 -> heap.size();
                default -> OUTSIDE;
            };
        }
    }

    /** A part, always in lowest terms. */
    record Part(BigInteger above, BigInteger below) implements Comparable<Part> {
        static Part of(long above, long below) {
            return lowest(BigInteger.valueOf(above), BigInteger.valueOf(below));
        }

        private static Part lowest(BigInteger above, BigInteger below) {
            BigInteger common = above.gcd(below);
            return new Part(above.divide(common), below.divide(common));
        }

        Part plus(Part o) {
            return lowest(above.multiply(o.below).add(o.above.multiply(below)), below.multiply(o.below));
        }

        Part times(Part o) {
            return lowest(above.multiply(o.above), below.multiply(o.below));
        }

        int told(int part) {
            return (part == 0 ? above : below).intValueExact();
        }

        @Override
        public int compareTo(Part o) {
            return above.multiply(o.below).compareTo(o.above.multiply(below));
        }
    }
}
