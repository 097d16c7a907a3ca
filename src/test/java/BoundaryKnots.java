import java.util.ArrayList;
import java.util.List;

/** Promises 19 to 32 at their bounds: knots, edges, cords, sides, means, heaps, walks. */
public final class BoundaryKnots {
    private static final int NONE = Bench.NONE, UNKNOWN = Bench.UNKNOWN, OUTSIDE = Bench.OUTSIDE, NOT = Bench.NOT,
        FULL = Bench.FULL, LEAST = Bench.LEAST, MOST = Bench.MOST;
    private static final int[] NO_CHOICE = {LEAST, -3, -2, -1, 2, 3, 4, 255, 256, 1 << 16, MOST};
    /** Bits of no knots, however many knots there are. */
    private static final int[] NO_KNOTS = {LEAST, LEAST | 1, -256, -2, -1, 256, 257, 259, 511, 512, 1 << 16, 1 << 30, MOST};

    public static void main(String[] args) {
        knots();
        edgeKnots();
        edgeWeights();
        edgeRoom();
        cord();
        cordRoom();
        measure();
        expectBounds();
        expectMeans();
        byMeans();
        best();
        heap();
        made();
        of();
        even();
        error();
        leastBounds();
        leastHeaps();
        leastOfAllParts();
        walks();
        Bench.finish(19, 32);
    }

    private static void due(String call, long got, long want) {
        Bench.due(call, got, want);
    }

    private static void knots() {
        Bench.promise(19);
        for (int n : new int[] {LEAST, -8, -1, 0, 9, 10, 16, 32, 33, 256, 257, MOST}) {
            Bench.refusedAlways("knots(" + n + ")", x -> x.knots(n), OUTSIDE);
        }
        for (int n = 1; n <= 8; n++) {
            int many = n;
            DrawsOut x = Bench.made(Bench.FULL_STATE);
            due("knots(" + n + ")", x.knots(n), 1);
            due("no edges", x.count(5), 0);
            due("no cords", x.count(6), 0);
            due("an empty heap", x.count(7), 0);
            due("of(0) of it", x.of(0), NONE);
            due("even(1) of it", x.even(1), NOT);
            due("the last knot", x.measure(0, 1 << n - 1), 0);
            due("none behind it", x.measure(0, 1 << n), OUTSIDE);
            due("ONE without cords", x.measure(1, 0), 0);
            due("walks without edges", x.walks((1 << n) - 1, 1), 0);
            due("walks of no step", x.walks((1 << n) - 1, 0), n);
            // Nothing but knots, edges, cords and the heap is new, and they are wholly so.
            Bench.alike("knots(" + n + ") over others", Bench.join(Bench.SOME_BUT_TEXT, Bench.knots(many)),
                Bench.join(Bench.SOME_BUT_TEXT, Bench.knots(8), Bench.edges(0, 7, 99, 6, 7, 1), Bench.cords(255, 192),
                    Bench.heap(255, 128, 7), Bench.knots(many)));
        }
        Bench.taken(Bench.SOME, "knots(5) of five", x -> x.knots(5), 1);
        Bench.taken(Bench.FULL_STATE, "knots(8) of eight", x -> x.knots(8), 1);
        Bench.taken(Bench.NEW, "knots(1) of a new object", x -> x.knots(1), 1);
        Bench.asked(Bench.NEW, "knots(4) of a new object", x -> x.knots(4), 1);
        DrawsOut x = Bench.made(Bench.FULL_STATE);
        x.knots(8);
        due("text stays", x.count(0), 200);
        due("lines stay", x.count(1), 20);
        due("inputs stay", x.count(4), 32);
        due("terms stay", x.term(0, 1, 0, 0, 0), FULL);
        due("an edge has room again", x.edge(0, 1, 1), 1);
        due("a cord has room again", x.cord(3), 1);
        due("the heap has room again", x.heap(3), 1);
    }

    private static void edgeKnots() {
        Bench.promise(20);
        int[] noKnot = {LEAST, -2, -1, 8, 9, 32, 33, 256, MOST};
        for (int knot : noKnot) {
            for (int weight : new int[] {1, 0, 100, LEAST}) {
                Bench.refusedAlways("edge(" + knot + ", 0, " + weight + "): UNKNOWN is ahead", x -> x.edge(knot, 0, weight), UNKNOWN);
                Bench.refusedAlways("edge(0, " + knot + ", " + weight + "): UNKNOWN is ahead", x -> x.edge(0, knot, weight), UNKNOWN);
                Bench.refusedAlways("edge(" + knot + ", " + knot + ", " + weight + ")", x -> x.edge(knot, knot, weight), UNKNOWN);
            }
        }
        for (int n = 1; n <= 8; n++) {
            List<Bench.Call> state = Bench.knots(n);
            int last = n - 1, beyond = n;
            for (int knot = 0; knot < n; knot++) {
                int same = knot;
                Bench.refused(state, "edge of " + knot + " and itself", x -> x.edge(same, same, 1), UNKNOWN);
            }
            Bench.refused(state, "edge(0, " + n + ") of " + n, x -> x.edge(0, beyond, 1), UNKNOWN);
            Bench.refused(state, "edge(" + n + ", 0) of " + n, x -> x.edge(beyond, 0, 1), UNKNOWN);
            if (n > 1) {
                Bench.taken(state, "edge(0, " + last + ") of " + n, x -> x.edge(0, last, 1), 1);
                Bench.taken(state, "edge(" + last + ", 0) of " + n, x -> x.edge(last, 0, 1), 1);
            }
        }
        Bench.refused(Bench.SOME, "an edge of one and itself, of a weight that is none", x -> x.edge(2, 2, 0), UNKNOWN);
        Bench.refused(Bench.FULL_STATE, "UNKNOWN is ahead of FULL", x -> x.edge(8, 0, 1), UNKNOWN);
        Bench.refused(Bench.FULL_STATE, "UNKNOWN is ahead of FULL: itself", x -> x.edge(7, 7, 1), UNKNOWN);
        Bench.refused(Bench.FULL_STATE, "UNKNOWN is ahead of OUTSIDE and FULL", x -> x.edge(7, 7, 100), UNKNOWN);
        Bench.alike("an edge has no direction", Bench.edges(0, 3, 7), Bench.edges(3, 0, 7));
    }

    private static void edgeWeights() {
        Bench.promise(20);
        for (int weight : new int[] {LEAST, -99, -1, 0, 100, 101, 128, 256, 257, MOST}) {
            Bench.refusedAlways("edge(0, 1, " + weight + ")", x -> x.edge(0, 1, weight), OUTSIDE);
        }
        for (int weight : new int[] {1, 2, 98, 99}) {
            Bench.taken(Bench.NEW, "edge(0, 1, " + weight + ")", x -> x.edge(0, 1, weight), 1);
            DrawsOut x = Bench.made(Bench.edges(0, 1, weight));
            due("its cut", x.measure(0, 1), weight);
            due("no cut", x.measure(0, 3), 0);
        }
    }

    private static void edgeRoom() {
        Bench.promise(20);
        List<Bench.Call> state = new ArrayList<>(Bench.knots(2));
        for (int many = 1; many <= 16; many++) {
            Bench.taken(state, "edge " + many, x -> x.edge(1, 0, 99), many);
            state.add(x -> x.edge(1, 0, 99));
        }
        Bench.refused(state, "edge 17", x -> x.edge(0, 1, 1), FULL);
        Bench.refused(state, "edge 17, OUTSIDE is ahead", x -> x.edge(0, 1, 0), OUTSIDE);
        Bench.refused(state, "edge 17, OUTSIDE is ahead", x -> x.edge(0, 1, 100), OUTSIDE);
        Bench.refused(Bench.FULL_STATE, "edge 17 of a full object", x -> x.edge(6, 7, 99), FULL);
        due("the cut of 16", Bench.made(state).measure(0, 1), 1584);
    }

    private static void cord() {
        Bench.promise(21);
        for (int set : NO_KNOTS) {
            Bench.refusedAlways("cord(" + set + ")", x -> x.cord(set), OUTSIDE);
        }
        for (int n = 1; n <= 8; n++) {
            List<Bench.Call> state = Bench.knots(n);
            Bench.refused(state, "cord(0) of " + n, x -> x.cord(0), OUTSIDE);
            for (int set = 1; set < 1 << n; set++) {
                int knots = set;
                if (Integer.bitCount(set) < 2) {
                    Bench.refused(state, "cord(" + set + ") of " + n, x -> x.cord(knots), OUTSIDE);
                } else if (Integer.bitCount(set) == 2 || set == (1 << n) - 1) {
                    Bench.taken(state, "cord(" + set + ") of " + n, x -> x.cord(knots), 1);
                }
            }
            int beyond = 1 << n;
            Bench.refused(state, "cord(" + beyond + ") of " + n, x -> x.cord(beyond), OUTSIDE);
            Bench.refused(state, "cord(" + (beyond | 1) + ") of " + n, x -> x.cord(beyond | 1), OUTSIDE);
            Bench.refused(state, "cord(" + (2 * beyond - 1) + ") of " + n, x -> x.cord(2 * beyond - 1), OUTSIDE);
        }
    }

    private static void cordRoom() {
        Bench.promise(21);
        List<Bench.Call> state = new ArrayList<>(Bench.knots(3));
        for (int many = 1; many <= 10; many++) {
            // The same set again is another cord.
            Bench.taken(state, "cord " + many, x -> x.cord(6), many);
            state.add(x -> x.cord(6));
        }
        Bench.refused(state, "cord 11", x -> x.cord(6), FULL);
        Bench.refused(state, "cord 11 of other knots", x -> x.cord(3), FULL);
        Bench.refused(state, "cord 11, OUTSIDE is ahead: none", x -> x.cord(0), OUTSIDE);
        Bench.refused(state, "cord 11, OUTSIDE is ahead: one", x -> x.cord(4), OUTSIDE);
        Bench.refused(state, "cord 11, OUTSIDE is ahead: no knot", x -> x.cord(9), OUTSIDE);
        Bench.refused(Bench.FULL_STATE, "cord 11 of a full object", x -> x.cord(255), FULL);
        due("ONE of ten", Bench.made(state).measure(1, 6), 10);
        due("ONE of ten, none", Bench.made(state).measure(1, 4), 0);
    }

    private static void measure() {
        Bench.promise(22);
        for (int what : NO_CHOICE) {
            Bench.refusedAlways("measure(" + what + ", 0)", x -> x.measure(what, 0), OUTSIDE);
            Bench.refusedAlways("measure(" + what + ", -1)", x -> x.measure(what, -1), OUTSIDE);
        }
        for (int sides : NO_KNOTS) {
            Bench.refusedAlways("measure(0, " + sides + ")", x -> x.measure(0, sides), OUTSIDE);
            Bench.refusedAlways("measure(1, " + sides + ")", x -> x.measure(1, sides), OUTSIDE);
        }
        for (int n = 1; n <= 8; n++) {
            List<Bench.Call> state = Bench.knots(n);
            int all = (1 << n) - 1;
            for (int what = 0; what <= 1; what++) {
                int kind = what;
                Bench.asked(state, "measure(" + what + ", 0) of " + n, x -> x.measure(kind, 0), 0);
                Bench.asked(state, "measure(" + what + ", " + all + ") of " + n, x -> x.measure(kind, all), 0);
                Bench.refused(state, "measure(" + what + ", " + (all + 1) + ") of " + n, x -> x.measure(kind, all + 1), OUTSIDE);
            }
        }
        DrawsOut full = Bench.made(Bench.join(Bench.knots(8), Bench.times(16, x -> x.edge(7, 0, 99)), Bench.times(10, x -> x.cord(255))));
        due("the greatest cut", full.measure(0, 1), 1584);
        due("the greatest cut, the other side", full.measure(0, 254), 1584);
        due("the least cut", full.measure(0, 129), 0);
        due("cut, all on 0", full.measure(0, 0), 0);
        due("cut, all on 1", full.measure(0, 255), 0);
        due("the greatest ONE, on 0", full.measure(1, 0), 10);
        due("the greatest ONE, on 1", full.measure(1, 255), 10);
        due("one knot off", full.measure(1, 128), 0);
        due("one knot off", full.measure(1, 127), 0);
        // A cord of two, by each of their sides.
        DrawsOut two = Bench.made(Bench.cords(9));
        int[] wants = {1, 0, 0, 1};
        for (int i = 0; i < 4; i++) {
            due("ONE of two knots " + i, two.measure(1, (i & 1) | (i & 2) << 2), wants[i]);
            due("ONE of two knots " + i + ", others on 1", two.measure(1, (i & 1) | (i & 2) << 2 | 6), wants[i]);
        }
        Bench.changesNothing("measure(0, 5)", x -> x.measure(0, 5));
        Bench.changesNothing("measure(1, 5)", x -> x.measure(1, 5));
    }

    private static void expectBounds() {
        Bench.promise(23);
        for (int wrong : NO_CHOICE) {
            Bench.refusedAlways("expect(" + wrong + ", 0, 0, 0)", x -> x.expect(wrong, 0, 0, 0), OUTSIDE);
            Bench.refusedAlways("expect(0, 0, 0, " + wrong + ")", x -> x.expect(0, 0, 0, wrong), OUTSIDE);
            Bench.refusedAlways("expect(" + wrong + ", -1, -1, " + wrong + ")", x -> x.expect(wrong, -1, -1, wrong), OUTSIDE);
        }
        for (int set : NO_KNOTS) {
            for (int what = 0; what <= 1; what++) {
                int kind = what;
                Bench.refusedAlways("expect(" + what + ", " + set + ", 0, 0)", x -> x.expect(kind, set, 0, 0), OUTSIDE);
                Bench.refusedAlways("expect(" + what + ", 0, " + set + ", 0)", x -> x.expect(kind, 0, set, 0), OUTSIDE);
                Bench.refusedAlways("expect(" + what + ", " + set + ", " + set + ", 1)", x -> x.expect(kind, set, set, 1), OUTSIDE);
                Bench.refusedAlways("expect(" + what + ", 15, " + set + ", 1)", x -> x.expect(kind, 15, set, 1), OUTSIDE);
            }
        }
        for (int n = 1; n <= 8; n++) {
            List<Bench.Call> state = Bench.knots(n);
            int all = (1 << n) - 1;
            Bench.asked(state, "expect, all of " + n + " fixed on 1", x -> x.expect(0, all, all, 0), 0);
            Bench.asked(state, "expect, all of " + n + " fixed on 0", x -> x.expect(1, all, 0, 1), 1);
            Bench.refused(state, "expect, a knot more than " + n + " fixed", x -> x.expect(0, all + 1, 0, 0), OUTSIDE);
            Bench.refused(state, "expect, a knot more than " + n + " on 1", x -> x.expect(0, all, all + 1, 0), OUTSIDE);
            for (int knot = 0; knot < n; knot++) {
                int bit = 1 << knot;
                Bench.asked(state, "expect, knot " + knot + " fixed on 1", x -> x.expect(0, bit, bit, 1), 1);
                Bench.refused(state, "expect, knot " + knot + " on 1, not fixed", x -> x.expect(0, all & ~bit, bit, 0), OUTSIDE);
                Bench.refused(state, "expect, knot " + knot + " on 1, none fixed", x -> x.expect(1, 0, bit, 0), OUTSIDE);
            }
        }
    }

    private static void expect(String name, DrawsOut x, int what, int fixed, int sides, int above, int below) {
        Bench.part(name, x.expect(what, fixed, sides, 0), x.expect(what, fixed, sides, 1), above, below);
    }

    private static void expectMeans() {
        Bench.promise(23);
        DrawsOut full = Bench.made(Bench.join(Bench.knots(8), Bench.times(16, x -> x.edge(7, 0, 99)), Bench.times(10, x -> x.cord(255))));
        expect("the greatest cut, none fixed", full, 0, 0, 0, 792, 1);
        expect("the greatest cut, one end fixed", full, 0, 128, 128, 792, 1);
        expect("the greatest cut, others fixed", full, 0, 126, 126, 792, 1);
        expect("the greatest cut, both ends apart", full, 0, 129, 1, 1584, 1);
        expect("the greatest cut, both ends on 1", full, 0, 129, 129, 0, 1);
        expect("the greatest cut, both ends on 0", full, 0, 129, 0, 0, 1);
        expect("ten cords, none fixed", full, 1, 0, 0, 5, 64);
        expect("ten cords, one fixed", full, 1, 1, 1, 5, 64);
        expect("ten cords, two fixed together", full, 1, 3, 3, 5, 32);
        expect("ten cords, two fixed apart", full, 1, 3, 2, 0, 1);
        expect("ten cords, all but one fixed on 1", full, 1, 254, 254, 5, 1);
        expect("ten cords, all but one fixed on 0", full, 1, 127, 0, 5, 1);
        expect("ten cords, all fixed on 1", full, 1, 255, 255, 10, 1);
        expect("ten cords, all fixed on 0", full, 1, 255, 0, 10, 1);
        expect("ten cords, all fixed, one off", full, 1, 255, 128, 0, 1);
        DrawsOut one = Bench.made(Bench.join(Bench.knots(8), Bench.edges(6, 7, 1), Bench.cords(255)));
        expect("an edge of weight 1", one, 0, 0, 0, 1, 2);
        expect("a cord of eight", one, 1, 0, 0, 1, 128);
        expect("a cord of eight, seven fixed on 1", one, 1, 127, 127, 1, 2);
        DrawsOut none = new DrawsOut();
        expect("no edges", none, 0, 15, 5, 0, 1);
        expect("no cords", none, 1, 0, 0, 0, 1);
        // All fixed: the measure itself.
        DrawsOut some = Bench.made(Bench.SOME);
        for (int sides = 0; sides < 32; sides++) {
            expect("all fixed, cut of " + sides, some, 0, 31, sides, some.measure(0, sides), 1);
            expect("all fixed, ONE of " + sides, some, 1, 31, sides, some.measure(1, sides), 1);
        }
        Bench.changesNothing("expect(0, 7, 5, 0)", x -> x.expect(0, 7, 5, 0));
        Bench.changesNothing("expect(1, 7, 5, 1)", x -> x.expect(1, 7, 5, 1));
    }

    private static void byMeans() {
        Bench.promise(24);
        for (int what : NO_CHOICE) {
            Bench.refusedAlways("byMeans(" + what + ")", x -> x.byMeans(what), OUTSIDE);
        }
        for (int n = 1; n <= 8; n++) {
            DrawsOut x = Bench.made(Bench.knots(n));
            due("byMeans(0) without edges: both alike", x.byMeans(0), 0);
            due("byMeans(1) without cords: both alike", x.byMeans(1), 0);
            if (n > 1) {
                x.edge(n - 1, n - 2, 1);
                x.cord(3 << n - 2);
                due("byMeans(0): the last against that ahead, of " + n, x.byMeans(0), 1 << n - 1);
                due("byMeans(1): the last against that ahead, of " + n, x.byMeans(1), 1 << n - 1);
            }
        }
        // A cord of all: the second knot goes away from the first; all others are alike then.
        due("byMeans(1) of a cord of eight", Bench.made(Bench.join(Bench.knots(8), Bench.cords(255))).byMeans(1), 2);
        // Knot 2 against 0 or 1, which are apart: the heavier edge; of both alike side 0.
        due("byMeans(0), 1 is heavier", Bench.made(Bench.edges(0, 1, 9, 0, 2, 4, 1, 2, 5)).byMeans(0), 2);
        due("byMeans(0), 0 is heavier", Bench.made(Bench.edges(0, 1, 9, 0, 2, 5, 1, 2, 4)).byMeans(0), 6);
        due("byMeans(0), both alike", Bench.made(Bench.edges(0, 1, 9, 0, 2, 5, 1, 2, 5)).byMeans(0), 2);
        due("byMeans(1), two cords against one", Bench.made(Bench.cords(3, 5, 5, 6)).byMeans(1), 6);
        due("byMeans(1), both alike", Bench.made(Bench.cords(3, 5, 6)).byMeans(1), 2);
        Bench.changesNothing("byMeans(0)", x -> x.byMeans(0));
        Bench.changesNothing("byMeans(1)", x -> x.byMeans(1));
    }

    private static void best() {
        Bench.promise(25);
        for (int what : NO_CHOICE) {
            Bench.refusedAlways("best(" + what + ")", x -> x.best(what), OUTSIDE);
        }
        for (int n = 1; n <= 8; n++) {
            DrawsOut x = Bench.made(Bench.knots(n));
            due("best(0) without edges: the least number", x.best(0), 0);
            due("best(1) without cords: the least number", x.best(1), 0);
            if (n > 1) {
                x.edge(n - 1, n - 2, 1);
                x.cord(3 << n - 2);
                due("best(0): of both the least number, of " + n, x.best(0), 1 << n - 2);
                due("best(1): of both the least number, of " + n, x.best(1), 1 << n - 2);
            }
        }
        // Each other knot against that behind it: the greatest number of all that could be least.
        DrawsOut chain = Bench.made(Bench.join(Bench.knots(8), Bench.edges(0, 1, 1, 1, 2, 1, 2, 3, 1, 3, 4, 1, 4, 5, 1, 5, 6, 1, 6, 7, 1)));
        due("best(0) of a chain", chain.best(0), 0b01010101);
        DrawsOut star = Bench.made(Bench.join(Bench.knots(8), Bench.edges(7, 0, 1, 7, 1, 1, 7, 2, 1, 7, 3, 1, 7, 4, 1, 7, 5, 1, 7, 6, 1)));
        due("best(0) of a star: all others, not the one", star.best(0), 127);
        due("best(1) of a cord of eight", Bench.made(Bench.join(Bench.knots(8), Bench.cords(255))).best(1), 1);
        due("best(1), not all can be two-coloured", Bench.made(Bench.cords(3, 5, 6)).best(1), 1);
        Bench.changesNothing("best(0)", x -> x.best(0));
        Bench.changesNothing("best(1)", x -> x.best(1));
    }

    private static void heap() {
        Bench.promise(26);
        for (int sides : NO_KNOTS) {
            Bench.refusedAlways("heap(" + sides + "): OUTSIDE is ahead of FULL", x -> x.heap(sides), OUTSIDE);
        }
        for (int n = 1; n <= 8; n++) {
            List<Bench.Call> state = Bench.knots(n);
            int all = (1 << n) - 1;
            Bench.taken(state, "heap(0) of " + n, x -> x.heap(0), 1);
            Bench.taken(state, "heap(" + all + ") of " + n, x -> x.heap(all), 1);
            Bench.refused(state, "heap(" + (all + 1) + ") of " + n, x -> x.heap(all + 1), OUTSIDE);
        }
        List<Bench.Call> state = new ArrayList<>(Bench.knots(8));
        for (int many = 1; many <= 32; many++) {
            // The same may come again.
            int sides = many < 16 ? 255 : many;
            Bench.taken(state, "heap, " + many, x -> x.heap(sides), many);
            state.add(x -> x.heap(sides));
        }
        Bench.refused(state, "heap, 33", x -> x.heap(0), FULL);
        Bench.refused(state, "heap, 33, of one that is in it", x -> x.heap(255), FULL);
        Bench.refused(state, "heap, 33, OUTSIDE is ahead", x -> x.heap(256), OUTSIDE);
        Bench.refused(Bench.FULL_STATE, "heap, 33 of a full object", x -> x.heap(1), FULL);
    }

    private static List<Bench.Call> madeByHand(int knots, int t) {
        int m = 0;
        while (Math.pow(2, m) <= knots) {
            m++;
        }
        List<Bench.Call> all = new ArrayList<>();
        for (int s = 0; s < Math.pow(2, t == 2 ? m : m + 1); s++) {
            int sides = 0;
            for (int i = 0; i < knots; i++) {
                int with = t == 2 ? i + 1 : 2 * (i + 1) + 1;
                int bits = 0;
                for (int bit = 0; bit < 8; bit++) {
                    bits += (s >> bit) % 2 * ((with >> bit) % 2);
                }
                sides += bits % 2 << i;
            }
            int row = sides;
            all.add(x -> x.heap(row));
        }
        return all;
    }

    private static void made() {
        Bench.promise(27);
        for (int t : new int[] {LEAST, -3, -2, -1, 0, 1, 4, 5, 6, 258, 259, MOST}) {
            Bench.refusedAlways("made(" + t + ")", x -> x.made(t), OUTSIDE);
        }
        int[] pairs = {2, 4, 4, 8, 8, 8, 8, 16};
        for (int n = 1; n <= 8; n++) {
            for (int t = 2; t <= 3; t++) {
                int kind = t;
                int many = t == 2 ? pairs[n - 1] : 2 * pairs[n - 1];
                List<Bench.Call> state = Bench.knots(n);
                Bench.taken(state, "made(" + t + ") of " + n, x -> x.made(kind), many);
                List<Bench.Call> full = Bench.join(state, Bench.times(32, x -> x.heap(1)));
                Bench.taken(full, "made(" + t + ") of " + n + " over a full heap", x -> x.made(kind), many);
                // Edges and cords so that of() tells rows of the heap.
                for (int[] pair : new int[][] {{0, n - 1}, {0, n / 2}, {n / 2, n - 1}, {n / 3, n - 1}}) {
                    List<Bench.Call> web = pair[0] == pair[1] ? state
                        : Bench.join(state, Bench.edges(pair[0], pair[1], 3), Bench.cords(1 << pair[0] | 1 << pair[1]));
                    Bench.alike("made(" + t + ") of " + n, Bench.join(web, Bench.calls(x -> x.made(kind))),
                        Bench.join(web, madeByHand(n, t)));
                    Bench.alike("made(" + t + ") of " + n + " over others", Bench.join(web, Bench.calls(x -> x.made(kind))),
                        Bench.join(web, Bench.calls(x -> x.made(5 - kind), x -> x.made(kind))));
                }
            }
        }
        Bench.refused(Bench.join(Bench.knots(8), Bench.calls(x -> x.made(3))), "heap behind made(3) of 8", x -> x.heap(0), FULL);
        Bench.taken(Bench.join(Bench.knots(7), Bench.calls(x -> x.made(3))), "heap behind made(3) of 7", x -> x.heap(0), 17);
        Bench.taken(Bench.join(Bench.knots(8), Bench.calls(x -> x.made(2))), "heap behind made(2) of 8", x -> x.heap(0), 17);
        Bench.taken(Bench.FULL_STATE, "made(2) of a full object", x -> x.made(2), 16);
    }

    private static void of() {
        Bench.promise(28);
        for (int what : NO_CHOICE) {
            Bench.refusedAlways("of(" + what + ")", x -> x.of(what), OUTSIDE);
            Bench.refused(Bench.knots(3), "of(" + what + ") of an empty heap", x -> x.of(what), OUTSIDE);
        }
        Bench.asked(Bench.NEW, "of(0) of an empty heap", x -> x.of(0), NONE);
        Bench.asked(Bench.NEW, "of(1) of an empty heap", x -> x.of(1), NONE);
        Bench.asked(Bench.heap(15), "of(0) of one", x -> x.of(0), 15);
        Bench.asked(Bench.heap(0), "of(1) of one", x -> x.of(1), 0);
        DrawsOut alike = Bench.made(Bench.heap(9, 3, 12, 0));
        due("of(0) without edges: the first", alike.of(0), 9);
        due("of(1) without cords: the first", alike.of(1), 9);
        List<Bench.Call> web = Bench.join(Bench.edges(0, 1, 5, 2, 3, 5), Bench.cords(3, 12));
        DrawsOut last = Bench.made(Bench.join(web, Bench.heap(0, 15, 3, 12, 1, 5)));
        due("of(0): the last of the heap", last.of(0), 5);
        due("of(1): the last of the heap", last.of(1), 5);
        DrawsOut several = Bench.made(Bench.join(web, Bench.heap(1, 10, 5, 6, 9)));
        due("of(0): of several the first, not the least", several.of(0), 10);
        due("of(1): of several the first, not the least", several.of(1), 10);
        DrawsOut full = Bench.made(Bench.join(web, Bench.times(31, x -> x.heap(1)), Bench.heap(6)));
        due("of(0): the 32nd", full.of(0), 6);
        due("of(1): the 32nd", full.of(1), 6);
        DrawsOut emptied = Bench.made(Bench.join(web, Bench.heap(6), Bench.knots(4)));
        due("of(0) of an emptied heap", emptied.of(0), NONE);
        due("of(1) of an emptied heap", emptied.of(1), NONE);
        Bench.changesNothing("of(0)", x -> x.of(0));
        Bench.changesNothing("of(1)", x -> x.of(1));
    }

    private static void even() {
        Bench.promise(29);
        for (int t : new int[] {LEAST, -2, -1, 0, 4, 5, 8, 256, 257, MOST}) {
            Bench.refusedAlways("even(" + t + "): OUTSIDE is ahead of NOT", x -> x.even(t), OUTSIDE);
        }
        for (int n = 1; n <= 8; n++) {
            List<Bench.Call> empty = Bench.knots(n);
            List<Bench.Call> some = Bench.join(empty, Bench.calls(x -> x.made(3)));
            for (int t = 1; t <= 3; t++) {
                int many = t;
                if (t > n) {
                    Bench.refused(empty, "even(" + t + ") of " + n + " knots, an empty heap", x -> x.even(many), OUTSIDE);
                    Bench.refused(some, "even(" + t + ") of " + n + " knots", x -> x.even(many), OUTSIDE);
                } else {
                    Bench.refused(empty, "even(" + t + ") of an empty heap", x -> x.even(many), NOT);
                    Bench.asked(some, "even(" + t + ") of " + n + " knots", x -> x.even(many), 1);
                }
            }
        }
        DrawsOut one = Bench.made(Bench.join(Bench.knots(1), Bench.heap(0)));
        due("even(1) of one", one.even(1), 0);
        one.heap(1);
        due("even(1) of both", one.even(1), 1);
        for (int i = 3; i <= 31; i++) {
            one.heap(i & 1);
        }
        due("even(1) of 31", one.even(1), 0);
        one.heap(0);
        due("even(1) of 32", one.even(1), 1);
        // All rows of three knots, one after the other: each t is even at the last one first.
        DrawsOut three = Bench.made(Bench.knots(3));
        for (int row = 0; row < 8; row++) {
            three.heap(row);
            due("even(3) of " + (row + 1), three.even(3), row == 7 ? 1 : 0);
            due("even(1) of " + (row + 1), three.even(1), row == 7 ? 1 : 0);
        }
        // Even for two, not for three: rows with an even number on side 1.
        DrawsOut pairs = Bench.made(Bench.join(Bench.knots(3), Bench.heap(0, 3, 5, 6)));
        due("even(1) of even rows", pairs.even(1), 1);
        due("even(2) of even rows", pairs.even(2), 1);
        due("even(3) of even rows", pairs.even(3), 0);
        // Even for one, not for two.
        DrawsOut opposite = Bench.made(Bench.join(Bench.knots(8), Bench.heap(0x55, 0xaa)));
        due("even(1) of two opposite rows", opposite.even(1), 1);
        due("even(2) of two opposite rows", opposite.even(2), 0);
        due("even(3) of two opposite rows", opposite.even(3), 0);
        // The last knot alone leans.
        DrawsOut last = Bench.made(Bench.join(Bench.knots(3), Bench.heap(0, 1, 2, 3)));
        due("even(1), the last knot leans", last.even(1), 0);
        Bench.changesNothing("even(1)", x -> x.even(1));
        Bench.changesNothing("even(3)", x -> x.even(3));
    }

    private static void error(String name, DrawsOut x, int t, int above, int below) {
        Bench.part("error(" + t + ") " + name, x.error(t, 0), x.error(t, 1), above, below);
    }

    private static void error() {
        Bench.promise(30);
        for (int t : new int[] {LEAST, -2, -1, 0, 9, 10, 16, 256, 257, MOST}) {
            for (int part : new int[] {0, 1, 2, -1}) {
                Bench.refusedAlways("error(" + t + ", " + part + "): OUTSIDE is ahead of NOT", x -> x.error(t, part), OUTSIDE);
            }
        }
        for (int part : NO_CHOICE) {
            for (int t : new int[] {1, 8}) {
                Bench.refusedAlways("error(" + t + ", " + part + "): OUTSIDE is ahead of NOT", x -> x.error(t, part), OUTSIDE);
            }
        }
        for (int n = 1; n <= 8; n++) {
            DrawsOut x = Bench.made(Bench.join(Bench.knots(n), Bench.heap(0)));
            for (int t = 1; t <= 8; t++) {
                int many = t;
                Bench.refused(Bench.knots(n), "error(" + t + ", 0) of an empty heap", y -> y.error(many, 0), NOT);
                Bench.refused(Bench.knots(n), "error(" + t + ", 1) of an empty heap", y -> y.error(many, 1), NOT);
                error("of one row of " + n + " knots", x, t, 1, 1);
            }
        }
        DrawsOut one = Bench.made(Bench.join(Bench.knots(1), Bench.times(16, x -> x.heap(0)), Bench.times(15, x -> x.heap(1))));
        error("of 16 and 15", one, 1, 1, 31);
        error("of 16 and 15", one, 8, 1, 31);
        one.heap(1);
        error("of 16 and 16", one, 1, 0, 1);
        DrawsOut lean = Bench.made(Bench.join(Bench.knots(1), Bench.times(31, x -> x.heap(1)), Bench.heap(0)));
        error("of 31 and 1", lean, 1, 15, 16);
        DrawsOut odd = Bench.made(Bench.join(Bench.knots(1), Bench.times(32, x -> x.heap(1))));
        error("of 32 odd ones", odd, 1, 1, 1);
        // All rows of t knots with an even number on side 1: only all of them together lean.
        for (int n = 2; n <= 6; n++) {
            DrawsOut x = Bench.made(Bench.knots(n));
            for (int row = 0; row < 1 << n; row++) {
                if (Integer.bitCount(row) % 2 == 0) {
                    x.heap(row);
                }
            }
            error("of even rows of " + n, x, n - 1, 0, 1);
            error("of even rows of " + n, x, n, 1, 1);
            error("of even rows of " + n, x, 8, 1, 1);
        }
        // By threes: sets of three never lean, one of four does.
        DrawsOut threes = Bench.made(Bench.join(Bench.knots(8), Bench.calls(x -> x.made(3))));
        error("by threes of 8", threes, 3, 0, 1);
        error("by threes of 8", threes, 4, 1, 1);
        DrawsOut pairs = Bench.made(Bench.join(Bench.knots(8), Bench.calls(x -> x.made(2))));
        error("by pairs of 8", pairs, 2, 0, 1);
        error("by pairs of 8", pairs, 3, 1, 1);
        Bench.changesNothing("error(1, 0)", x -> x.error(1, 0));
        Bench.changesNothing("error(8, 1)", x -> x.error(8, 1));
    }

    private static void leastBounds() {
        Bench.promise(31);
        int[] noOneToFour = {LEAST, -1, 0, 5, 6, 8, 256, 257, MOST};
        for (int wrong : noOneToFour) {
            Bench.refusedAlways("least(" + wrong + ", 1, 0, 1)", x -> x.least(wrong, 1, 0, 1), OUTSIDE);
            Bench.refusedAlways("least(1, " + wrong + ", 0, 1)", x -> x.least(1, wrong, 0, 1), OUTSIDE);
            Bench.refusedAlways("least(" + wrong + ", " + wrong + ", 0, 1)", x -> x.least(wrong, wrong, 0, 1), OUTSIDE);
        }
        for (int wrong : new int[] {LEAST, -100, -1, 101, 102, 256, MOST}) {
            Bench.refusedAlways("least(4, 4, " + wrong + ", 1)", x -> x.least(4, 4, wrong, 1), OUTSIDE);
            Bench.refusedAlways("least(1, 1, 1, " + wrong + ")", x -> x.least(1, 1, 1, wrong), OUTSIDE);
        }
        Bench.refusedAlways("least(1, 1, 0, 0)", x -> x.least(1, 1, 0, 0), OUTSIDE);
        Bench.refusedAlways("least(4, 4, 100, 0)", x -> x.least(4, 4, 100, 0), OUTSIDE);
        for (int k = 1; k <= 4; k++) {
            for (int t = 1; t <= 4; t++) {
                DrawsOut x = new DrawsOut();
                String name = "least(" + k + ", " + t + ", ";
                due(name + "1, 1)", x.least(k, t, 1, 1), 1);
                due(name + "100, 100)", x.least(k, t, 100, 100), 1);
                due(name + "100, 1)", x.least(k, t, 100, 1), 1);
                due(name + "0, 1) is that of 0, 100", x.least(k, t, 0, 1), x.least(k, t, 0, 100));
                due(name + "99, 100) is of two or more", Integer.bitCount(x.least(k, t, 99, 100)) > 1 ? 1 : 0, 1);
                if (t >= k) {
                    // No parity at all may lean: only all rows together.
                    due(name + "0, 1)", x.least(k, t, 0, 1), (int) ((1L << (1 << k)) - 1));
                }
            }
        }
    }

    private static void leastHeaps() {
        Bench.promise(31);
        DrawsOut x = new DrawsOut();
        due("one knot", x.least(1, 1, 0, 1), 3);
        due("two knots, each even", x.least(2, 1, 0, 1), 6);
        due("three knots, each even", x.least(3, 1, 0, 1), 1 << 3 | 1 << 4);
        due("four knots, each even", x.least(4, 1, 0, 1), 1 << 7 | 1 << 8);
        due("two knots, a third: three rows", x.least(2, 2, 1, 3), 7);
        due("two knots, less than a third: all", x.least(2, 2, 33, 100), 15);
        due("four knots, a fifteenth: all but the last", x.least(4, 4, 1, 15), 32767);
        due("four knots, less than that: all", x.least(4, 4, 1, 16), 65535);
        // All seven rows but one of three knots lean by 1 of 7.
        due("three knots, a seventh", x.least(3, 3, 1, 7), 127);
        due("three knots, less than a seventh", x.least(3, 3, 1, 8), 255);
        due("three knots, less than a seventh", x.least(3, 3, 14, 100), 255);
        for (int n = 1; n <= 8; n++) {
            DrawsOut y = Bench.made(Bench.knots(n));
            due("four knots, however many there are: " + n, y.least(4, 2, 0, 1), 15555);
            due("one knot, however many there are: " + n, y.least(1, 4, 0, 1), 3);
        }
        Bench.changesNothing("least(4, 3, 1, 3)", y -> y.least(4, 3, 1, 3));
        Bench.changesNothing("least(2, 2, 1, 3)", y -> y.least(2, 2, 1, 3));
    }

    /** Each k, t, a and b that is taken, against all heaps that there are. */
    private static void leastOfAllParts() {
        Bench.promise(31);
        for (int k = 1; k <= 4; k++) {
            for (int t = 1; t <= 4; t++) {
                int[][] first = firstHeaps(k, t);
                for (int b = 1; b <= 100; b++) {
                    DrawsOut x = new DrawsOut();
                    for (int a = 0; a <= 100; a++) {
                        due("least(" + k + ", " + t + ", " + a + ", " + b + ")", x.least(k, t, a, b), leastOf(first, a, b));
                    }
                }
            }
        }
    }

    /** By size and by how far parities of up to t knots are out at most, the least heap; 0: none. */
    private static int[][] firstHeaps(int k, int t) {
        int rows = 1 << k;
        int[][] first = new int[rows + 1][rows + 1];
        for (int heap = 1; heap < 1 << rows; heap++) {
            int out = 0;
            for (int set = 1; set < rows; set++) {
                int odd = 0;
                for (int row = 0; row < rows && Integer.bitCount(set) <= t; row++) {
                    odd += (heap >> row & 1) * (Integer.bitCount(row & set) & 1);
                }
                if (Integer.bitCount(set) <= t) {
                    out = Math.max(out, Math.abs(Integer.bitCount(heap) - 2 * odd));
                }
            }
            int size = Integer.bitCount(heap);
            if (first[size][out] == 0) {
                first[size][out] = heap;
            }
        }
        return first;
    }

    private static int leastOf(int[][] first, int a, int b) {
        for (int size = 1; size < first.length; size++) {
            int least = 0;
            for (int out = 0; out <= size; out++) {
                int heap = first[size][out];
                if (heap != 0 && out * b <= a * size && (least == 0 || heap < least)) {
                    least = heap;
                }
            }
            if (least != 0) {
                return least;
            }
        }
        return 0;
    }

    private static void walks() {
        Bench.promise(32);
        for (int set : NO_KNOTS) {
            for (int t : new int[] {0, 1, 8, 9, -1}) {
                Bench.refusedAlways("walks(" + set + ", " + t + ")", x -> x.walks(set, t), OUTSIDE);
            }
        }
        for (int t : new int[] {LEAST, -2, -1, 9, 10, 16, 256, MOST}) {
            for (int set : new int[] {0, 1, 15}) {
                Bench.refusedAlways("walks(" + set + ", " + t + ")", x -> x.walks(set, t), OUTSIDE);
            }
        }
        for (int n = 1; n <= 8; n++) {
            List<Bench.Call> state = Bench.knots(n);
            int all = (1 << n) - 1, many = n;
            Bench.asked(state, "walks(" + all + ", 0) of " + n, x -> x.walks(all, 0), many);
            Bench.asked(state, "walks(" + all + ", 8) of " + n, x -> x.walks(all, 8), 0);
            Bench.refused(state, "walks(" + (all + 1) + ", 0) of " + n, x -> x.walks(all + 1, 0), OUTSIDE);
        }
        DrawsOut one = Bench.made(Bench.edges(0, 3, 99));
        due("no knots, no step", one.walks(0, 0), 0);
        due("no knots, eight steps", one.walks(0, 8), 0);
        due("a knot, no step", one.walks(8, 0), 1);
        due("a knot, a step", one.walks(8, 1), 0);
        for (int t = 0; t <= 8; t++) {
            due("both ends, " + t + " steps", one.walks(9, t), 2);
            due("all knots, " + t + " steps", one.walks(15, t), t == 0 ? 4 : 2);
        }
        // Each edge is a way of its own; weights do not matter.
        DrawsOut ways = Bench.made(Bench.join(Bench.knots(2), Bench.times(16, x -> x.edge(1, 0, 5))));
        long want = 2;
        for (int t = 0; t <= 7; t++) {
            due("16 ways, " + t + " steps", ways.walks(3, t), want);
            want *= 16;
        }
        due("16 ways, eight steps: at most", ways.walks(3, 8), 999999999);
        // 136 * 136 * 136 * (136 + 256) is below the bound, 138 * 138 * 138 * (138 + 256) above.
        DrawsOut below = Bench.made(Bench.join(Bench.times(10, x -> x.edge(0, 1, 1)), Bench.times(6, x -> x.edge(2, 0, 1))));
        due("just below the bound", below.walks(7, 8), 986058752);
        due("just below the bound, of all", below.walks(15, 8), 986058752);
        DrawsOut above = Bench.made(Bench.join(Bench.times(11, x -> x.edge(2, 0, 1)), Bench.times(4, x -> x.edge(1, 2, 1)), Bench.edges(2, 3, 1)));
        due("just above the bound", above.walks(15, 8), 999999999);
        due("of a lesser set", above.walks(6, 8), 2 * 256 * 256);
        Bench.changesNothing("walks(15, 8)", x -> x.walks(15, 8));
        Bench.changesNothing("walks(3, 0)", x -> x.walks(3, 0));
    }
}
