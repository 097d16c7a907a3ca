import java.util.ArrayList;
import java.util.List;

/** Promises 33 to 39 at their bounds: terms and sums, points, bits pressed out, weak draws, counts. */
public final class BoundarySums {
    private static final int NONE = Bench.NONE, UNKNOWN = Bench.UNKNOWN, OUTSIDE = Bench.OUTSIDE, FULL = Bench.FULL,
        LEAST = Bench.LEAST, MOST = Bench.MOST;
    private static final int[] NO_CHOICE = {LEAST, -3, -2, -1, 2, 3, 4, 255, 256, 1 << 16, MOST};

    public static void main(String[] args) {
        termSums();
        termNumbers();
        termRoom();
        valueBounds();
        values();
        degree();
        sameBounds();
        samePoints();
        pressedBounds();
        pressed();
        mixed();
        countBounds();
        counts();
        Bench.finish(33, 39);
    }

    private static void due(String call, long got, long want) {
        Bench.due(call, got, want);
    }

    /** Fives of a sum, a number, and how often x, y, z come. */
    private static List<Bench.Call> terms(int... fives) {
        List<Bench.Call> all = new ArrayList<>();
        for (int i = 0; i < fives.length; i += 5) {
            int sum = fives[i], number = fives[i + 1], x = fives[i + 2], y = fives[i + 3], z = fives[i + 4];
            all.add(d -> d.term(sum, number, x, y, z));
        }
        return all;
    }

    private static void termSums() {
        Bench.promise(33);
        for (int sum : NO_CHOICE) {
            Bench.refusedAlways("term(" + sum + ", 1, 0, 0, 0)", d -> d.term(sum, 1, 0, 0, 0), UNKNOWN);
            Bench.refusedAlways("term(" + sum + ", 10, 0, 0, 0): UNKNOWN is ahead of OUTSIDE", d -> d.term(sum, 10, 0, 0, 0), UNKNOWN);
            Bench.refusedAlways("term(" + sum + ", 1, 4, -1, 4): UNKNOWN is ahead of OUTSIDE", d -> d.term(sum, 1, 4, -1, 4), UNKNOWN);
        }
        Bench.taken(Bench.NEW, "term(0, ..)", d -> d.term(0, 1, 0, 0, 0), 1);
        Bench.taken(Bench.NEW, "term(1, ..)", d -> d.term(1, 1, 0, 0, 0), 1);
        Bench.taken(Bench.SOME, "term(0, ..) of some", d -> d.term(0, 1, 0, 0, 0), 3);
        Bench.taken(Bench.SOME, "term(1, ..) of some", d -> d.term(1, 1, 0, 0, 0), 2);
    }

    private static void termNumbers() {
        Bench.promise(33);
        for (int sum = 0; sum <= 1; sum++) {
            int told = sum;
            for (int number : new int[] {LEAST, -100, -11, -10, 10, 11, 100, 247, 256, MOST}) {
                Bench.refusedAlways("term(" + sum + ", " + number + ", 0, 0, 0): OUTSIDE is ahead of FULL",
                    d -> d.term(told, number, 0, 0, 0), OUTSIDE);
            }
            for (int often : new int[] {LEAST, -2, -1, 4, 5, 8, 16, 64, 256, MOST}) {
                Bench.refusedAlways("term(" + sum + ", 1, " + often + ", 0, 0)", d -> d.term(told, 1, often, 0, 0), OUTSIDE);
                Bench.refusedAlways("term(" + sum + ", 1, 0, " + often + ", 0)", d -> d.term(told, 1, 0, often, 0), OUTSIDE);
                Bench.refusedAlways("term(" + sum + ", 1, 0, 0, " + often + ")", d -> d.term(told, 1, 0, 0, often), OUTSIDE);
                Bench.refusedAlways("term(" + sum + ", 1, " + often + ", 3, 3)", d -> d.term(told, 1, often, 3, 3), OUTSIDE);
            }
            for (int number = -9; number <= 9; number++) {
                int times = number;
                Bench.taken(Bench.NEW, "term(" + sum + ", " + number + ", 0, 0, 0)", d -> d.term(told, times, 0, 0, 0), 1);
                due("its value", Bench.made(terms(sum, number, 0, 0, 0)).value(sum, 11, 0, 5), number);
            }
            for (int often = 0; often <= 3; often++) {
                int many = often;
                Bench.taken(Bench.NEW, "term of x " + often, d -> d.term(told, 1, many, 0, 0), 1);
                Bench.taken(Bench.NEW, "term of y " + often, d -> d.term(told, 1, 0, many, 0), 1);
                Bench.taken(Bench.NEW, "term of z " + often, d -> d.term(told, 1, 0, 0, many), 1);
            }
        }
    }

    private static void termRoom() {
        Bench.promise(33);
        for (int sum = 0; sum <= 1; sum++) {
            int told = sum;
            List<Bench.Call> state = new ArrayList<>();
            for (int many = 1; many <= 6; many++) {
                // Those of like x, y, z, and those of number 0, are terms each.
                int number = many == 3 ? 0 : many % 2 == 0 ? -9 : 9;
                Bench.taken(state, "term " + many, d -> d.term(told, number, 3, 2, 1), many);
                state.add(d -> d.term(told, number, 3, 2, 1));
            }
            Bench.refused(state, "term 7", d -> d.term(told, 1, 0, 0, 0), FULL);
            Bench.refused(state, "term 7 of number 0", d -> d.term(told, 0, 3, 2, 1), FULL);
            Bench.refused(state, "term 7, OUTSIDE is ahead: number", d -> d.term(told, 10, 0, 0, 0), OUTSIDE);
            Bench.refused(state, "term 7, OUTSIDE is ahead: x", d -> d.term(told, 1, 4, 0, 0), OUTSIDE);
            Bench.refused(state, "term 7, UNKNOWN is ahead", d -> d.term(2, 1, 0, 0, 0), UNKNOWN);
            Bench.refused(state, "term 7, UNKNOWN is ahead of OUTSIDE", d -> d.term(-1, 10, 0, 0, 0), UNKNOWN);
            Bench.taken(state, "term 1 of the other sum", d -> d.term(1 - told, 1, 0, 0, 0), 1);
            Bench.refused(Bench.FULL_STATE, "term 7 of a full object", d -> d.term(told, 9, 3, 3, 3), FULL);
        }
    }

    private static void valueBounds() {
        Bench.promise(34);
        for (int sum : NO_CHOICE) {
            Bench.refusedAlways("value(" + sum + ", 0, 0, 0)", d -> d.value(sum, 0, 0, 0), Long.MIN_VALUE);
            Bench.refusedAlways("value(" + sum + ", 12, -1, 12)", d -> d.value(sum, 12, -1, 12), Long.MIN_VALUE);
        }
        for (int place : new int[] {LEAST, -12, -2, -1, 12, 13, 16, 144, 256, MOST}) {
            for (int sum = 0; sum <= 1; sum++) {
                int told = sum;
                Bench.refusedAlways("value(" + sum + ", " + place + ", 0, 0)", d -> d.value(told, place, 0, 0), Long.MIN_VALUE);
                Bench.refusedAlways("value(" + sum + ", 0, " + place + ", 0)", d -> d.value(told, 0, place, 0), Long.MIN_VALUE);
                Bench.refusedAlways("value(" + sum + ", 0, 0, " + place + ")", d -> d.value(told, 0, 0, place), Long.MIN_VALUE);
                Bench.refusedAlways("value(" + sum + ", 11, 11, " + place + ")", d -> d.value(told, 11, 11, place), Long.MIN_VALUE);
            }
        }
    }

    private static void values() {
        Bench.promise(34);
        DrawsOut none = new DrawsOut();
        due("no terms, the first point", none.value(0, 0, 0, 0), 0);
        due("no terms, the last point", none.value(1, 11, 11, 11), 0);
        long eleven = 11L * 11 * 11;
        for (int sum = 0; sum <= 1; sum++) {
            int told = sum;
            DrawsOut most = Bench.made(Bench.times(6, d -> d.term(told, 9, 3, 3, 3)));
            due("the greatest value", most.value(sum, 11, 11, 11), 54 * eleven * eleven * eleven);
            due("at 0", most.value(sum, 0, 11, 11), 0);
            due("of the other sum", most.value(1 - sum, 11, 11, 11), 0);
            DrawsOut least = Bench.made(Bench.times(6, d -> d.term(told, -9, 3, 3, 3)));
            due("the least value", least.value(sum, 11, 11, 11), -54 * eleven * eleven * eleven);
            DrawsOut three = Bench.made(terms(sum, 1, 1, 0, 0, sum, 1, 0, 2, 0, sum, 1, 0, 0, 3, sum, -5, 0, 0, 0));
            due("each in its place", three.value(sum, 11, 7, 5), 11 + 49 + 125 - 5);
            // None of x, y, z is 1, at 0 also.
            due("at 0, 0, 0", three.value(sum, 0, 0, 0), -5);
            due("at 11, 0, 0", three.value(sum, 11, 0, 0), 6);
            due("at 0, 11, 0", three.value(sum, 0, 11, 0), 116);
            due("at 0, 0, 11", three.value(sum, 0, 0, 11), 1326);
            for (int often = 0; often <= 3; often++) {
                for (int at = 0; at <= 11; at++) {
                    long want = often == 0 ? 1 : often == 1 ? at : often == 2 ? at * at : at * at * at;
                    due("x " + often + " at " + at, Bench.made(terms(sum, 1, often, 0, 0)).value(sum, at, 6, 7), want);
                    due("y " + often + " at " + at, Bench.made(terms(sum, 1, 0, often, 0)).value(sum, 6, at, 7), want);
                    due("z " + often + " at " + at, Bench.made(terms(sum, 1, 0, 0, often)).value(sum, 6, 7, at), want);
                }
            }
        }
        Bench.changesNothing("value(0, 11, 11, 11)", d -> d.value(0, 11, 11, 11));
        Bench.changesNothing("value(1, 0, 11, 3)", d -> d.value(1, 0, 11, 3));
    }

    private static void degree() {
        Bench.promise(35);
        for (int sum : NO_CHOICE) {
            Bench.refusedAlways("degree(" + sum + ")", d -> d.degree(sum), UNKNOWN);
        }
        for (int sum = 0; sum <= 1; sum++) {
            due("degree without terms", new DrawsOut().degree(sum), 0);
            due("degree of a number", Bench.made(terms(sum, 9, 0, 0, 0)).degree(sum), 0);
            for (int x = 0; x <= 3; x++) {
                for (int y = 0; y <= 3; y++) {
                    for (int z = 0; z <= 3; z++) {
                        due("degree of " + x + " " + y + " " + z, Bench.made(terms(sum, -1, x, y, z)).degree(sum), x + y + z);
                        due("degree of 0 times that", Bench.made(terms(sum, 0, x, y, z)).degree(sum), 0);
                    }
                }
            }
            due("degree of the other sum", Bench.made(terms(sum, 1, 3, 3, 3)).degree(1 - sum), 0);
            DrawsOut d = Bench.made(terms(sum, 9, 3, 3, 3, sum, 2, 1, 0, 0));
            due("degree of two terms", d.degree(sum), 9);
            d.term(sum, -8, 3, 3, 3);
            due("degree where 1 is left", d.degree(sum), 9);
            d.term(sum, -1, 3, 3, 3);
            due("degree where none is left", d.degree(sum), 1);
            d.term(sum, -2, 1, 0, 0);
            due("degree where nothing is left", d.degree(sum), 0);
            d.term(sum, 1, 0, 1, 1);
            due("degree of the sixth", d.degree(sum), 2);
            // Like in sum, not in x, y, z: these do not fall out.
            due("degree of x - y", Bench.made(terms(sum, 1, 1, 0, 0, sum, -1, 0, 1, 0)).degree(sum), 1);
        }
        Bench.changesNothing("degree(0)", d -> d.degree(0));
        Bench.changesNothing("degree(1)", d -> d.degree(1));
    }

    private static void sameBounds() {
        Bench.promise(36);
        for (int k : new int[] {LEAST, -12, -1, 0, 13, 14, 24, 256, 257, MOST}) {
            for (int what : new int[] {0, 1, 2, -1}) {
                Bench.refusedAlways("same(" + k + ", " + what + ")", d -> d.same(k, what), OUTSIDE);
            }
        }
        for (int what : NO_CHOICE) {
            Bench.refusedAlways("same(1, " + what + ")", d -> d.same(1, what), OUTSIDE);
            Bench.refusedAlways("same(12, " + what + ")", d -> d.same(12, what), OUTSIDE);
        }
        DrawsOut none = new DrawsOut();
        DrawsOut unlike = Bench.made(terms(0, 1, 0, 0, 0));
        for (int k = 1; k <= 12; k++) {
            due("same(" + k + ", 0) of none", none.same(k, 0), k * k * k);
            due("same(" + k + ", 1) of none", none.same(k, 1), NONE);
            due("same(" + k + ", 0) of 1 and 0", unlike.same(k, 0), 0);
            due("same(" + k + ", 1) of 1 and 0", unlike.same(k, 1), 0);
        }
    }

    private static void samePoints() {
        Bench.promise(36);
        // x, y, z of one sum against 0: apart first where it is 1.
        int[][] one = {{1, 0, 0, 144}, {0, 1, 0, 12}, {0, 0, 1, 1}, {1, 1, 0, 156}, {1, 0, 1, 145}, {0, 1, 1, 13}, {3, 3, 3, 157}};
        for (int[] t : one) {
            for (int sum = 0; sum <= 1; sum++) {
                DrawsOut d = Bench.made(terms(sum, 1, t[0], t[1], t[2]));
                due("same(1, 0) of a product", d.same(1, 0), 1);
                due("same(1, 1) of a product", d.same(1, 1), NONE);
                due("same(2, 1) of a product", d.same(2, 1), t[3]);
                due("same(12, 1) of a product", d.same(12, 1), t[3]);
                due("same(1, 1) of a product again", d.same(1, 1), NONE);
                d.term(1 - sum, 1, t[0], t[1], t[2]);
                due("same(12, 1) of a product of both", d.same(12, 1), NONE);
                due("same(12, 0) of a product of both", d.same(12, 0), 1728);
            }
        }
        DrawsOut product = Bench.made(terms(0, 1, 1, 1, 1));
        due("same(2, 0) of xyz", product.same(2, 0), 7);
        due("same(12, 0) of xyz", product.same(12, 0), 1728 - 1331);
        // x (x - 1) (x - 2) is 0 below 3, not at 3.
        DrawsOut three = Bench.made(terms(0, 1, 3, 0, 0, 0, 2, 1, 0, 0, 1, 3, 2, 0, 0));
        due("same(3, 0) of a third degree", three.same(3, 0), 27);
        due("same(3, 1) of a third degree", three.same(3, 1), NONE);
        due("same(4, 0) of a third degree", three.same(4, 0), 48);
        due("same(4, 1) of a third degree", three.same(4, 1), 432);
        due("same(12, 0) of a third degree", three.same(12, 0), 432);
        due("same(12, 1) of a third degree", three.same(12, 1), 432);
        DrawsOut last = Bench.made(terms(0, 1, 0, 0, 3, 0, 2, 0, 0, 1, 1, 3, 0, 0, 2));
        due("same(3, 1) of a third degree in z", last.same(3, 1), NONE);
        due("same(12, 1) of a third degree in z", last.same(12, 1), 3);
        // x (x - 1) y (y - 1) z (z - 1) is not 0 at the last point below 3 alone.
        DrawsOut corner = Bench.made(terms(0, 1, 2, 2, 2, 1, 1, 2, 2, 1, 1, 1, 2, 1, 2, 1, 1, 1, 2, 2,
            0, 1, 2, 1, 1, 0, 1, 1, 2, 1, 0, 1, 1, 1, 2, 1, 1, 1, 1, 1));
        due("same(2, 1) of a corner", corner.same(2, 1), NONE);
        due("same(3, 0) of a corner", corner.same(3, 0), 26);
        due("same(3, 1) of a corner", corner.same(3, 1), 314);
        // x = 11 alone: the greatest value of x.
        DrawsOut eleven = Bench.made(terms(0, 1, 1, 0, 0, 1, 9, 0, 0, 0, 1, 2, 0, 0, 0));
        due("same(11, 0) of x = 11", eleven.same(11, 0), 0);
        due("same(12, 0) of x = 11", eleven.same(12, 0), 144);
        DrawsOut moved = Bench.made(terms(0, 5, 1, 2, 3, 1, 9, 1, 2, 3, 1, -4, 1, 2, 3));
        due("same(12, 0) of like sums", moved.same(12, 0), 1728);
        due("same(12, 1) of like sums", moved.same(12, 1), NONE);
        Bench.changesNothing("same(12, 0)", d -> d.same(12, 0));
        Bench.changesNothing("same(3, 1)", d -> d.same(3, 1));
    }

    private static void pressedBounds() {
        Bench.promise(37);
        for (int n : new int[] {LEAST, -32, -2, -1, 33, 34, 64, 65, 256, MOST}) {
            for (int i : new int[] {-2, -1, 0, 1, MOST}) {
                Bench.refusedAlways("pressed(1, " + n + ", " + i + ")", d -> d.pressed(1, n, i), OUTSIDE);
            }
        }
        for (int i : new int[] {LEAST, -256, -4, -3, -2}) {
            for (int n : new int[] {0, 1, 2, 32}) {
                Bench.refusedAlways("pressed(1, " + n + ", " + i + ")", d -> d.pressed(1, n, i), OUTSIDE);
            }
        }
    }

    private static void pressed() {
        Bench.promise(37);
        DrawsOut d = new DrawsOut();
        int[] twos = {NONE, 1, 0, NONE};
        for (int two = 0; two < 4; two++) {
            for (int at = 0; at < 32; at += 2) {
                long bits = (long) two << at;
                due("the two bits " + two + " at " + at + ", how many", d.pressed(bits, 32, -1), twos[two] == NONE ? 0 : 1);
                due("the two bits " + two + " at " + at, d.pressed(bits, 32, 0), twos[two]);
            }
        }
        DrawsOut e = new DrawsOut();
        for (int n = 0; n <= 32; n++) {
            // Each two bits are 10, so that each gives 1; a last one without another gives nothing.
            int many = n / 2;
            long ones = 0x5555555555555555L;
            due("pressed of " + n + ", how many", e.pressed(ones, n, -1), many);
            due("pressed of " + n + ", the first", e.pressed(ones, n, 0), many > 0 ? 1 : NONE);
            due("pressed of " + n + ", the last", e.pressed(ones, n, Math.max(many - 1, 0)), many > 0 ? 1 : NONE);
            due("pressed of " + n + ", one more", e.pressed(ones, n, many), NONE);
            due("pressed of " + n + ", 01 each, the last", e.pressed(~ones, n, Math.max(many - 1, 0)), many > 0 ? 0 : NONE);
            due("pressed of " + n + ", the most", e.pressed(ones, n, MOST), NONE);
            due("pressed of " + n + " alike bits", e.pressed(-1, n, -1), 0);
            due("pressed of " + n + " bits 0", e.pressed(0, n, -1), 0);
        }
        DrawsOut f = new DrawsOut();
        due("bits beyond n are not taken", f.pressed(0x5555555500000000L, 32, -1), 0);
        due("the sign is not taken", f.pressed(Long.MIN_VALUE, 32, -1), 0);
        due("bit 31 is", f.pressed(1L << 31, 32, -1), 1);
        due("bit 31 is behind bit 30", f.pressed(1L << 31, 32, 0), 0);
        due("bit 30 is ahead", f.pressed(1L << 30, 32, 0), 1);
        due("bit 31 is not of 31", f.pressed(1L << 31, 31, -1), 0);
        due("bit 30 is left over of 31", f.pressed(1L << 30, 31, -1), 0);
        due("bit 1 is not of 1", f.pressed(2, 1, -1), 0);
        due("twos begin with the first bit", f.pressed(6, 4, 0), 0);
        due("twos begin with the first bit", f.pressed(6, 4, 1), 1);
        Bench.changesNothing("pressed(6, 4, 1)", x -> x.pressed(6, 4, 1));
    }

    private static void mixed(String name, int one, int two, int above, int below) {
        DrawsOut d = new DrawsOut();
        Bench.part("mixed " + name, d.mixed(one, two, 0), d.mixed(one, two, 1), above, below);
        Bench.part("mixed, changed about, " + name, d.mixed(two, one, 0), d.mixed(two, one, 1), above, below);
    }

    private static void mixed() {
        Bench.promise(38);
        for (int set : new int[] {LEAST, -65535, -2, -1, 0, 65536, 65537, 131071, 1 << 30, MOST}) {
            for (int part : new int[] {0, 1, 2, -1}) {
                Bench.refusedAlways("mixed(" + set + ", 1, " + part + ")", d -> d.mixed(set, 1, part), OUTSIDE);
                Bench.refusedAlways("mixed(65535, " + set + ", " + part + ")", d -> d.mixed(65535, set, part), OUTSIDE);
                Bench.refusedAlways("mixed(" + set + ", " + set + ", " + part + ")", d -> d.mixed(set, set, part), OUTSIDE);
            }
        }
        for (int part : NO_CHOICE) {
            Bench.refusedAlways("mixed(1, 1, " + part + ")", d -> d.mixed(1, 1, part), OUTSIDE);
            Bench.refusedAlways("mixed(65535, 65535, " + part + ")", d -> d.mixed(65535, 65535, part), OUTSIDE);
        }
        // Two rows alone are wholly odd or wholly even.
        for (int one = 0; one < 16; one++) {
            for (int two = 0; two < 16; two++) {
                mixed("of rows " + one + " and " + two, 1 << one, 1 << two, 1, 1);
            }
            mixed("of row " + one + " and all", 1 << one, 65535, one == 0 ? 1 : 0, 1);
        }
        mixed("of all and all", 65535, 65535, 1, 16);
        mixed("of all but row 0 and the same", 65534, 65534, 1, 15);
        mixed("of rows 0, 1 and 1", 3, 2, 0, 1);
        mixed("of rows 0, 1 and 0", 3, 1, 1, 1);
        mixed("of rows 0, 1, 2 and 1", 7, 2, 1, 3);
        mixed("of rows 0 .. 14 and 15", 32767, 32768, 1, 15);
        Bench.changesNothing("mixed(65535, 65535, 1)", d -> d.mixed(65535, 65535, 1));
    }

    private static void countBounds() {
        Bench.promise(39);
        for (int what : new int[] {LEAST, -8, -2, -1, 8, 9, 16, 256, 257, MOST}) {
            Bench.refusedAlways("count(" + what + ")", d -> d.count(what), OUTSIDE);
        }
        int[] empty = {0, 0, 0, 1, 1, 0, 0, 0};
        int[] some = {Bench.SOME_TEXT.length(), 8, 2, 6, 4, 4, 2, 3};
        int[] full = {200, 20, 6, 64, 32, 16, 10, 32};
        for (int what = 0; what <= 7; what++) {
            int told = what;
            Bench.asked(Bench.NEW, "count(" + what + ") of a new object", d -> d.count(told), empty[what]);
            Bench.asked(Bench.SOME, "count(" + what + ") of some", d -> d.count(told), some[what]);
            Bench.asked(Bench.FULL_STATE, "count(" + what + ") of a full object", d -> d.count(told), full[what]);
        }
    }

    /** Each count at each of its numbers. */
    private static void counts() {
        Bench.promise(39);
        DrawsOut d = new DrawsOut();
        for (int bytes = 1; bytes <= 200; bytes++) {
            d.write('z', 1);
            due("count(0) of " + bytes, d.count(0), bytes);
        }
        d.write('z', 1);
        due("count(0) of 201", d.count(0), 200);
        for (int lines = 1; lines <= 20; lines++) {
            DrawsOut x = Bench.with(Bench.lines("0is1", lines));
            due("count(1) of " + lines, x.count(1), lines);
            due("count(2) of no draws", x.count(2), 0);
            due("count(3) of no draws", x.count(3), 1);
        }
        for (int draws = 1; draws <= 6; draws++) {
            DrawsOut x = Bench.with(Bench.lines("0 draw 2", draws) + ";0 in 4");
            due("count(1) of " + draws + " draws", x.count(1), draws + 1);
            due("count(2) of " + draws + " draws", x.count(2), draws);
            due("count(3) of " + draws + " draws", x.count(3), 1 << draws);
            due("count(4) stays", x.count(4), 1);
        }
        for (int width = 0; width <= 5; width++) {
            due("count(4) of width " + width, Bench.made(Bench.inputs(width, -1)).count(4), 1 << width);
        }
        DrawsOut web = Bench.made(Bench.knots(2));
        for (int i = 1; i <= 33; i++) {
            web.edge(0, 1, 1);
            web.cord(3);
            web.heap(i % 4);
            due("count(5), edge " + i, web.count(5), Math.min(i, 16));
            due("count(6), cord " + i, web.count(6), Math.min(i, 10));
            due("count(7), heap " + i, web.count(7), Math.min(i, 32));
        }
        web.made(2);
        due("count(7) of pairs of two", web.count(7), 4);
        web.knots(2);
        due("count(5) behind knots()", web.count(5), 0);
        due("count(6) behind knots()", web.count(6), 0);
        due("count(7) behind knots()", web.count(7), 0);
    }
}
