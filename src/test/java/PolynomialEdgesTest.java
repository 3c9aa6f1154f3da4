/** The edges of promises 5 to 9 and of what the document says of polynomials. */
public final class PolynomialEdgesTest {
    private static final Edges EDGES = new Edges();
    private static final int[] NO_PARTS = {-2, -3, -5, 31, 32, Integer.MIN_VALUE, Integer.MAX_VALUE};
    private static final int[] NO_WHATS = {-1, -2, 3, 4, Integer.MIN_VALUE, Integer.MAX_VALUE};
    private static final int[] NO_PLACES = {-1, -2, 6, 7, Integer.MIN_VALUE, Integer.MAX_VALUE};

    private interface Parts {
        long of(TypesInside x, int part);
    }

    /** All that a polynomial tells: its degree and all 31 coefficients. */
    private static void due(String call, Parts parts, long... want) {
        TypesInside x = new TypesInside();
        EDGES.due(call + " -1", parts.of(x, -1), want.length == 0 ? -5 : want.length - 1);
        for (int k = 0; k <= 30; k++) {
            EDGES.due(call + " " + k, parts.of(x, k), k < want.length ? want[k] : 0);
        }
    }

    private static void dueChoices(int a, int b, long... want) {
        due("choices " + a + " " + b, (x, part) -> x.choices(a, b, part), want);
    }

    private static void dueSubgroups(int l, int m, long... want) {
        due("subgroups " + l + " " + m, (x, part) -> x.subgroups(l, m, part), want);
    }

    /** Of m, n and of n, m. */
    private static void dueHall(int l, int m, int n, long... want) {
        due("hall " + l + " " + m + " " + n, (x, part) -> x.hall(l, m, n, part), want);
        due("hall " + l + " " + n + " " + m, (x, part) -> x.hall(l, n, m, part), want);
    }

    private static void dueWhole(int type, int what, long... want) {
        due("whole " + type + " " + what, (x, part) -> x.whole(type, what, part), want);
    }

    private static void dueValue(int type, int what, int prime, long want) {
        EDGES.stays("value " + type + " " + what + " " + prime, want, x -> x.value(type, what, prime));
    }

    private static void parts() {
        EDGES.sentence("part -1 DEGREE (-5: all are 0)");
        EDGES.stays("choices 4 5 -1", -5, x -> x.choices(4, 5, -1));
        EDGES.stays("subgroups 2 11 -1", -5, x -> x.subgroups(2, 11, -1));
        EDGES.stays("hall 21 1 1 -1", -5, x -> x.hall(21, 1, 1, -1));
        EDGES.stays("whole 0 0 -1", 0, x -> x.whole(0, 0, -1));
        EDGES.stays("whole 11111 1 -1", 25, x -> x.whole(11111, 1, -1));
        EDGES.sentence("part i (0 .. 30) COEFFICIENT i: 0 above the DEGREE, up to 30");
        for (int k : new int[] {26, 29, 30}) {
            EDGES.stays("choices 5 2 " + k, 0, x -> x.choices(5, 2, k));
            EDGES.stays("subgroups 221 21 " + k, 0, x -> x.subgroups(221, 21, k));
            EDGES.stays("hall 221 21 2 " + k, 0, x -> x.hall(221, 21, 2, k));
            EDGES.stays("whole 11111 1 " + k, 0, x -> x.whole(11111, 1, k));
        }
        EDGES.stays("whole 11111 1 25", 1, x -> x.whole(11111, 1, 25));
        EDGES.sentence("NO: part");
        for (int no : NO_PARTS) {
            EDGES.stays("choices 5 2 " + no, Edges.NO, x -> x.choices(5, 2, no));
            EDGES.stays("choices 4 5 " + no, Edges.NO, x -> x.choices(4, 5, no));
            EDGES.stays("subgroups 221 21 " + no, Edges.NO, x -> x.subgroups(221, 21, no));
            EDGES.stays("subgroups 2 11 " + no, Edges.NO, x -> x.subgroups(2, 11, no));
            EDGES.stays("hall 221 21 2 " + no, Edges.NO, x -> x.hall(221, 21, 2, no));
            EDGES.stays("hall 21 1 1 " + no, Edges.NO, x -> x.hall(21, 1, 1, no));
            EDGES.stays("whole 11111 1 " + no, Edges.NO, x -> x.whole(11111, 1, no));
            EDGES.stays("whole 0 2 " + no, Edges.NO, x -> x.whole(0, 2, no));
        }
    }

    private static void choices() {
        EDGES.sentence("CHOICES of 0 among a: 1");
        for (int a = 0; a <= 5; a++) {
            dueChoices(a, 0, 1);
        }
        EDGES.sentence("of b among a, b above a: 0");
        for (int a = 0; a <= 4; a++) {
            for (int b = a + 1; b <= 5; b++) {
                dueChoices(a, b);
            }
        }
        EDGES.sentence("else CHOICES of b less 1 among a less 1, plus p to the b times CHOICES of b among a less 1");
        for (int a = 1; a <= 5; a++) {
            dueChoices(a, a, 1);
        }
        dueChoices(2, 1, 1, 1);
        dueChoices(3, 1, 1, 1, 1);
        dueChoices(3, 2, 1, 1, 1);
        dueChoices(4, 1, 1, 1, 1, 1);
        dueChoices(4, 2, 1, 1, 2, 1, 1);
        dueChoices(4, 3, 1, 1, 1, 1);
        dueChoices(5, 1, 1, 1, 1, 1, 1);
        dueChoices(5, 2, 1, 1, 2, 2, 2, 1, 1);
        dueChoices(5, 3, 1, 1, 2, 2, 2, 1, 1);
        dueChoices(5, 4, 1, 1, 1, 1, 1);
        EDGES.sentence("CHOICES of b among a (0 .. 5 each); NO: a, b");
        for (int no : NO_PLACES) {
            EDGES.stays("choices " + no + " 0 0", Edges.NO, x -> x.choices(no, 0, 0));
            EDGES.stays("choices 5 " + no + " 0", Edges.NO, x -> x.choices(5, no, 0));
            EDGES.stays("choices 0 " + no + " -1", Edges.NO, x -> x.choices(0, no, -1));
            EDGES.stays("choices " + no + " " + no + " 0", Edges.NO, x -> x.choices(no, no, 0));
        }
    }

    private static void subgroups() {
        EDGES.sentence("SUBGROUPS of TYPE m: 0, if m isn't IN l");
        dueSubgroups(0, 1);
        dueSubgroups(2, 11);
        dueSubgroups(11, 2);
        dueSubgroups(5, 11);
        dueSubgroups(22, 3);
        dueSubgroups(311, 22);
        dueSubgroups(4, 5);
        dueSubgroups(11111, 2);
        dueSubgroups(2111, 11111);
        EDGES.sentence("SUBGROUPS of TYPE 0 and of l's own TYPE: 1 of each");
        for (int type : Edges.TYPES) {
            dueSubgroups(type, 0, 1);
            dueSubgroups(type, type, 1);
        }
        EDGES.sentence("the product over i = 1, 2, .. 5 (COLUMN i + 1 of m is 0 behind the last)");
        for (int m = 1; m <= 5; m++) {
            dueSubgroups(5, m, 1);
        }
        dueSubgroups(41, 4, 0, 1);
        dueSubgroups(41, 31, 1);
        dueSubgroups(21, 2, 0, 1);
        dueSubgroups(22, 2, 0, 1, 1);
        dueSubgroups(221, 2, 0, 0, 1, 1);
        dueSubgroups(221, 21, 0, 1, 2, 1);
        dueSubgroups(11111, 11, 1, 1, 2, 2, 2, 1, 1);
        dueSubgroups(11111, 111, 1, 1, 2, 2, 2, 1, 1);
    }

    private static void hall() {
        EDGES.sentence("HALL: 0, if SIZES of m and n together aren't that of l");
        dueHall(0, 0, 1);
        dueHall(1, 0, 0);
        dueHall(21, 1, 1);
        dueHall(21, 2, 2);
        dueHall(2, 2, 1);
        dueHall(5, 5, 1);
        dueHall(5, 5, 5);
        dueHall(11111, 11111, 11111);
        EDGES.sentence("HALL of l, m, n: 0 of such TYPES as l has none of");
        dueHall(2, 1, 11);
        dueHall(2, 11, 0);
        dueHall(21, 111, 0);
        dueHall(3, 11, 1);
        dueHall(111, 2, 1);
        dueHall(11111, 21, 11);
        EDGES.sentence("HALL: of all there is, and of nothing: 1 each");
        for (int type : Edges.TYPES) {
            dueHall(type, type, 0, 1);
        }
        EDGES.sentence("HALL: the same for m, n and n, m");
        dueHall(21, 2, 1, 0, 1);
        dueHall(21, 11, 1, 1);
        dueHall(22, 2, 2, 0, 1, 1);
        dueHall(31, 2, 2, -1, 1);
        dueHall(31, 3, 1, 0, 1);
        dueHall(211, 2, 11, 0, 0, 1);
        dueHall(32, 21, 2, 0, 1);
        dueHall(32, 3, 2, 0, 0, 1);
        dueHall(311, 21, 2, -1, 0, 1);
        dueHall(221, 21, 2, 0, 0, 1, 1);
        dueHall(221, 111, 2);
        dueHall(11111, 11, 111, 1, 1, 2, 2, 2, 1, 1);
    }

    private static void whole() {
        EDGES.sentence("ALL SUBGROUPS of l: of all TYPES m, together (of TYPE 0: one)");
        dueWhole(0, 0, 1);
        dueWhole(1, 0, 2);
        dueWhole(5, 0, 6);
        dueWhole(21, 0, 4, 2);
        dueWhole(11111, 0, 6, 4, 6, 6, 6, 2, 2);
        EDGES.sentence("AUTOMORPHISMS of l: the product, for each COLUMN c that isn't 0 (of TYPE 0: of none, 1)");
        dueWhole(0, 1, 1);
        EDGES.sentence("AUTOMORPHISMS: d being the COLUMN behind it (0 behind the last)");
        dueWhole(1, 1, -1, 1);
        dueWhole(2, 1, 0, -1, 1);
        dueWhole(5, 1, 0, 0, 0, 0, -1, 1);
        dueWhole(11, 1, 0, 1, -1, -1, 1);
        dueWhole(21, 1, 0, 0, 0, 1, -2, 1);
        dueWhole(11111, 1, 0, 0, 0, 0, 0, 0, 0, 0, 0, 0, -1, 1, 1, 0, 0, -1, -1, -1, 1, 1, 1, 0, 0, -1, -1, 1);
        EDGES.sentence("CHAINS of l: ways to come from no element to the whole group (of TYPE 0: one)");
        dueWhole(0, 2, 1);
        dueWhole(1, 2, 1);
        dueWhole(5, 2, 1);
        dueWhole(11, 2, 1, 1);
        dueWhole(21, 2, 1, 2);
        dueWhole(11111, 2, 1, 4, 9, 15, 20, 22, 20, 15, 9, 4, 1);
        EDGES.sentence("whole: NO: what");
        for (int no : NO_WHATS) {
            EDGES.stays("whole 0 " + no + " 0", Edges.NO, x -> x.whole(0, no, 0));
            EDGES.stays("whole 221 " + no + " -1", Edges.NO, x -> x.whole(221, no, -1));
        }
    }

    private static void value() {
        EDGES.sentence("VALUE at a prime, of what 0, 1, 2 (of TYPE 0: 1)");
        for (int prime : new int[] {2, 3, 5, 7}) {
            dueValue(0, 0, prime, 1);
            dueValue(0, 1, prime, 1);
            dueValue(0, 2, prime, 1);
            dueValue(1, 0, prime, 2);
            dueValue(1, 1, prime, prime - 1);
            dueValue(11, 2, prime, prime + 1);
        }
        dueValue(11111, 0, 2, 374);
        dueValue(11111, 1, 2, 9999360);
        dueValue(11111, 1, 5, 226614960000000000L);
        EDGES.sentence("VALUE: as longs, which wrap");
        dueValue(11111, 1, 7, -3040198573354110976L);
        EDGES.sentence("value: NO: what, prime");
        for (int no : NO_WHATS) {
            dueValue(0, no, 2, Edges.NO);
            dueValue(221, no, 7, Edges.NO);
        }
        for (int no : Edges.NO_PRIMES) {
            for (int what = 0; what <= 2; what++) {
                dueValue(0, what, no, Edges.NO);
                dueValue(221, what, no, Edges.NO);
            }
        }
    }

    public static void main(String[] args) {
        parts();
        choices();
        subgroups();
        hall();
        whole();
        value();
        EDGES.end();
    }
}
