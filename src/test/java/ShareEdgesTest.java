/** The edges of promises 20 to 24 and of what the document says of floats and doubles. */
public final class ShareEdgesTest {
    private static final Edges EDGES = new Edges();
    private static final int[] PRIMES = {2, 3, 5, 7};
    private static final int[] NO_TIMES = {-1, -2, 21, 22, Integer.MIN_VALUE, Integer.MAX_VALUE};
    private static final int[] NO_SIZES = {-1, -2, 6, 7, Integer.MIN_VALUE, Integer.MAX_VALUE};
    /** VALUE of AUTOMORPHISMS of the types of size 5 at 7, wrapped. */
    private static final long[] BY_SEVEN = {
        14406L, 605052L, 29647548L, 1423082304L, 69731032896L, 166936092753024L, -3040198573354110976L};

    private static TypesInside with(int type, int prime) {
        TypesInside x = new TypesInside();
        x.group(type, prime);
        return x;
    }

    private static long bits(float x) {
        return Float.floatToIntBits(x);
    }

    private static long bits(double x) {
        return Double.doubleToLongBits(x);
    }

    private static void shares() {
        EDGES.sentence("SHARE: how many SUBGROUPS are of TYPE m over how many there are (all: 1; none: 0)");
        EDGES.fresh("share 0 of TYPE 0", 1065353216, x -> x.share(0));
        EDGES.fresh("share 1 of TYPE 0", 0, x -> x.share(1));
        EDGES.stays("share 0", bits(0.125f), x -> x.share(0));
        EDGES.stays("share 1", bits(0.375f), x -> x.share(1));
        EDGES.stays("share 2", bits(0.25f), x -> x.share(2));
        EDGES.stays("share 21", bits(0.125f), x -> x.share(21));
        for (int none : new int[] {3, 111, 4, 5, 11111}) {
            EDGES.stays("share " + none, 0, x -> x.share(none));
        }
        EDGES.sentence("SHARE: as a float, over as a float");
        EDGES.due("share 1 of 11 at 3", with(11, 3).share(1), bits(4f / 6f));
        EDGES.due("share 0 of 11111", with(11111, 2).share(0), bits(1f / 374f));
        EDGES.due("share 111 of 11111", with(11111, 2).share(111), bits(155f / 374f));
        EDGES.due("share 1 of 1 at 7", with(1, 7).share(1), bits(0.5f));
        EDGES.sentence("share: NO: m");
        for (int no : Edges.NO_TYPES) {
            EDGES.stays("share " + no, Edges.NO, x -> x.share(no));
        }
    }

    private static void thousandths() {
        EDGES.sentence("thousandths: times 1000 (a float), cut to an int");
        EDGES.fresh("thousandths 0 of TYPE 0", 1000, x -> x.thousandths(0));
        EDGES.fresh("thousandths 1 of TYPE 0", 0, x -> x.thousandths(1));
        EDGES.stays("thousandths 1", 375, x -> x.thousandths(1));
        EDGES.stays("thousandths 21", 125, x -> x.thousandths(21));
        EDGES.stays("thousandths 11111", 0, x -> x.thousandths(11111));
        EDGES.due("thousandths 1 of 11 at 3: 666.7", with(11, 3).thousandths(1), 666);
        EDGES.due("thousandths 0 of 11 at 3: 166.7", with(11, 3).thousandths(0), 166);
        EDGES.due("thousandths 0 of 11111: 2.7", with(11111, 2).thousandths(0), 2);
        EDGES.due("thousandths 11 of 11111: 414.4", with(11111, 2).thousandths(11), 414);
        EDGES.sentence("thousandths: NONE: m");
        for (int no : Edges.NO_TYPES) {
            EDGES.stays("thousandths " + no, -1, x -> x.thousandths(no));
        }
    }

    /** The w that k steps make, as told. */
    private static double stepped(int prime, int k) {
        double w = 1.0;
        double q = 1.0;
        for (int i = 0; i < k; i++) {
            q = q / (double) prime;
            w = w * (1.0 - q);
        }
        return w;
    }

    private static void weight() {
        EDGES.sentence("WEIGHT by k 0: w is 1, as none of the k times is taken");
        for (int prime : PRIMES) {
            EDGES.stays("weight 0 " + prime + " 0", 0x3FF0000000000000L, x -> x.weight(0, prime, 0));
            EDGES.stays("weight 1 " + prime + " 0", bits(1.0 / (prime - 1)), x -> x.weight(1, prime, 0));
        }
        EDGES.sentence("WEIGHT by k (0 .. 20): k times q becomes q over the prime, w becomes w times (1 less q)");
        for (int prime : PRIMES) {
            for (int k : new int[] {1, 2, 3, 19, 20}) {
                EDGES.fresh("weight 0 " + prime + " " + k, bits(stepped(prime, k)), x -> x.weight(0, prime, k));
                EDGES.fresh("weight 11 " + prime + " " + k,
                        bits(stepped(prime, k) / ((prime * prime - 1.0) * (prime * prime - prime))),
                        x -> x.weight(11, prime, k));
            }
        }
        EDGES.fresh("weight 0 2 1", bits(0.5), x -> x.weight(0, 2, 1));
        EDGES.fresh("weight 0 2 2", bits(0.375), x -> x.weight(0, 2, 2));
        EDGES.fresh("weight 221 2 0", bits(1.0 / 1536.0), x -> x.weight(221, 2, 0));
        EDGES.sentence("WEIGHT: over the VALUE (that long as a double), which wraps");
        EDGES.stays("weight 11111 7 0", bits(1.0 / -3040198573354110976.0), x -> x.weight(11111, 7, 0));
        EDGES.stays("weight 11111 7 20", bits(stepped(7, 20) / -3040198573354110976.0), x -> x.weight(11111, 7, 20));
        EDGES.stays("weight 11111 5 20", bits(stepped(5, 20) / 226614960000000000.0), x -> x.weight(11111, 5, 20));
        EDGES.sentence("weight: NO: type, prime, k");
        for (int no : Edges.NO_TYPES) {
            EDGES.stays("weight " + no + " 2 0", Edges.NO, x -> x.weight(no, 2, 0));
        }
        for (int no : Edges.NO_PRIMES) {
            EDGES.stays("weight 0 " + no + " 0", Edges.NO, x -> x.weight(0, no, 0));
            EDGES.stays("weight 221 " + no + " 20", Edges.NO, x -> x.weight(221, no, 20));
        }
        for (int no : new int[] {11, 13, 23, 31}) {
            EDGES.stays("weight 1 " + no + " 1", Edges.NO, x -> x.weight(1, no, 1));
        }
        for (int no : NO_TIMES) {
            EDGES.stays("weight 0 2 " + no, Edges.NO, x -> x.weight(0, 2, no));
            EDGES.stays("weight 221 7 " + no, Edges.NO, x -> x.weight(221, 7, no));
        }
    }

    private static void weights() {
        EDGES.sentence("WEIGHTS of all TYPES of a SIZE (0 .. 5): of SIZE 0 that of TYPE 0, of SIZE 1 that of TYPE 1");
        for (int prime : PRIMES) {
            EDGES.stays("weights 0 " + prime + " 0", bits(1.0), x -> x.weights(0, prime, 0));
            EDGES.stays("weights 0 " + prime + " 20", bits(stepped(prime, 20)), x -> x.weights(0, prime, 20));
            EDGES.stays("weights 1 " + prime + " 1", bits(stepped(prime, 1) / (prime - 1.0)),
                    x -> x.weights(1, prime, 1));
        }
        EDGES.sentence("WEIGHTS: added by their numbers to 0");
        EDGES.fresh("weights 2 2 0", bits(0.0 + 1.0 / 2.0 + 1.0 / 6.0), x -> x.weights(2, 2, 0));
        EDGES.fresh("weights 3 3 0", bits(0.0 + 1.0 / 18.0 + 1.0 / 108.0 + 1.0 / 11232.0), x -> x.weights(3, 3, 0));
        for (int k = 0; k <= 20; k++) {
            int times = k;
            double all = 0.0;
            for (long value : BY_SEVEN) {
                all = all + stepped(7, k) / (double) value;
            }
            EDGES.fresh("weights 5 7 " + k, bits(all), x -> x.weights(5, 7, times));
        }
        EDGES.sentence("weights: NO: size, prime, k");
        for (int no : NO_SIZES) {
            EDGES.stays("weights " + no + " 2 0", Edges.NO, x -> x.weights(no, 2, 0));
            EDGES.stays("weights " + no + " 7 20", Edges.NO, x -> x.weights(no, 7, 20));
        }
        for (int no : Edges.NO_PRIMES) {
            EDGES.stays("weights 0 " + no + " 0", Edges.NO, x -> x.weights(0, no, 0));
            EDGES.stays("weights 5 " + no + " 20", Edges.NO, x -> x.weights(5, no, 20));
        }
        EDGES.stays("weights 1 11 1", Edges.NO, x -> x.weights(1, 11, 1));
        for (int no : NO_TIMES) {
            EDGES.stays("weights 0 2 " + no, Edges.NO, x -> x.weights(0, 2, no));
            EDGES.stays("weights 5 7 " + no, Edges.NO, x -> x.weights(5, 7, no));
        }
    }

    private static void means() {
        EDGES.sentence("MEAN: of all SUBGROUPS (of TYPE 0: one of one ELEMENT)");
        EDGES.fresh("mean of TYPE 0", 1065353216, x -> x.mean());
        EDGES.due("mean of TYPE 0 at 7", with(0, 7).mean(), 1065353216);
        EDGES.stays("mean", bits(27f / 8f), x -> x.mean());
        EDGES.sentence("MEAN: at last sum over how many SUBGROUPS there are (as a float)");
        EDGES.due("mean of 1 at 3", with(1, 3).mean(), 0x40000000);
        EDGES.due("mean of 1 at 5", with(1, 5).mean(), 0x40400000);
        EDGES.due("mean of 2", with(2, 2).mean(), bits(7f / 3f));
        EDGES.due("mean of 5", with(5, 2).mean(), bits(63f / 6f));
        EDGES.due("mean of 11 at 3", with(11, 3).mean(), bits(22f / 6f));
        EDGES.due("mean of 111 at 3", with(111, 3).mean(), bits((1f + 13f * 3f + 13f * 9f + 27f) / 28f));
        EDGES.due("mean of 1 at 7", with(1, 7).mean(), bits(4f));
        EDGES.due("mean of 11111", with(11111, 2).mean(), bits(2451f / 374f));
    }

    public static void main(String[] args) {
        shares();
        thousandths();
        weight();
        weights();
        means();
        EDGES.end();
    }
}
