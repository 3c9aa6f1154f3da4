/** The edges of promises 10 to 19 and of what the document says of the group in hand. */
public final class GroupEdgesTest {
    private static final Edges EDGES = new Edges();
    private static final int[] NO_WHATS = {-1, -2, 3, 4, Integer.MIN_VALUE, Integer.MAX_VALUE};
    /** No elements of a group of 8; a mask by a long's or an int's bits would take some of them for elements. */
    private static final int[] NO_ELEMENTS = {
        -1, -8, 8, 9, 16, 31, 32, 63, 64, 65, 256, Integer.MIN_VALUE, Integer.MAX_VALUE};
    /** Bits beyond 8 elements. */
    private static final long[] NO_SETS = {
        256, 257, 511, 1L << 31, 1L << 32, 1L << 33, 1L << 62, Long.MIN_VALUE, Long.MIN_VALUE + 1, -1, -256,
        Long.MAX_VALUE};

    private static TypesInside with(int type, int prime) {
        TypesInside x = new TypesInside();
        x.group(type, prime);
        return x;
    }

    private static void groups() {
        EDGES.sentence("PRIME to the SIZE 32 at most: how many ELEMENTS it has");
        int[][] most = {{5, 2, 32}, {11111, 2, 32}, {221, 2, 32}, {3, 3, 27}, {111, 3, 27}, {2, 5, 25}, {11, 5, 25},
            {1, 7, 7}, {4, 2, 16}, {21, 3, 27}, {1, 5, 5}, {1, 3, 3}, {1, 2, 2}};
        for (int[] m : most) {
            TypesInside x = new TypesInside();
            EDGES.due("group " + m[0] + " " + m[1], x.group(m[0], m[1]), m[2]);
            EDGES.dueGroup(x, m[0], m[1], m[2]);
        }
        EDGES.sentence("THE GROUP is of TYPE 0 (one ELEMENT), for any PRIME (2, 3, 5, 7)");
        for (int prime : new int[] {2, 3, 5, 7}) {
            TypesInside x = with(21, 2);
            EDGES.due("group 0 " + prime, x.group(0, prime), 1);
            EDGES.dueGroup(x, 0, prime, 1);
            EDGES.due("list -1", x.list(-1), 1);
            EDGES.due("list 0", x.list(0), 1);
        }
        EDGES.sentence("THE GROUP is of a TYPE, for a PRIME: the same TYPE by another PRIME, another TYPE by the same one");
        TypesInside y = new TypesInside();
        int[][] turns = {{11, 2, 4, 5}, {11, 3, 9, 6}, {11, 5, 25, 8}, {2, 5, 25, 3}, {2, 3, 9, 3}, {2, 2, 4, 3},
            {2, 2, 4, 3}, {0, 2, 1, 1}, {0, 3, 1, 1}, {1, 3, 3, 2}, {1, 7, 7, 2}};
        for (int[] t : turns) {
            EDGES.due("group " + t[0] + " " + t[1], y.group(t[0], t[1]), t[2]);
            EDGES.dueGroup(y, t[0], t[1], t[2]);
            EDGES.due("list -1 of " + t[0] + " at " + t[1], y.list(-1), t[3]);
            EDGES.due("all of it", y.list(t[3] - 1), (1L << t[2]) - 1);
        }
        EDGES.sentence("group: FULL: more than 32");
        int[][] full = {{4, 3}, {22, 3}, {1111, 3}, {5, 3}, {11111, 3}, {3, 5}, {111, 5}, {4, 5}, {221, 5}, {2, 7},
            {11, 7}, {21, 7}, {31, 7}, {11111, 7}};
        for (int[] f : full) {
            EDGES.stays("group " + f[0] + " " + f[1], -4, x -> x.group(f[0], f[1]));
        }
        EDGES.sentence("group: BAD: prime");
        for (int no : Edges.NO_PRIMES) {
            EDGES.stays("group 0 " + no, -2, x -> x.group(0, no));
            EDGES.stays("group 1 " + no, -2, x -> x.group(1, no));
        }
        EDGES.stays("group 1 11", -2, x -> x.group(1, 11));
        EDGES.stays("group 1 13", -2, x -> x.group(1, 13));
        EDGES.stays("group 1 31", -2, x -> x.group(1, 31));
        EDGES.sentence("group: NONE: type; BAD: prime; FULL: the first that its words name");
        EDGES.stays("group 6 4", -1, x -> x.group(6, 4));
        EDGES.stays("group 111111 0", -1, x -> x.group(111111, 0));
        EDGES.stays("group 6 7", -1, x -> x.group(6, 7));
        EDGES.stays("group 11111 9", -2, x -> x.group(11111, 9));
        EDGES.stays("group 5 6", -2, x -> x.group(5, 6));
        EDGES.stays("group 2 11", -2, x -> x.group(2, 11));
    }

    private static void sums() {
        EDGES.sentence("ELEMENTS are added figure by figure, each going round");
        TypesInside x = with(21, 2);
        EDGES.due("sum 3 1", x.sum(3, 1), 0);
        EDGES.due("sum 7 1", x.sum(7, 1), 4);
        EDGES.due("sum 4 4", x.sum(4, 4), 0);
        EDGES.due("sum 7 7", x.sum(7, 7), 2);
        EDGES.due("sum 0 7", x.sum(0, 7), 7);
        EDGES.due("sum 7 0", x.sum(7, 0), 7);
        x = with(21, 3);
        EDGES.due("sum 8 1 at 3", x.sum(8, 1), 0);
        EDGES.due("sum 26 1 at 3", x.sum(26, 1), 18);
        EDGES.due("sum 18 9 at 3", x.sum(18, 9), 0);
        EDGES.due("sum 17 10 at 3", x.sum(17, 10), 18);
        x = with(11111, 2);
        EDGES.due("sum 31 31", x.sum(31, 31), 0);
        EDGES.due("sum 16 15", x.sum(16, 15), 31);
        x = with(5, 2);
        EDGES.due("sum 31 1", x.sum(31, 1), 0);
        EDGES.due("sum 31 31", x.sum(31, 31), 30);
        x = with(0, 7);
        EDGES.due("sum 0 0", x.sum(0, 0), 0);
        EDGES.due("sum 0 1", x.sum(0, 1), -1);
        EDGES.sentence("sum: NONE: either");
        for (int no : NO_ELEMENTS) {
            EDGES.stays("sum " + no + " 0", -1, y -> y.sum(no, 0));
            EDGES.stays("sum 7 " + no, -1, y -> y.sum(7, no));
            EDGES.stays("sum " + no + " " + no, -1, y -> y.sum(no, no));
        }
    }

    private static void times() {
        EDGES.sentence("times: so many times k (0: none at all; below 0: of what makes 0 with it)");
        TypesInside x = with(21, 2);
        int[][] due = {{7, 0, 0}, {0, 5, 0}, {0, -5, 0}, {0, Integer.MIN_VALUE, 0}, {7, 1, 7}, {7, -1, 5}, {5, -1, 7},
            {1, -1, 3}, {2, -1, 2}, {7, 2, 2}, {7, -2, 2}, {7, 3, 5}, {7, -3, 7}, {7, 4, 0}, {7, -4, 0}, {7, 5, 7},
            {1, Integer.MAX_VALUE, 3}, {1, Integer.MIN_VALUE, 0}, {1, Integer.MIN_VALUE + 1, 1}, {4, 7, 4}};
        for (int[] d : due) {
            EDGES.due("times " + d[0] + " " + d[1], x.times(d[0], d[1]), d[2]);
        }
        x = with(11, 5);
        EDGES.due("times 24 MAX at 5", x.times(24, Integer.MAX_VALUE), 18);
        EDGES.due("times 24 MIN at 5", x.times(24, Integer.MIN_VALUE), 18);
        EDGES.due("times 7 -1 at 5", x.times(7, -1), 23);
        x = with(3, 3);
        EDGES.due("times 26 MIN at 3", x.times(26, Integer.MIN_VALUE), 11);
        EDGES.due("times 26 MAX at 3", x.times(26, Integer.MAX_VALUE), 17);
        EDGES.due("times 0 MAX of TYPE 0", with(0, 2).times(0, Integer.MAX_VALUE), 0);
        EDGES.sentence("times: NONE");
        for (int no : NO_ELEMENTS) {
            EDGES.stays("times " + no + " 1", -1, y -> y.times(no, 1));
            EDGES.stays("times " + no + " 0", -1, y -> y.times(no, 0));
            EDGES.stays("times " + no + " -1", -1, y -> y.times(no, -1));
        }
    }

    private static void orders() {
        EDGES.sentence("order: how many times (1 at least) an ELEMENT makes 0");
        EDGES.fresh("order 0", 1, x -> x.order(0));
        TypesInside x = with(5, 2);
        EDGES.due("order 0", x.order(0), 1);
        EDGES.due("order 1", x.order(1), 32);
        EDGES.due("order 31", x.order(31), 32);
        EDGES.due("order 16", x.order(16), 2);
        EDGES.due("order 24", x.order(24), 4);
        x = with(1, 7);
        EDGES.due("order 0 at 7", x.order(0), 1);
        EDGES.due("order 6 at 7", x.order(6), 7);
        x = with(21, 3);
        EDGES.due("order 8 at 3", x.order(8), 9);
        EDGES.due("order 26 at 3", x.order(26), 9);
        EDGES.due("order 24 at 3", x.order(24), 3);
        EDGES.sentence("order: NONE");
        for (int no : NO_ELEMENTS) {
            EDGES.stays("order " + no, -1, y -> y.order(no));
        }
        EDGES.due("order 1 of TYPE 0", new TypesInside().order(1), -1);
        EDGES.due("order 32 of TYPE 5", with(5, 2).order(32), -1);
    }

    private static void figures() {
        EDGES.sentence("a figure for each PART q, below PRIME to the q: that of the first PART, plus PRIME to the first"
                + " PART times that of the second one, and so on");
        TypesInside x = with(221, 2);
        int[][] due = {{0, 0, 0}, {0, 2, 0}, {3, 0, 3}, {3, 1, 0}, {4, 0, 0}, {4, 1, 1}, {15, 1, 3}, {15, 2, 0},
            {16, 0, 0}, {16, 1, 0}, {16, 2, 1}, {31, 0, 3}, {31, 1, 3}, {31, 2, 1}};
        for (int[] d : due) {
            EDGES.due("figure " + d[0] + " " + d[1], x.figure(d[0], d[1]), d[2]);
        }
        x = with(21, 3);
        EDGES.due("figure 26 0 at 3", x.figure(26, 0), 8);
        EDGES.due("figure 26 1 at 3", x.figure(26, 1), 2);
        EDGES.due("figure 26 2 at 3", x.figure(26, 2), -1);
        EDGES.due("figure 31 4 of 11111", with(11111, 2).figure(31, 4), 1);
        EDGES.due("figure 31 5 of 11111", with(11111, 2).figure(31, 5), -1);
        EDGES.due("figure 31 0 of 5", with(5, 2).figure(31, 0), 31);
        EDGES.due("figure 31 1 of 5", with(5, 2).figure(31, 1), -1);
        EDGES.sentence("figure: NONE: element, i (TYPE 0 has no PARTS)");
        EDGES.fresh("figure 0 0 of TYPE 0", -1, y -> y.figure(0, 0));
        for (int no : new int[] {-1, -2, 2, 3, 5, Integer.MIN_VALUE, Integer.MAX_VALUE}) {
            EDGES.stays("figure 0 " + no, -1, y -> y.figure(0, no));
            EDGES.stays("figure 7 " + no, -1, y -> y.figure(7, no));
        }
        for (int no : NO_ELEMENTS) {
            EDGES.stays("figure " + no + " 0", -1, y -> y.figure(no, 0));
            EDGES.stays("figure " + no + " 2", -1, y -> y.figure(no, 2));
        }
    }

    private static void spans() {
        EDGES.sentence("SPAN (of the empty one: ELEMENT 0 alone)");
        EDGES.stays("span 0", 1, x -> x.span(0));
        EDGES.fresh("span 0 of TYPE 0", 1, x -> x.span(0));
        EDGES.fresh("span 1 of TYPE 0", 1, x -> x.span(1));
        EDGES.sentence("SPAN of a SET: the least SUBGROUP that has it (ELEMENT 0, though it isn't in the SET; a SUBGROUP:"
                + " itself)");
        EDGES.stays("span {0}", 1, x -> x.span(1));
        EDGES.stays("span {1}", 15, x -> x.span(2));
        EDGES.stays("span {2}", 5, x -> x.span(4));
        EDGES.stays("span {5}", 165, x -> x.span(32));
        EDGES.stays("span {2, 4}", 85, x -> x.span(20));
        EDGES.stays("span {7, 4}", 255, x -> x.span(144));
        EDGES.stays("span of all", 255, x -> x.span(255));
        for (long subgroup : new long[] {1, 5, 17, 65, 15, 85, 165, 255}) {
            EDGES.stays("span " + subgroup, subgroup, x -> x.span(subgroup));
        }
        EDGES.due("span {31} of 5", with(5, 2).span(1L << 31), 4294967295L);
        EDGES.due("span {31} of 11111", with(11111, 2).span(1L << 31), 2147483649L);
        EDGES.due("span {1, .., 16} of 11111", with(11111, 2).span(0x10116), 4294967295L);
        EDGES.sentence("span: NO: bits beyond ELEMENTS");
        for (long no : NO_SETS) {
            EDGES.stays("span " + no, Edges.NO, x -> x.span(no));
        }
        EDGES.fresh("span {1} of TYPE 0", Edges.NO, x -> x.span(2));
        EDGES.fresh("span {0, 1} of TYPE 0", Edges.NO, x -> x.span(3));
        for (long no : new long[] {1L << 32, 1L << 32 | 1, 1L << 63, -1, 1L << 33}) {
            EDGES.due("span " + no + " of 32", with(5, 2).span(no), Edges.NO);
        }
        EDGES.due("span {27} of 27", with(3, 3).span(1L << 27), Edges.NO);
        EDGES.due("span {26} of 27", with(3, 3).span(1L << 26), 134217727L);
    }

    private static void meets() {
        EDGES.sentence("meet: SPAN of the ELEMENTS that both SPANS have (empty SETS' SPANS have ELEMENT 0)");
        EDGES.stays("meet 0 0", 1, x -> x.meet(0, 0));
        EDGES.stays("meet 0 255", 1, x -> x.meet(0, 255));
        EDGES.stays("meet 255 0", 1, x -> x.meet(255, 0));
        EDGES.stays("meet 255 255", 255, x -> x.meet(255, 255));
        EDGES.fresh("meet 0 1 of TYPE 0", 1, x -> x.meet(0, 1));
        EDGES.sentence("meet: that both SPANS have (not both SETS)");
        EDGES.stays("meet {1} {2}", 5, x -> x.meet(2, 4));
        EDGES.stays("meet {1} {5}", 5, x -> x.meet(2, 32));
        EDGES.stays("meet {1} {4}", 1, x -> x.meet(2, 16));
        EDGES.stays("meet {1} {3}", 15, x -> x.meet(2, 8));
        EDGES.stays("meet {1, 4} {6}", 65, x -> x.meet(18, 64));
        EDGES.sentence("meet: NO: bits beyond ELEMENTS, of either");
        for (long no : NO_SETS) {
            EDGES.stays("meet " + no + " 1", Edges.NO, x -> x.meet(no, 1));
            EDGES.stays("meet 0 " + no, Edges.NO, x -> x.meet(0, no));
            EDGES.stays("meet " + no + " " + no, Edges.NO, x -> x.meet(no, no));
        }
        EDGES.due("meet {32} {31} of 32", with(5, 2).meet(1L << 32, 1L << 31), Edges.NO);
        EDGES.due("meet {31} {32} of 32", with(5, 2).meet(1L << 31, 1L << 32), Edges.NO);
        EDGES.due("meet {31} {16} of 32", with(5, 2).meet(1L << 31, 1L << 16), 65537);
    }

    private static void told() {
        EDGES.sentence("It is a SUBGROUP, if it isn't empty");
        EDGES.stays("told 0 0", -5, x -> x.told(0, 0));
        EDGES.stays("told 0 1", -5, x -> x.told(0, 1));
        EDGES.fresh("told 0 0 of TYPE 0", -5, x -> x.told(0, 0));
        EDGES.fresh("told 1 0 of TYPE 0", 0, x -> x.told(1, 0));
        EDGES.fresh("told 1 1 of TYPE 0", 0, x -> x.told(1, 1));
        EDGES.sentence("and has the sum of any two of its ELEMENTS; -5: it is no SUBGROUP (what 0, 1)");
        for (long no : new long[] {2, 3, 4, 7, 9, 14, 16, 20, 21, 33, 84, 127, 254}) {
            EDGES.stays("told " + no + " 0", -5, x -> x.told(no, 0));
            EDGES.stays("told " + no + " 1", -5, x -> x.told(no, 1));
        }
        EDGES.sentence("told: how many ELEMENTS it has (what 2: of any SET)");
        EDGES.stays("told 0 2", 0, x -> x.told(0, 2));
        EDGES.stays("told 1 2", 1, x -> x.told(1, 2));
        EDGES.stays("told 2 2", 1, x -> x.told(2, 2));
        EDGES.stays("told 127 2", 7, x -> x.told(127, 2));
        EDGES.stays("told 255 2", 8, x -> x.told(255, 2));
        EDGES.due("told all 2 of 32", with(5, 2).told(4294967295L, 2), 32);
        EDGES.sentence("told: TYPE, COTYPE (of ELEMENT 0 alone, and of all)");
        EDGES.stays("told 1 0", 0, x -> x.told(1, 0));
        EDGES.stays("told 1 1", 21, x -> x.told(1, 1));
        EDGES.stays("told 255 0", 21, x -> x.told(255, 0));
        EDGES.stays("told 255 1", 0, x -> x.told(255, 1));
        EDGES.stays("told 5 1", 11, x -> x.told(5, 1));
        EDGES.stays("told 17 1", 2, x -> x.told(17, 1));
        EDGES.stays("told 85 0", 11, x -> x.told(85, 0));
        for (int type : new int[] {5, 41, 32, 311, 221, 2111, 11111}) {
            EDGES.due("told all 0 of " + type, with(type, 2).told(4294967295L, 0), type);
            EDGES.due("told {0} 1 of " + type, with(type, 2).told(1, 1), type);
        }
        EDGES.sentence("told: BAD: bits beyond ELEMENTS; NONE: what; -5: the first that its words name");
        for (long no : NO_SETS) {
            EDGES.stays("told " + no + " 0", -2, x -> x.told(no, 0));
            EDGES.stays("told " + no + " 1", -2, x -> x.told(no, 1));
            EDGES.stays("told " + no + " 2", -2, x -> x.told(no, 2));
            EDGES.stays("told " + no + " 3", -2, x -> x.told(no, 3));
        }
        for (int no : NO_WHATS) {
            EDGES.stays("told 1 " + no, -1, x -> x.told(1, no));
            EDGES.stays("told 0 " + no, -1, x -> x.told(0, no));
            EDGES.stays("told 6 " + no, -1, x -> x.told(6, no));
        }
        EDGES.fresh("told 2 2 of TYPE 0", -2, x -> x.told(2, 2));
        EDGES.due("told {32} 2 of 32", with(5, 2).told(1L << 32, 2), -2);
    }

    private static void lists() {
        EDGES.sentence("THE LIST: those of fewer ELEMENTS first, of as many the one that is less as a number of bits");
        long[] all = {1, 5, 17, 65, 15, 85, 165, 255};
        for (int i = 0; i < all.length; i++) {
            int at = i;
            EDGES.stays("list " + i, all[i], x -> x.list(at));
        }
        TypesInside x = with(11111, 2);
        long[][] due = {{0, 1}, {1, 3}, {31, 2147483649L}, {32, 15}, {187, 255}, {342, 65535}, {372, 4278190335L},
            {373, 4294967295L}};
        for (long[] d : due) {
            EDGES.due("list " + d[0] + " of 11111", x.list((int) d[0]), d[1]);
        }
        EDGES.sentence("list: how many SUBGROUPS there are (i -1)");
        EDGES.stays("list -1", 8, y -> y.list(-1));
        EDGES.fresh("list -1 of TYPE 0", 1, y -> y.list(-1));
        EDGES.due("list -1 of 11111", x.list(-1), 374);
        EDGES.due("list -1 of 5", with(5, 2).list(-1), 6);
        EDGES.due("list -1 of 11 at 5", with(11, 5).list(-1), 8);
        EDGES.due("list -1 of 111 at 3", with(111, 3).list(-1), 28);
        EDGES.due("list -1 of 1 at 7", with(1, 7).list(-1), 2);
        EDGES.sentence("list: NO: no such i");
        for (int no : new int[] {-2, -3, 8, 9, 374, 400, Integer.MIN_VALUE, Integer.MAX_VALUE}) {
            EDGES.stays("list " + no, Edges.NO, y -> y.list(no));
        }
        EDGES.fresh("list 1 of TYPE 0", Edges.NO, y -> y.list(1));
        EDGES.due("list 374 of 11111", x.list(374), Edges.NO);
        EDGES.due("list 6 of 5", with(5, 2).list(6), Edges.NO);
    }

    private static void listed() {
        EDGES.sentence("listed: SUBGROUPS of THE LIST of TYPE m (n -1), of TYPE n and COTYPE m");
        int[][] due = {{0, -1, 1}, {1, -1, 3}, {2, -1, 2}, {11, -1, 1}, {21, -1, 1}, {21, 0, 1}, {0, 21, 1}, {2, 1, 2},
            {11, 1, 1}, {1, 2, 2}, {1, 11, 1}};
        for (int[] d : due) {
            EDGES.stays("listed " + d[0] + " " + d[1], d[2], x -> x.listed(d[0], d[1]));
        }
        EDGES.sentence("listed: 0 of a TYPE that isn't IN it, or of SIZES that aren't its");
        for (int[] d : new int[][] {{3, -1}, {111, -1}, {11111, -1}, {0, 0}, {1, 1}, {21, 21}, {3, 0}, {0, 3}, {2, 2}}) {
            EDGES.stays("listed " + d[0] + " " + d[1], 0, x -> x.listed(d[0], d[1]));
        }
        EDGES.fresh("listed 0 -1 of TYPE 0", 1, x -> x.listed(0, -1));
        EDGES.fresh("listed 0 0 of TYPE 0", 1, x -> x.listed(0, 0));
        EDGES.fresh("listed 1 -1 of TYPE 0", 0, x -> x.listed(1, -1));
        EDGES.sentence("listed: NONE: m, n");
        for (int no : Edges.NO_TYPES) {
            EDGES.stays("listed " + no + " -1", -1, x -> x.listed(no, -1));
            EDGES.stays("listed " + no + " 1", -1, x -> x.listed(no, 1));
            if (no != -1) {
                EDGES.stays("listed 1 " + no, -1, x -> x.listed(1, no));
            }
        }
        EDGES.stays("listed 1 -2", -1, x -> x.listed(1, -2));
    }

    public static void main(String[] args) {
        groups();
        sums();
        times();
        orders();
        figures();
        spans();
        meets();
        told();
        lists();
        listed();
        EDGES.end();
    }
}
