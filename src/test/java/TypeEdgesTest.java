/** The edges of promises 1 to 4 and of what the document says of types. */
public final class TypeEdgesTest {
    private static final Edges EDGES = new Edges();
    private static final int[] SIZES = {0, 1, 2, 2, 3, 3, 3, 4, 4, 4, 4, 4, 5, 5, 5, 5, 5, 5, 5};
    private static final int[] PARTS = {0, 1, 1, 2, 1, 2, 3, 1, 2, 2, 3, 4, 1, 2, 2, 3, 3, 4, 5};
    private static final int[] HEAVIES = {0, 0, 0, 1, 0, 1, 3, 0, 1, 2, 3, 6, 0, 1, 2, 3, 4, 6, 10};
    private static final int[] KINDS = {0, 0, 0, 1, 0, 2, 1, 0, 2, 2, 2, 1, 0, 2, 2, 2, 2, 2, 1};
    private static final int[] INSIDE = {1, 2, 3, 3, 4, 5, 4, 5, 7, 6, 7, 5, 6, 9, 9, 10, 9, 9, 6};
    private static final int[] TURNED = {
        0, 1, 11, 2, 111, 21, 3, 1111, 211, 22, 31, 4, 11111, 2111, 221, 311, 32, 41, 5};

    /** Every call that takes a type refuses a number that is none, and changes nothing. */
    private static void noType(int no) {
        EDGES.stays("of " + no, -1, x -> x.of(no, 0));
        EDGES.stays("in " + no + " 1", -1, x -> x.in(no, 1));
        EDGES.stays("in 1 " + no, -1, x -> x.in(1, no));
        EDGES.stays("subgroups " + no + " 0 0", Edges.NO, x -> x.subgroups(no, 0, 0));
        EDGES.stays("subgroups 1 " + no + " 0", Edges.NO, x -> x.subgroups(1, no, 0));
        EDGES.stays("hall " + no + " 1 0 0", Edges.NO, x -> x.hall(no, 1, 0, 0));
        EDGES.stays("hall 1 " + no + " 0 0", Edges.NO, x -> x.hall(1, no, 0, 0));
        EDGES.stays("hall 1 0 " + no + " 0", Edges.NO, x -> x.hall(1, 0, no, 0));
        EDGES.stays("whole " + no + " 0 0", Edges.NO, x -> x.whole(no, 0, 0));
        EDGES.stays("value " + no + " 0 2", Edges.NO, x -> x.value(no, 0, 2));
        EDGES.stays("group " + no + " 2", -1, x -> x.group(no, 2));
        EDGES.stays("listed " + no + " -1", -1, x -> x.listed(no, -1));
        EDGES.stays("listed " + no + " 1", -1, x -> x.listed(no, 1));
        EDGES.stays("share " + no, Edges.NO, x -> x.share(no));
        EDGES.stays("thousandths " + no, -1, x -> x.thousandths(no));
        EDGES.stays("weight " + no + " 2 1", Edges.NO, x -> x.weight(no, 2, 1));
        EDGES.stays("put 0 1 " + no, -1, x -> x.put(0, 1, no));
        EDGES.stays("all 0 " + no, -1, x -> x.all(0, no));
        if (no != -1) {
            EDGES.stays("listed 1 " + no, -1, x -> x.listed(1, no));
        }
    }

    private static void whatIsNoType() {
        EDGES.sentence("each [PART] 1 or more");
        for (int no : new int[] {10, 20, 50, 101, 110, 201, 1011, 10000, 100000, 100001, 1000000011}) {
            noType(no);
        }
        EDGES.sentence("none greater than the one ahead");
        for (int no : new int[] {12, 13, 14, 23, 112, 113, 121, 122, 131, 212, 1112, 1121, 1211}) {
            noType(no);
        }
        EDGES.sentence("together 5 at most (its SIZE)");
        for (int no : new int[] {6, 7, 8, 9, 33, 42, 51, 55, 222, 321, 411, 2211, 3111, 21111, 111111, 1111111111}) {
            noType(no);
        }
        for (int type : new int[] {5, 41, 32, 311, 221, 2111, 11111}) {
            EDGES.fresh("of " + type + " 1", 5, x -> x.of(type, 1));
        }
        EDGES.sentence("It is told as a number: its PARTS as figures (none below 0)");
        for (int no : new int[] {-1, -2, -11, -21, -11111, Integer.MIN_VALUE, Integer.MAX_VALUE}) {
            noType(no);
        }
    }

    private static void numbers() {
        EDGES.sentence("0: no PARTS, SIZE 0");
        EDGES.fresh("of 0 0", 0, x -> x.of(0, 0));
        EDGES.fresh("of 0 1", 0, x -> x.of(0, 1));
        EDGES.fresh("of 0 2", 0, x -> x.of(0, 2));
        EDGES.fresh("of 0 6", 0, x -> x.of(0, 6));
        EDGES.sentence("TYPES are numbered from 0: those of less SIZE first, of one SIZE the one whose first PART that is"
                + " unlike is greater; 19 there are");
        for (int i = 0; i < Edges.TYPES.length; i++) {
            int at = i;
            int type = Edges.TYPES[i];
            EDGES.fresh("type " + i, type, x -> x.type(at));
            EDGES.fresh("of " + type + " 0", i, x -> x.of(type, 0));
        }
        EDGES.sentence("type: NONE");
        for (int no : new int[] {-1, -2, 19, 20, 221, Integer.MIN_VALUE, Integer.MAX_VALUE}) {
            EDGES.stays("type " + no, -1, x -> x.type(no));
        }
        EDGES.stays("type 18", 11111, x -> x.type(18));
        EDGES.stays("type 0", 0, x -> x.type(0));
    }

    private static void whatIsOfThem() {
        EDGES.sentence("together 5 at most (its SIZE); how many PARTS");
        dueOfAll(1, SIZES);
        dueOfAll(2, PARTS);
        EDGES.sentence("HEAVY: of all COLUMNS (COLUMN times (COLUMN less 1) over 2), together (a COLUMN of 0 or 1: 0)");
        dueOfAll(3, HEAVIES);
        EDGES.sentence("KIND: 0 CYCLIC: it has one PART, or none; 1 ELEMENTARY: it has two or more, all 1; 2 MIXED");
        dueOfAll(4, KINDS);
        EDGES.sentence("how many TYPES lie IN it (0 and itself, too)");
        dueOfAll(5, INSIDE);
        EDGES.sentence("the TYPE whose PARTS are its COLUMNS (those that aren't 0)");
        dueOfAll(6, TURNED);
        EDGES.sentence("of: NONE: type, what");
        for (int what : new int[] {-1, -2, 7, 8, Integer.MIN_VALUE, Integer.MAX_VALUE}) {
            EDGES.stays("of 0 " + what, -1, x -> x.of(0, what));
            EDGES.stays("of 221 " + what, -1, x -> x.of(221, what));
            EDGES.stays("of 6 " + what, -1, x -> x.of(6, what));
        }
    }

    private static void dueOfAll(int what, int[] want) {
        for (int i = 0; i < Edges.TYPES.length; i++) {
            int type = Edges.TYPES[i];
            EDGES.fresh("of " + type + " " + what, want[i], x -> x.of(type, what));
        }
    }

    private static void in() {
        EDGES.sentence("A TYPE m lies IN a TYPE l, if each COLUMN of m is no more than that of l");
        for (int type : Edges.TYPES) {
            EDGES.fresh("in " + type + " " + type, 1, x -> x.in(type, type));
            EDGES.fresh("in 0 " + type, 1, x -> x.in(0, type));
            EDGES.fresh("in " + type + " 0", type == 0 ? 1 : 0, x -> x.in(type, 0));
        }
        int[][] inside = {{1, 5}, {4, 5}, {1, 11111}, {1111, 11111}, {11, 22}, {21, 22}, {21, 311}, {31, 311}, {22, 32},
            {3, 32}, {211, 221}, {22, 221}, {111, 2111}, {211, 2111}, {2, 21}, {11, 21}};
        int[][] outside = {{2, 11}, {11, 2}, {3, 22}, {22, 31}, {22, 311}, {111, 32}, {111, 5}, {5, 41}, {4, 32},
            {1111, 311}, {1111, 221}, {31, 221}, {3, 221}, {11111, 2111}, {2111, 11111}, {21, 111}, {21, 3}, {41, 4}};
        for (int[] pair : inside) {
            EDGES.fresh("in " + pair[0] + " " + pair[1], 1, x -> x.in(pair[0], pair[1]));
        }
        for (int[] pair : outside) {
            EDGES.fresh("in " + pair[0] + " " + pair[1], 0, x -> x.in(pair[0], pair[1]));
        }
        EDGES.sentence("in: NONE: either");
        for (int no : Edges.NO_TYPES) {
            EDGES.stays("in " + no + " " + no, -1, x -> x.in(no, no));
            EDGES.stays("in " + no + " 0", -1, x -> x.in(no, 0));
            EDGES.stays("in 0 " + no, -1, x -> x.in(0, no));
        }
    }

    private static void newObject() {
        EDGES.sentence("THE GROUP of TYPE 0 (TYPE 0, PRIME 2 at first)");
        TypesInside x = new TypesInside();
        EDGES.dueGroup(x, 0, 2, 1);
        EDGES.due("list -1", x.list(-1), 1);
        EDGES.due("list 0", x.list(0), 1);
        EDGES.due("told 1 0", x.told(1, 0), 0);
        EDGES.due("told 1 1", x.told(1, 1), 0);
        EDGES.sentence("THE RESULT: none at first");
        EDGES.due("TERMS", x.count(3), 0);
        EDGES.due("term 0 0", x.term(0, 0), -1);
        EDGES.due("coefficient 0 0", x.coefficient(0, 0), Edges.NO);
        EDGES.due("bytes", x.count(4), 0);
        EDGES.sentence("SHELVES 0 .. 3 hold nothing (at first)");
        EDGES.due("rows", x.count(5), 0);
        for (int shelf = 0; shelf <= 3; shelf++) {
            EDGES.due("get " + shelf + " 0", x.get(shelf, 0), -11);
        }
        EDGES.sentence("STATE: there is none (no image at first)");
        EDGES.due("back", x.back(), -3);
    }

    public static void main(String[] args) {
        newObject();
        numbers();
        whatIsOfThem();
        in();
        whatIsNoType();
        EDGES.end();
    }
}
