/** The edges of promises 29 to 33 and of what the document says of shelves. */
public final class ShelfEdgesTest {
    private static final Edges EDGES = new Edges();
    private static final int LEAST = Integer.MIN_VALUE;
    private static final int MOST = Integer.MAX_VALUE;
    /** The KIND of each of the types. */
    private static final int[] KINDS = {0, 0, 0, 1, 0, 2, 1, 0, 2, 2, 2, 1, 0, 2, 2, 2, 2, 2, 1};

    /** In full() shelf 0 holds 4 places of any KIND, 1 two of CYCLIC ones, 2 two of ELEMENTARY ones, 3 nothing. */
    private static TypesInside full() {
        return EDGES.full();
    }

    private static TypesInside row(int sort, int n) {
        TypesInside x = new TypesInside();
        x.shelf(0, sort, n);
        return x;
    }

    private static void dueNothing(TypesInside x, int shelf) {
        EDGES.due("get " + shelf + " 0", x.get(shelf, 0), -11);
        EDGES.due("put " + shelf + " 0 0", x.put(shelf, 0, 0), -11);
    }

    private static void shelf() {
        EDGES.sentence("SHELVES hold a row of 0 .. 20 places, each without a TYPE at first");
        for (int n : new int[] {0, 1, 19, 20}) {
            for (int sort = 0; sort <= 3; sort++) {
                for (int at = 0; at <= 3; at++) {
                    TypesInside x = new TypesInside();
                    EDGES.due("shelf " + at + " " + sort + " " + n, x.shelf(at, sort, n), 1);
                    EDGES.due("rows", x.count(5), 1);
                    int[] places = new int[n];
                    java.util.Arrays.fill(places, -5);
                    EDGES.dueRow(x, at, places);
                    EDGES.due("a place ahead of all", x.get(at, -1), -12);
                    dueNothing(x, at == 0 ? 1 : 0);
                }
            }
        }
        EDGES.sentence("nothing (sort -1: n does not matter): 1");
        for (int n : new int[] {LEAST, -1, 0, 20, 21, MOST}) {
            TypesInside x = full();
            EDGES.due("shelf 0 -1 " + n, x.shelf(0, -1, n), 1);
            EDGES.due("rows", x.count(5), 2);
            dueNothing(x, 0);
            EDGES.due("shelf 3 -1 " + n, x.shelf(3, -1, n), 1);
            EDGES.due("rows", x.count(5), 2);
            EDGES.dueRow(x, 1, 2, -5);
        }
        EDGES.sentence("a row anew is without the TYPES that were there, also of as many places");
        TypesInside x = full();
        EDGES.due("shelf 0 3 4", x.shelf(0, 3, 4), 1);
        EDGES.dueRow(x, 0, -5, -5, -5, -5);
        x.put(0, 3, 5);
        x.shelf(0, 3, 2);
        x.shelf(0, 3, 4);
        EDGES.dueRow(x, 0, -5, -5, -5, -5);
        x.put(0, 3, 5);
        x.shelf(0, -1, 0);
        x.shelf(0, 0, 4);
        EDGES.dueRow(x, 0, -5, -5, -5, -5);
        EDGES.due("of the new sort", x.put(0, 0, 21), -13);
        shelfRefused();
    }

    private static void shelfRefused() {
        EDGES.sentence("shelf: NONE: shelf");
        for (int no : Edges.NO_SHELVES) {
            EDGES.stays("shelf " + no + " 3 4", -1, x -> x.shelf(no, 3, 4));
            EDGES.stays("shelf " + no + " -1 0", -1, x -> x.shelf(no, -1, 0));
            EDGES.stays("shelf " + no + " 4 21", -1, x -> x.shelf(no, 4, 21));
            EDGES.stays("shelf " + no + " 3 -1", -1, x -> x.shelf(no, 3, -1));
        }
        EDGES.sentence("shelf: BAD: sort, n above 20");
        for (int no : new int[] {-2, -3, 4, 5, LEAST, MOST}) {
            EDGES.stays("shelf 0 " + no + " 4", -2, x -> x.shelf(0, no, 4));
            EDGES.stays("shelf 3 " + no + " 4", -2, x -> x.shelf(3, no, 4));
            EDGES.stays("shelf 0 " + no + " -1", -2, x -> x.shelf(0, no, -1));
            EDGES.stays("shelf 0 " + no + " 21", -2, x -> x.shelf(0, no, 21));
        }
        for (int sort = 0; sort <= 3; sort++) {
            int at = sort;
            for (int no : new int[] {21, 22, 40, MOST}) {
                EDGES.stays("shelf 0 " + sort + " " + no, -2, x -> x.shelf(0, at, no));
                EDGES.stays("shelf 3 " + sort + " " + no, -2, x -> x.shelf(3, at, no));
            }
        }
        EDGES.sentence("shelf: -14 a size below 0");
        for (int sort = 0; sort <= 3; sort++) {
            int at = sort;
            for (int no : new int[] {-1, -2, -20, LEAST}) {
                EDGES.stays("shelf 0 " + sort + " " + no, -14, x -> x.shelf(0, at, no));
                EDGES.stays("shelf 3 " + sort + " " + no, -14, x -> x.shelf(3, at, no));
            }
        }
    }

    private static void put() {
        EDGES.sentence("a row of TYPES of one KIND (sort 0 .. 2), or of any (sort 3); -13 a TYPE of another KIND");
        for (int sort = 0; sort <= 3; sort++) {
            for (int i = 0; i < Edges.TYPES.length; i++) {
                TypesInside x = row(sort, 2);
                boolean suits = sort == 3 || sort == KINDS[i];
                EDGES.due("put " + Edges.TYPES[i] + " of sort " + sort, x.put(0, 1, Edges.TYPES[i]), suits ? 1 : -13);
                EDGES.dueRow(x, 0, -5, suits ? Edges.TYPES[i] : -5);
            }
        }
        EDGES.sentence("put: the first and the last place; what was there goes");
        TypesInside x = row(3, 20);
        EDGES.due("put 0 0 1", x.put(0, 0, 1), 1);
        EDGES.due("put 0 19 21", x.put(0, 19, 21), 1);
        EDGES.due("put 0 19 0", x.put(0, 19, 0), 1);
        EDGES.dueRow(x, 0, 1, -5, -5, -5, -5, -5, -5, -5, -5, -5, -5, -5, -5, -5, -5, -5, -5, -5, -5, 0);
        EDGES.sentence("put: NONE: shelf, type");
        for (int no : Edges.NO_SHELVES) {
            EDGES.stays("put " + no + " 0 1", -1, y -> y.put(no, 0, 1));
            EDGES.stays("put " + no + " 9 12", -1, y -> y.put(no, 9, 12));
        }
        for (int no : Edges.NO_TYPES) {
            EDGES.stays("put 0 0 " + no, -1, y -> y.put(0, 0, no));
            EDGES.stays("put 3 0 " + no, -1, y -> y.put(3, 0, no));
            EDGES.stays("put 1 2 " + no, -1, y -> y.put(1, 2, no));
        }
        EDGES.sentence("put: -11 nothing is there");
        for (int i : new int[] {-1, 0, 19, 20, LEAST, MOST}) {
            EDGES.stays("put 3 " + i + " 1", -11, y -> y.put(3, i, 1));
        }
        EDGES.sentence("put: -12 a place outside");
        for (int no : new int[] {-1, -2, 4, 5, 19, 20, LEAST, MOST}) {
            EDGES.stays("put 0 " + no + " 1", -12, y -> y.put(0, no, 1));
        }
        EDGES.stays("put 1 2 1", -12, y -> y.put(1, 2, 1));
        EDGES.due("put 0 0 1 in a row of no places", row(3, 0).put(0, 0, 1), -12);
        EDGES.sentence("put: -12 is ahead of -13");
        EDGES.stays("put 1 2 11", -12, y -> y.put(1, 2, 11));
        EDGES.stays("put 1 -1 21", -12, y -> y.put(1, -1, 21));
        EDGES.sentence("put: -13 (the place stays as it is)");
        EDGES.stays("put 1 0 11", -13, y -> y.put(1, 0, 11));
        EDGES.stays("put 1 1 21", -13, y -> y.put(1, 1, 21));
        EDGES.stays("put 2 1 0", -13, y -> y.put(2, 1, 0));
        EDGES.stays("put 2 1 1", -13, y -> y.put(2, 1, 1));
        EDGES.stays("put 2 0 2111", -13, y -> y.put(2, 0, 2111));
    }

    private static void get() {
        EDGES.sentence("get: the TYPE in place i; -5: there is none (TYPE 0 is one)");
        EDGES.stays("get 0 0", 21, x -> x.get(0, 0));
        EDGES.stays("get 0 1", -5, x -> x.get(0, 1));
        EDGES.stays("get 0 3", 11, x -> x.get(0, 3));
        TypesInside x = row(0, 1);
        x.put(0, 0, 0);
        EDGES.dueRow(x, 0, 0);
        EDGES.sentence("get: NONE: shelf; -11; -12");
        for (int no : Edges.NO_SHELVES) {
            EDGES.stays("get " + no + " 0", -1, y -> y.get(no, 0));
            EDGES.stays("get " + no + " -1", -1, y -> y.get(no, -1));
        }
        for (int i : new int[] {-1, 0, 20, LEAST, MOST}) {
            EDGES.stays("get 3 " + i, -11, y -> y.get(3, i));
        }
        for (int no : new int[] {-1, 4, 5, 19, 20, LEAST, MOST}) {
            EDGES.stays("get 0 " + no, -12, y -> y.get(0, no));
        }
        EDGES.stays("get 1 2", -12, y -> y.get(1, 2));
        EDGES.due("get 0 0 in a row of no places", row(3, 0).get(0, 0), -12);
    }

    private static void move() {
        EDGES.sentence("move: n places from i on are put from j on (a place without a TYPE leaves the other one without)");
        TypesInside x = full();
        x.shelf(3, 3, 5);
        x.put(3, 2, 5);
        x.put(3, 4, 4);
        EDGES.due("move 0 0 3 1 4", x.move(0, 0, 3, 1, 4), 4);
        EDGES.dueRow(x, 3, -5, 21, -5, 1, 11);
        EDGES.dueRow(x, 0, 21, -5, 1, 11);
        EDGES.sentence("move: as they all were before (the same row, on and back)");
        x = full();
        EDGES.due("move 0 0 0 1 3", x.move(0, 0, 0, 1, 3), 3);
        EDGES.dueRow(x, 0, 21, 21, -5, 1);
        x = full();
        EDGES.due("move 0 1 0 0 3", x.move(0, 1, 0, 0, 3), 3);
        EDGES.dueRow(x, 0, -5, 1, 11, 11);
        x = full();
        EDGES.due("move 0 0 0 0 4", x.move(0, 0, 0, 0, 4), 4);
        EDGES.dueRow(x, 0, 21, -5, 1, 11);
        x = row(3, 20);
        for (int i = 0; i < 19; i++) {
            x.put(0, i, Edges.TYPES[i]);
        }
        EDGES.due("move 0 0 0 1 19", x.move(0, 0, 0, 1, 19), 19);
        EDGES.dueRow(x, 0, 0, 0, 1, 2, 11, 3, 21, 111, 4, 31, 22, 211, 1111, 5, 41, 32, 311, 221, 2111, 11111);
        x.shelf(1, 3, 20);
        EDGES.due("move 0 0 1 0 20", x.move(0, 0, 1, 0, 20), 20);
        EDGES.dueRow(x, 1, 0, 0, 1, 2, 11, 3, 21, 111, 4, 31, 22, 211, 1111, 5, 41, 32, 311, 221, 2111, 11111);
        moveEnds();
        moveNone();
        moveRefused();
    }

    private static void moveEnds() {
        EDGES.sentence("move: at the first TYPE of another KIND it ends (what is ahead of it stays put)");
        TypesInside x = full();
        EDGES.due("move 0 2 1 0 2", x.move(0, 2, 1, 0, 2), 1);
        EDGES.dueRow(x, 1, 1, -5);
        EDGES.dueRow(x, 0, 21, -5, 1, 11);
        x = full();
        EDGES.due("move 0 1 1 0 2", x.move(0, 1, 1, 0, 2), 2);
        EDGES.dueRow(x, 1, -5, 1);
        EDGES.stays("move 0 0 1 0 2", 0, y -> y.move(0, 0, 1, 0, 2));
        EDGES.stays("move 0 3 1 0 1", 0, y -> y.move(0, 3, 1, 0, 1));
        EDGES.stays("move 2 1 1 0 1", 0, y -> y.move(2, 1, 1, 0, 1));
        EDGES.stays("move 1 0 2 1 1", 0, y -> y.move(1, 0, 2, 1, 1));
        x = full();
        EDGES.due("move 1 0 2 0 2", x.move(1, 0, 2, 0, 2), 0);
        EDGES.dueRow(x, 2, -5, 111);
        EDGES.due("move 1 1 2 1 1", x.move(1, 1, 2, 1, 1), 1);
        EDGES.dueRow(x, 2, -5, -5);
        EDGES.due("move 0 3 2 0 1", x.move(0, 3, 2, 0, 1), 1);
        EDGES.dueRow(x, 2, 11, -5);
    }

    private static void moveNone() {
        EDGES.sentence("move: n 0: none were; from the end on there are none");
        EDGES.stays("move 0 0 1 0 0", 0, x -> x.move(0, 0, 1, 0, 0));
        EDGES.stays("move 0 4 1 2 0", 0, x -> x.move(0, 4, 1, 2, 0));
        EDGES.stays("move 0 4 0 4 0", 0, x -> x.move(0, 4, 0, 4, 0));
        EDGES.due("move 0 0 0 0 0 in a row of no places", row(3, 0).move(0, 0, 0, 0, 0), 0);
        EDGES.due("move 0 0 0 0 1 in a row of no places", row(3, 0).move(0, 0, 0, 0, 1), -12);
    }

    private static void moveRefused() {
        EDGES.sentence("move: NONE: shelves");
        for (int no : Edges.NO_SHELVES) {
            EDGES.stays("move " + no + " 0 0 0 1", -1, x -> x.move(no, 0, 0, 0, 1));
            EDGES.stays("move 0 0 " + no + " 0 1", -1, x -> x.move(0, 0, no, 0, 1));
            EDGES.stays("move " + no + " 0 " + no + " 0 0", -1, x -> x.move(no, 0, no, 0, 0));
            EDGES.stays("move 3 -1 " + no + " 0 1", -1, x -> x.move(3, -1, no, 0, 1));
            EDGES.stays("move " + no + " -1 3 0 1", -1, x -> x.move(no, -1, 3, 0, 1));
        }
        EDGES.sentence("move: -11: either");
        EDGES.stays("move 3 0 0 0 1", -11, x -> x.move(3, 0, 0, 0, 1));
        EDGES.stays("move 0 0 3 0 1", -11, x -> x.move(0, 0, 3, 0, 1));
        EDGES.stays("move 3 0 3 0 0", -11, x -> x.move(3, 0, 3, 0, 0));
        EDGES.stays("move 0 -1 3 0 1", -11, x -> x.move(0, -1, 3, 0, 1));
        EDGES.stays("move 3 0 0 9 -1", -11, x -> x.move(3, 0, 0, 9, -1));
        EDGES.sentence("move: -12: n, i, j below 0");
        for (int no : new int[] {-1, -2, LEAST}) {
            EDGES.stays("move 0 0 0 0 " + no, -12, x -> x.move(0, 0, 0, 0, no));
            EDGES.stays("move 0 " + no + " 0 0 1", -12, x -> x.move(0, no, 0, 0, 1));
            EDGES.stays("move 0 0 0 " + no + " 1", -12, x -> x.move(0, 0, 0, no, 1));
            EDGES.stays("move 0 " + no + " 0 0 0", -12, x -> x.move(0, no, 0, 0, 0));
            EDGES.stays("move 0 0 0 " + no + " 0", -12, x -> x.move(0, 0, 0, no, 0));
            EDGES.stays("move 0 3 0 3 " + no, -12, x -> x.move(0, 3, 0, 3, no));
        }
        EDGES.sentence("move: -12: beyond either's end (nothing is put, not even what would have room)");
        EDGES.stays("move 0 0 0 0 5", -12, x -> x.move(0, 0, 0, 0, 5));
        EDGES.stays("move 0 1 0 0 4", -12, x -> x.move(0, 1, 0, 0, 4));
        EDGES.stays("move 0 0 0 1 4", -12, x -> x.move(0, 0, 0, 1, 4));
        EDGES.stays("move 0 0 1 0 3", -12, x -> x.move(0, 0, 1, 0, 3));
        EDGES.stays("move 1 0 0 0 3", -12, x -> x.move(1, 0, 0, 0, 3));
        EDGES.stays("move 1 1 0 0 2", -12, x -> x.move(1, 1, 0, 0, 2));
        EDGES.stays("move 0 2 1 1 2", -12, x -> x.move(0, 2, 1, 1, 2));
        EDGES.stays("move 0 5 0 0 0", -12, x -> x.move(0, 5, 0, 0, 0));
        EDGES.stays("move 0 0 1 3 0", -12, x -> x.move(0, 0, 1, 3, 0));
        EDGES.sentence("move: -12 is ahead of the first TYPE of another KIND");
        EDGES.stays("move 0 0 1 1 2", -12, x -> x.move(0, 0, 1, 1, 2));
        EDGES.sentence("move: sums that would wrap are beyond the end, too");
        EDGES.stays("move 0 1 0 0 MOST", -12, x -> x.move(0, 1, 0, 0, MOST));
        EDGES.stays("move 0 0 0 1 MOST", -12, x -> x.move(0, 0, 0, 1, MOST));
        EDGES.stays("move 0 MOST 0 0 1", -12, x -> x.move(0, MOST, 0, 0, 1));
        EDGES.stays("move 0 0 0 MOST 1", -12, x -> x.move(0, 0, 0, MOST, 1));
        EDGES.stays("move 0 MOST 0 MOST MOST", -12, x -> x.move(0, MOST, 0, MOST, MOST));
        EDGES.stays("move 0 MOST 0 0 0", -12, x -> x.move(0, MOST, 0, 0, 0));
    }

    private static void all() {
        EDGES.sentence("all: by their numbers, from place 0 on, as many as have room; the places behind stay");
        TypesInside x = full();
        EDGES.due("all 0 21", x.all(0, 21), 4);
        EDGES.dueRow(x, 0, 0, 1, 2, 11);
        x = full();
        EDGES.due("all 0 1", x.all(0, 1), 2);
        EDGES.dueRow(x, 0, 0, 1, 1, 11);
        x = full();
        EDGES.due("all 0 0", x.all(0, 0), 1);
        EDGES.dueRow(x, 0, 0, -5, 1, 11);
        x = row(3, 10);
        EDGES.due("all 0 311", x.all(0, 311), 10);
        EDGES.dueRow(x, 0, 0, 1, 2, 11, 3, 21, 111, 31, 211, 311);
        x = row(3, 9);
        EDGES.due("all 0 311 by nine places", x.all(0, 311), 9);
        EDGES.dueRow(x, 0, 0, 1, 2, 11, 3, 21, 111, 31, 211);
        x = row(3, 0);
        EDGES.due("all 0 311 by no places", x.all(0, 311), 0);
        EDGES.dueRow(x, 0);
        EDGES.sentence("all: those of another KIND are passed over (and leave no place out)");
        x = full();
        EDGES.due("all 1 221", x.all(1, 221), 2);
        EDGES.dueRow(x, 1, 0, 1);
        EDGES.due("all 2 2111", x.all(2, 2111), 2);
        EDGES.dueRow(x, 2, 11, 111);
        x = row(2, 20);
        EDGES.due("all 0 221", x.all(0, 221), 4);
        EDGES.dueRow(x, 0, 21, 22, 211, 221, -5, -5, -5, -5, -5, -5, -5, -5, -5, -5, -5, -5, -5, -5, -5, -5);
        EDGES.stays("all 2 5", 0, y -> y.all(2, 5));
        EDGES.stays("all 2 0", 0, y -> y.all(2, 0));
        EDGES.sentence("all: NONE: shelf, type; -11");
        for (int no : Edges.NO_SHELVES) {
            EDGES.stays("all " + no + " 21", -1, y -> y.all(no, 21));
            EDGES.stays("all " + no + " 12", -1, y -> y.all(no, 12));
        }
        for (int no : Edges.NO_TYPES) {
            EDGES.stays("all 0 " + no, -1, y -> y.all(0, no));
            EDGES.stays("all 3 " + no, -1, y -> y.all(3, no));
        }
        EDGES.stays("all 3 21", -11, y -> y.all(3, 21));
        EDGES.fresh("all 0 0", -11, y -> y.all(0, 0));
    }

    public static void main(String[] args) {
        shelf();
        put();
        get();
        move();
        all();
        EDGES.end();
    }
}
