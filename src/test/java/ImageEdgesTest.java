/** The edges of promises 34 to 36, of THE IMAGE and of what the document says of answers. */
public final class ImageEdgesTest {
    private static final Edges EDGES = new Edges();

    /** All that a new object tells, but for its tape and its image. */
    private static void dueNew(TypesInside x) {
        EDGES.dueGroup(x, 0, 2, 1);
        EDGES.due("list -1", x.list(-1), 1);
        EDGES.due("TERMS", x.count(3), 0);
        EDGES.due("term 0 0", x.term(0, 0), -1);
        EDGES.due("rows", x.count(5), 0);
        for (int shelf = 0; shelf <= 3; shelf++) {
            EDGES.due("get " + shelf + " 0", x.get(shelf, 0), -11);
        }
    }

    /** Something else in all that an image keeps. */
    private static void change(TypesInside x) {
        x.group(111, 2);
        EDGES.read(x, "7*[3]+[1]");
        x.shelf(0, 2, 20);
        x.put(0, 19, 32);
        x.put(1, 0, 5);
        x.shelf(2, -1, 0);
        x.shelf(3, 1, 0);
    }

    private static void none() {
        EDGES.sentence("back: STATE: there is none (and nothing changes)");
        EDGES.fresh("back", -3, x -> x.back());
        TypesInside x = new TypesInside();
        x.group(21, 3);
        EDGES.read(x, "4*[2]");
        x.shelf(1, 3, 2);
        x.put(1, 1, 21);
        EDGES.feed(x, "5+");
        EDGES.due("back", x.back(), -3);
        EDGES.due("back again", x.back(), -3);
        EDGES.dueGroup(x, 21, 3, 27);
        EDGES.due("TERMS", x.count(3), 1);
        EDGES.dueTerm(x, 0, 2, 4);
        EDGES.due("rows", x.count(5), 1);
        EDGES.dueRow(x, 1, -5, 21);
        EDGES.due("bytes", x.count(4), 2);
        EDGES.due("read", EDGES.read(x, "1"), 1);
        EDGES.dueTerm(x, 0, 0, 6);
    }

    private static void ofNew() {
        EDGES.sentence("image: how many ELEMENTS THE GROUP has (of a new object: 1); back: all is as at first");
        TypesInside x = new TypesInside();
        EDGES.due("image", x.image(), 1);
        change(x);
        EDGES.due("back", x.back(), 1);
        dueNew(x);
        EDGES.sentence("back: how many ELEMENTS THE GROUP has (of 32)");
        x.group(5, 2);
        EDGES.due("image", x.image(), 32);
        x.group(0, 7);
        EDGES.due("back", x.back(), 32);
        EDGES.dueGroup(x, 5, 2, 32);
        EDGES.sentence("THE IMAGE keeps THE GROUP: PRIME, too (TYPE 0 of PRIME 7)");
        x.group(0, 7);
        EDGES.due("image", x.image(), 1);
        x.group(0, 2);
        EDGES.due("back", x.back(), 1);
        EDGES.dueGroup(x, 0, 7, 1);
    }

    private static void kept() {
        EDGES.sentence("image: what is asked changes nothing but THE IMAGE");
        TypesInside x = EDGES.full();
        EDGES.due("image", x.image(), 8);
        EDGES.due("bytes", x.count(4), 2);
        EDGES.due("TERMS", x.count(3), 3);
        EDGES.due("rows", x.count(5), 3);
        EDGES.sentence("THE IMAGE keeps THE GROUP, THE RESULT, SHELVES with all that they hold: whatever came behind it");
        change(x);
        EDGES.due("back", x.back(), 8);
        dueFullKept(x);
        EDGES.sentence("THE IMAGE stays when all is as it: what changes then isn't in it");
        x.put(0, 1, 41);
        x.put(1, 1, 3);
        change(x);
        EDGES.due("back again", x.back(), 8);
        dueFullKept(x);
        EDGES.sentence("image: a later one is THE IMAGE instead");
        x = EDGES.full();
        EDGES.due("the one of full()", x.back(), 9);
        EDGES.dueGroup(x, 11, 3, 9);
        change(x);
        EDGES.due("image", x.image(), 8);
        x.group(1, 5);
        x.shelf(0, -1, 0);
        EDGES.due("back to the later one", x.back(), 8);
        EDGES.dueGroup(x, 111, 2, 8);
        EDGES.due("get 0 19", x.get(0, 19), 32);
    }

    private static void dueFullKept(TypesInside x) {
        EDGES.dueGroup(x, 21, 2, 8);
        EDGES.due("list -1", x.list(-1), 8);
        EDGES.due("sum 7 5", x.sum(7, 5), 0);
        EDGES.due("TERMS", x.count(3), 3);
        EDGES.dueTerm(x, 0, 0, -3);
        EDGES.dueTerm(x, 2, 11, 1, 1);
        EDGES.due("rows", x.count(5), 3);
        EDGES.dueRow(x, 0, 21, -5, 1, 11);
        EDGES.dueRow(x, 1, 2, -5);
        EDGES.dueRow(x, 2, -5, 111);
        EDGES.due("put 1 1 11", x.put(1, 1, 11), -13);
        EDGES.due("get 3 0", x.get(3, 0), -11);
    }

    private static void tape() {
        EDGES.sentence("THE IMAGE keeps THE GROUP, THE RESULT, SHELVES (not THE TAPE: it is as it was)");
        TypesInside x = new TypesInside();
        EDGES.feed(x, "1+");
        x.image();
        EDGES.due("bytes behind image", x.count(4), 2);
        EDGES.feed(x, "[1]");
        EDGES.due("back", x.back(), 1);
        EDGES.due("bytes behind back", x.count(4), 5);
        EDGES.due("read", x.read(), 2);
        EDGES.due("back", x.back(), 1);
        EDGES.due("bytes behind back", x.count(4), 0);
        EDGES.due("read of nothing", x.read(), -1000);
        EDGES.due("TERMS", x.count(3), 0);
    }

    private static void results() {
        EDGES.sentence("THE IMAGE keeps THE RESULT (of 19 TERMS, of none) and rows (of 20 places, of none)");
        TypesInside x = new TypesInside();
        EDGES.read(x, "(1+[1])*(1+[1])*(1+[1])*(1+[1])*(1+[1])");
        for (int shelf = 0; shelf <= 3; shelf++) {
            x.shelf(shelf, 3, 20);
            x.put(shelf, 19, 11111);
        }
        x.image();
        EDGES.read(x, "0");
        for (int shelf = 0; shelf <= 3; shelf++) {
            x.shelf(shelf, 3, 0);
        }
        EDGES.due("TERMS of none", x.count(3), 0);
        EDGES.due("get 3 0 of none", x.get(3, 0), -12);
        x.back();
        EDGES.due("TERMS of all", x.count(3), 19);
        EDGES.dueTerm(x, 18, 11111, 1, 4, 9, 15, 20, 22, 20, 15, 9, 4, 1);
        for (int shelf = 0; shelf <= 3; shelf++) {
            EDGES.due("get " + shelf + " 19", x.get(shelf, 19), 11111);
            EDGES.due("get " + shelf + " 20", x.get(shelf, 20), -12);
        }
        EDGES.read(x, "0");
        x.shelf(2, 3, 0);
        x.image();
        EDGES.read(x, "[1]");
        x.shelf(2, 3, 20);
        x.back();
        EDGES.due("TERMS of none, back", x.count(3), 0);
        EDGES.due("get 2 0 of none, back", x.get(2, 0), -12);
    }

    private static void counts() {
        EDGES.sentence("count: 0 .. 5");
        int[] all = {21, 2, 8, 3, 2, 3};
        for (int i = 0; i < all.length; i++) {
            int what = i;
            EDGES.stays("count " + i, all[i], x -> x.count(what));
        }
        EDGES.sentence("count: SHELVES that hold a row (of no places, too)");
        TypesInside x = new TypesInside();
        for (int shelf = 0; shelf <= 3; shelf++) {
            x.shelf(shelf, shelf, 0);
            EDGES.due("rows", x.count(5), shelf + 1);
        }
        x.shelf(2, -1, 0);
        EDGES.due("rows", x.count(5), 3);
        EDGES.sentence("count: NONE");
        for (int no : new int[] {-1, -2, 6, 7, Integer.MIN_VALUE, Integer.MAX_VALUE}) {
            EDGES.stays("count " + no, -1, y -> y.count(no));
            EDGES.fresh("count " + no, -1, y -> y.count(no));
        }
    }

    private static void answers() {
        EDGES.sentence("what is asked changes nothing");
        EDGES.stays("type", 21, x -> x.type(5));
        EDGES.stays("of", 4, x -> x.of(221, 3));
        EDGES.stays("in", 1, x -> x.in(21, 221));
        EDGES.stays("choices", 2, x -> x.choices(4, 2, 2));
        EDGES.stays("subgroups", 1, x -> x.subgroups(221, 2, 3));
        EDGES.stays("hall", 1, x -> x.hall(221, 21, 2, 3));
        EDGES.stays("whole", 22, x -> x.whole(11111, 2, 5));
        EDGES.stays("value", 374, x -> x.value(11111, 0, 2));
        EDGES.stays("sum", 2, x -> x.sum(3, 3));
        EDGES.stays("times", 5, x -> x.times(7, 3));
        EDGES.stays("order", 4, x -> x.order(7));
        EDGES.stays("figure", 3, x -> x.figure(7, 0));
        EDGES.stays("span", 255, x -> x.span(18));
        EDGES.stays("meet", 5, x -> x.meet(2, 32));
        EDGES.stays("told", 2, x -> x.told(15, 0));
        EDGES.stays("list", 165, x -> x.list(6));
        EDGES.stays("listed", 2, x -> x.listed(1, 2));
        EDGES.stays("share", Float.floatToIntBits(0.25f), x -> x.share(2));
        EDGES.stays("thousandths", 250, x -> x.thousandths(2));
        EDGES.stays("weight", Double.doubleToLongBits(0.375 / 6.0), x -> x.weight(11, 2, 2));
        EDGES.stays("weights", Double.doubleToLongBits(0.0 + 1.0 / 2.0 + 1.0 / 6.0), x -> x.weights(2, 2, 0));
        EDGES.stays("mean", Float.floatToIntBits(3.375f), x -> x.mean());
        EDGES.stays("term", 11, x -> x.term(2, 0));
        EDGES.stays("coefficient", -3, x -> x.coefficient(0, 0));
        EDGES.stays("get", 21, x -> x.get(0, 0));
        EDGES.sentence("an object is used for at most 512 calls after it has been made: all of them hold");
        TypesInside x = new TypesInside();
        for (int i = 0; i < 128; i++) {
            EDGES.due("group of call " + (4 * i + 1), x.group(i % 2 == 0 ? 11111 : 21, 2), i % 2 == 0 ? 32 : 8);
            EDGES.due("list of call " + (4 * i + 2), x.list(-1), i % 2 == 0 ? 374 : 8);
            EDGES.due("feed of call " + (4 * i + 3), x.feed('9'), 1);
            EDGES.due("read of call " + (4 * i + 4), x.read(), 1);
        }
    }

    public static void main(String[] args) {
        none();
        ofNew();
        kept();
        tape();
        results();
        counts();
        answers();
        EDGES.end();
    }
}
