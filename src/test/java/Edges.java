/**
 * What the tests of the document's edges have in common: each test is told by the sentence that it tries, and an object
 * in full use, of which all is read after a call that must leave it as it was.
 */
final class Edges {
    static final long NO = Long.MIN_VALUE;
    static final int[] TYPES = {
        0, 1, 2, 11, 3, 21, 111, 4, 31, 22, 211, 1111, 5, 41, 32, 311, 221, 2111, 11111};
    /** A part that is 0, a part greater than the one ahead, more than 5 together, less than no parts. */
    static final int[] NO_TYPES = {
        10, 20, 101, 110, 1011, 100000, 12, 13, 23, 112, 121, 212, 1112, 6, 33, 42, 51, 222, 321, 411, 1122, 2211, 3111,
        21111, 111111, -1, -11, -21, Integer.MAX_VALUE, Integer.MIN_VALUE};
    /** Numbers that are no primes at all. */
    static final int[] NO_PRIMES = {
        Integer.MIN_VALUE, -7, -5, -3, -2, -1, 0, 1, 4, 6, 8, 9, 10, 12, 15, 21, 25, 49};
    static final int[] NO_SHELVES = {-1, 4, 5, Integer.MIN_VALUE, Integer.MAX_VALUE};

    interface Call {
        long on(TypesInside x);
    }

    private String sentence = "";
    private int sentences = 0;
    private int wrong = 0;

    /** Begins the test of a sentence. */
    void sentence(String words) {
        sentence = words;
        sentences++;
    }

    void due(String call, long got, long want) {
        if (got != want) {
            wrong++;
            System.out.println("\"" + sentence + "\": " + call + " answered " + got + ", due is " + want);
        }
    }

    /** A call of a new object. */
    void fresh(String call, long want, Call asked) {
        due(call, asked.on(new TypesInside()), want);
    }

    /** A call of an object in full use, that leaves all as it was. */
    void stays(String call, long want, Call asked) {
        TypesInside x = full();
        due(call, asked.on(x), want);
        dueFull(call, x);
    }

    void feed(TypesInside x, String text) {
        for (int i = 0; i < text.length(); i++) {
            x.feed(text.charAt(i));
        }
    }

    int read(TypesInside x, String text) {
        feed(x, text);
        return x.read();
    }

    /** All 31 coefficients of a term, and its degree. */
    void dueTerm(TypesInside x, int i, int type, long... coefficients) {
        due("type of term " + i, x.term(i, 0), type);
        due("degree of term " + i, x.term(i, 1), coefficients.length - 1);
        for (int k = 0; k <= 30; k++) {
            due("term " + i + " coefficient " + k, x.coefficient(i, k), k < coefficients.length ? coefficients[k] : 0);
        }
    }

    /** A shelf's whole row, and that nothing is behind it. */
    void dueRow(TypesInside x, int shelf, int... types) {
        for (int i = 0; i < types.length; i++) {
            due("shelf " + shelf + " place " + i, x.get(shelf, i), types[i]);
        }
        due("shelf " + shelf + " behind its end", x.get(shelf, types.length), -12);
    }

    void dueGroup(TypesInside x, int type, int prime, int elements) {
        due("TYPE of THE GROUP", x.count(0), type);
        due("its PRIME", x.count(1), prime);
        due("its ELEMENTS", x.count(2), elements);
        due("the last ELEMENT", x.order(elements - 1) >= 1 ? 1 : 0, 1);
        due("behind the last ELEMENT", x.order(elements), -1);
    }

    /** A group, a result, shelves and bytes on the tape; and an image of other ones. */
    TypesInside full() {
        TypesInside x = new TypesInside();
        x.group(11, 3);
        read(x, "[1]");
        x.shelf(3, 2, 2);
        x.put(3, 1, 41);
        x.image();
        x.group(21, 2);
        read(x, "[1]*[1]-3");
        x.shelf(0, 3, 4);
        x.put(0, 0, 21);
        x.put(0, 2, 1);
        x.put(0, 3, 11);
        x.shelf(1, 0, 2);
        x.put(1, 0, 2);
        x.shelf(2, 1, 2);
        x.put(2, 1, 111);
        x.shelf(3, -1, 0);
        feed(x, "1+");
        return x;
    }

    /** That all is as full() made it. What no call tells is found by calls that change it; so it is the last look. */
    void dueFull(String call, TypesInside x) {
        String before = sentence;
        sentence = before + "\", all stays behind \"" + call;
        due("bytes", x.count(4), 2);
        dueFullBesideTape(x);
        due("the next byte", x.feed('['), 3);
        x.feed(']');
        due("the sum from the tape", x.read(), 1);
        dueTerm(x, 0, 0, 2);
        dueFullImage(x);
        sentence = before;
    }

    /** The same after a call that has emptied the tape. */
    void dueFullButTape(String call, TypesInside x) {
        String before = sentence;
        sentence = before + "\", the tape is empty and all else stays behind \"" + call;
        due("bytes", x.count(4), 0);
        dueFullBesideTape(x);
        due("the next byte", x.feed('1'), 1);
        due("the sum from the tape", x.read(), 1);
        dueTerm(x, 0, 0, 1);
        dueFullImage(x);
        sentence = before;
    }

    private void dueFullBesideTape(TypesInside x) {
        dueGroup(x, 21, 2, 8);
        due("sum 3 3", x.sum(3, 3), 2);
        due("sum 7 5", x.sum(7, 5), 0);
        due("order 1", x.order(1), 4);
        due("figure 7 0", x.figure(7, 0), 3);
        due("list -1", x.list(-1), 8);
        due("list 4", x.list(4), 15);
        due("told 15 1", x.told(15, 1), 1);
        due("listed 1 -1", x.listed(1, -1), 3);
        due("mean", x.mean(), Float.floatToIntBits(3.375f));
        due("TERMS", x.count(3), 3);
        dueTerm(x, 0, 0, -3);
        dueTerm(x, 1, 2, 1);
        dueTerm(x, 2, 11, 1, 1);
        due("no fourth TERM", x.term(3, 0), -1);
        due("rows", x.count(5), 3);
        dueRow(x, 0, 21, -5, 1, 11);
        dueRow(x, 1, 2, -5);
        dueRow(x, 2, -5, 111);
        due("nothing in 3", x.get(3, 0), -11);
        due("any comes into 0", x.put(0, 1, 32), 1);
        due("none of another kind into 1", x.put(1, 1, 11), -13);
        due("none of another kind into 2", x.put(2, 0, 1), -13);
    }

    private void dueFullImage(TypesInside x) {
        due("back", x.back(), 9);
        dueGroup(x, 11, 3, 9);
        due("TERMS of the image", x.count(3), 1);
        dueTerm(x, 0, 1, 1);
        due("rows of the image", x.count(5), 1);
        due("nothing in 0 of the image", x.get(0, 0), -11);
        due("nothing in 1 of the image", x.get(1, 0), -11);
        due("nothing in 2 of the image", x.get(2, 0), -11);
        dueRow(x, 3, -5, 41);
        due("none of another kind into 3 of the image", x.put(3, 0, 1), -13);
    }

    /** Ends the test: with exit code 1 if an answer was wrong. */
    void end() {
        System.out.println(wrong == 0 ? sentences + " sentences hold" : wrong + " answers are not as due");
        if (wrong != 0) {
            System.exit(1);
        }
    }
}
