/** For each promise of the document: ordinary calls, the edges that it names, wrong arguments, and what stays as it was. */
public final class PromisesTest {
    private static final long NO = Long.MIN_VALUE;
    private static final int[] TYPES = {
        0, 1, 2, 11, 3, 21, 111, 4, 31, 22, 211, 1111, 5, 41, 32, 311, 221, 2111, 11111};
    private static final int[] NO_TYPES = {
        -1, 6, 10, 12, 20, 33, 42, 51, 101, 112, 121, 222, 321, 411, 1112, 3111, 11112, 111111, Integer.MAX_VALUE,
        Integer.MIN_VALUE};
    private static final int[] NO_PRIMES = {
        Integer.MIN_VALUE, -7, -3, -2, -1, 0, 1, 4, 6, 8, 9, 10, 11, 13, 14, 25, 49, Integer.MAX_VALUE};

    private static int wrong = 0;
    private static int promise = 0;

    private static void due(String call, long got, long want) {
        if (got != want) {
            wrong++;
            System.out.println("promise " + promise + ": " + call + " answered " + got + ", due is " + want);
        }
    }

    private static void feed(TypesInside x, String text) {
        for (int i = 0; i < text.length(); i++) {
            due("feed " + text.charAt(i), x.feed(text.charAt(i)), x.count(4));
        }
    }

    private static int read(TypesInside x, String text) {
        feed(x, text);
        return x.read();
    }

    private static void dueRead(String text, int want) {
        TypesInside x = new TypesInside();
        due("read [21] ahead of all", read(x, "[21]"), 1);
        due("read " + text, read(x, text), want);
        due("bytes behind " + text, x.count(4), 0);
        if (want < 0) {
            due("terms stay", x.count(3), 1);
            due("the term stays", x.term(0, 0), 21);
        } else {
            due("terms of " + text, x.count(3), want);
        }
    }

    private static void dueTerm(TypesInside x, int i, int type, long... coefficients) {
        due("type of term " + i, x.term(i, 0), type);
        due("degree of term " + i, x.term(i, 1), coefficients.length - 1);
        for (int k = 0; k <= 30; k++) {
            due("term " + i + " coefficient " + k, x.coefficient(i, k), k < coefficients.length ? coefficients[k] : 0);
        }
    }

    private interface Parts {
        long part(int part);
    }

    /** A polynomial's parts -1 to 30, and no others. */
    private static void duePolynomial(String call, Parts got, long... coefficients) {
        due(call + " degree", got.part(-1), coefficients.length == 0 ? -5 : coefficients.length - 1);
        for (int k = 0; k <= 30; k++) {
            due(call + " " + k, got.part(k), k < coefficients.length ? coefficients[k] : 0);
        }
        for (int k : new int[] {-2, -5, 31, Integer.MIN_VALUE, Integer.MAX_VALUE}) {
            due(call + " part " + k, got.part(k), NO);
        }
    }

    private static void newObject() {
        TypesInside x = new TypesInside();
        due("type", x.count(0), 0);
        due("prime", x.count(1), 2);
        due("elements", x.count(2), 1);
        due("terms", x.count(3), 0);
        due("bytes", x.count(4), 0);
        due("shelves", x.count(5), 0);
        due("list", x.list(-1), 1);
        due("list", x.list(0), 1);
        due("sum", x.sum(0, 0), 0);
        due("span", x.span(0), 1);
        due("no image", x.back(), TypesInside.STATE);
        due("no term", x.term(0, 0), -1);
        due("no shelf", x.get(0, 0), -11);
        due("STATE", TypesInside.STATE, -3);
        due("NO", TypesInside.NO, NO);
    }

    private static void type() {
        TypesInside x = new TypesInside();
        for (int i = 0; i < TYPES.length; i++) {
            due("type " + i, x.type(i), TYPES[i]);
        }
        for (int i : new int[] {-1, 19, 20, Integer.MIN_VALUE, Integer.MAX_VALUE}) {
            due("type " + i, x.type(i), -1);
        }
    }

    private static void dueOf(int type, int... answers) {
        TypesInside x = new TypesInside();
        for (int what = 0; what < answers.length; what++) {
            due("of " + type + " " + what, x.of(type, what), answers[what]);
        }
    }

    private static void of() {
        TypesInside x = new TypesInside();
        dueOf(0, 0, 0, 0, 0, 0, 1, 0);
        dueOf(1, 1, 1, 1, 0, 0, 2, 1);
        dueOf(5, 12, 5, 1, 0, 0, 6, 11111);
        dueOf(11, 3, 2, 2, 1, 1, 3, 2);
        dueOf(211, 10, 4, 3, 3, 2, 7, 31);
        dueOf(22, 9, 4, 2, 2, 2, 6, 22);
        dueOf(221, 16, 5, 3, 4, 2, 9, 32);
        dueOf(11111, 18, 5, 5, 10, 1, 6, 5);
        for (int what : new int[] {-1, 7, Integer.MIN_VALUE, Integer.MAX_VALUE}) {
            due("of 21 " + what, x.of(21, what), -1);
        }
        for (int type : NO_TYPES) {
            for (int what = 0; what <= 6; what++) {
                due("of " + type, x.of(type, what), -1);
            }
        }
    }

    private static void in() {
        TypesInside x = new TypesInside();
        due("0 in 0", x.in(0, 0), 1);
        due("0 in 5", x.in(0, 5), 1);
        due("21 in 21", x.in(21, 21), 1);
        due("2 in 11", x.in(2, 11), 0);
        due("11 in 2", x.in(11, 2), 0);
        due("21 in 311", x.in(21, 311), 1);
        due("22 in 311", x.in(22, 311), 0);
        due("111 in 32", x.in(111, 32), 0);
        due("22 in 221", x.in(22, 221), 1);
        due("221 in 22", x.in(221, 22), 0);
        for (int type : NO_TYPES) {
            due("in " + type, x.in(type, 21), -1);
            due("in of " + type, x.in(21, type), -1);
        }
    }

    private static void choices() {
        TypesInside x = new TypesInside();
        duePolynomial("0 among 0", k -> new TypesInside().choices(0, 0, k), 1);
        duePolynomial("1 among 0", k -> new TypesInside().choices(0, 1, k));
        duePolynomial("5 among 4", k -> new TypesInside().choices(4, 5, k));
        duePolynomial("0 among 5", k -> new TypesInside().choices(5, 0, k), 1);
        duePolynomial("5 among 5", k -> new TypesInside().choices(5, 5, k), 1);
        duePolynomial("1 among 5", k -> new TypesInside().choices(5, 1, k), 1, 1, 1, 1, 1);
        duePolynomial("2 among 4", k -> new TypesInside().choices(4, 2, k), 1, 1, 2, 1, 1);
        duePolynomial("2 among 5", k -> new TypesInside().choices(5, 2, k), 1, 1, 2, 2, 2, 1, 1);
        duePolynomial("3 among 5", k -> new TypesInside().choices(5, 3, k), 1, 1, 2, 2, 2, 1, 1);
        for (int a : new int[] {-1, 6, Integer.MIN_VALUE, Integer.MAX_VALUE}) {
            due("choices", x.choices(a, 1, 0), NO);
            due("choices", x.choices(1, a, 0), NO);
        }
    }

    private static void subgroups() {
        TypesInside x = new TypesInside();
        duePolynomial("0 of 0", k -> new TypesInside().subgroups(0, 0, k), 1);
        duePolynomial("1 of 111", k -> new TypesInside().subgroups(111, 1, k), 1, 1, 1);
        duePolynomial("2 of 21", k -> new TypesInside().subgroups(21, 2, k), 0, 1);
        duePolynomial("11 of 21", k -> new TypesInside().subgroups(21, 11, k), 1);
        duePolynomial("21 of 22", k -> new TypesInside().subgroups(22, 21, k), 1, 1);
        duePolynomial("2 of 221", k -> new TypesInside().subgroups(221, 2, k), 0, 0, 1, 1);
        duePolynomial("2 of 11", k -> new TypesInside().subgroups(11, 2, k));
        duePolynomial("21 of 2", k -> new TypesInside().subgroups(2, 21, k));
        for (int type : NO_TYPES) {
            due("subgroups of " + type, x.subgroups(type, 1, 0), NO);
            due("subgroups " + type, x.subgroups(1, type, 0), NO);
        }
    }

    private static void hall() {
        TypesInside x = new TypesInside();
        duePolynomial("0 0 0", k -> new TypesInside().hall(0, 0, 0, k), 1);
        duePolynomial("21 21 0", k -> new TypesInside().hall(21, 21, 0, k), 1);
        duePolynomial("21 0 21", k -> new TypesInside().hall(21, 0, 21, k), 1);
        duePolynomial("21 111 0", k -> new TypesInside().hall(21, 111, 0, k));
        duePolynomial("21 2 1", k -> new TypesInside().hall(21, 2, 1, k), 0, 1);
        duePolynomial("21 11 1", k -> new TypesInside().hall(21, 11, 1, k), 1);
        duePolynomial("22 2 2", k -> new TypesInside().hall(22, 2, 2, k), 0, 1, 1);
        duePolynomial("211 11 2", k -> new TypesInside().hall(211, 11, 2, k), 0, 0, 1);
        duePolynomial("31 2 2", k -> new TypesInside().hall(31, 2, 2, k), -1, 1);
        duePolynomial("311 21 2", k -> new TypesInside().hall(311, 21, 2, k), -1, 0, 1);
        duePolynomial("11111 11 111", k -> new TypesInside().hall(11111, 11, 111, k), 1, 1, 2, 2, 2, 1, 1);
        duePolynomial("11 2 0", k -> new TypesInside().hall(11, 2, 0, k));
        duePolynomial("sizes apart", k -> new TypesInside().hall(21, 1, 1, k));
        duePolynomial("sizes above", k -> new TypesInside().hall(5, 5, 1, k));
        for (int type : NO_TYPES) {
            due("hall of " + type, x.hall(type, 0, 0, 0), NO);
            due("hall m " + type, x.hall(0, type, 0, 0), NO);
            due("hall n " + type, x.hall(0, 0, type, 0), NO);
        }
    }

    private static void whole() {
        TypesInside x = new TypesInside();
        duePolynomial("all of 0", k -> new TypesInside().whole(0, 0, k), 1);
        duePolynomial("all of 21", k -> new TypesInside().whole(21, 0, k), 4, 2);
        duePolynomial("all of 11111", k -> new TypesInside().whole(11111, 0, k), 6, 4, 6, 6, 6, 2, 2);
        duePolynomial("automorphisms of 0", k -> new TypesInside().whole(0, 1, k), 1);
        duePolynomial("automorphisms of 5", k -> new TypesInside().whole(5, 1, k), 0, 0, 0, 0, -1, 1);
        duePolynomial("automorphisms of 11", k -> new TypesInside().whole(11, 1, k), 0, 1, -1, -1, 1);
        duePolynomial("automorphisms of 21", k -> new TypesInside().whole(21, 1, k), 0, 0, 0, 1, -2, 1);
        due("degree of the automorphisms of 11111", x.whole(11111, 1, -1), 25);
        due("the least power in them", x.whole(11111, 1, 10), -1);
        due("below it", x.whole(11111, 1, 9), 0);
        duePolynomial("chains of 0", k -> new TypesInside().whole(0, 2, k), 1);
        duePolynomial("chains of 4", k -> new TypesInside().whole(4, 2, k), 1);
        duePolynomial("chains of 21", k -> new TypesInside().whole(21, 2, k), 1, 2);
        duePolynomial("chains of 1111", k -> new TypesInside().whole(1111, 2, k), 1, 3, 5, 6, 5, 3, 1);
        for (int what : new int[] {-1, 3, Integer.MIN_VALUE, Integer.MAX_VALUE}) {
            due("whole what " + what, x.whole(21, what, 0), NO);
        }
        for (int type : NO_TYPES) {
            due("whole of " + type, x.whole(type, 0, 0), NO);
        }
    }

    private static void value() {
        TypesInside x = new TypesInside();
        due("all of 11111 at 2", x.value(11111, 0, 2), 374);
        due("all of 0 at 3", x.value(0, 0, 3), 1);
        due("all of 21 at 7", x.value(21, 0, 7), 18);
        due("automorphisms of 11111 at 2", x.value(11111, 1, 2), 9999360);
        due("automorphisms of 11 at 5", x.value(11, 1, 5), 480);
        due("chains of 111 at 3", x.value(111, 2, 3), 52);
        java.math.BigInteger all = java.math.BigInteger.ONE;
        java.math.BigInteger seven = java.math.BigInteger.valueOf(7);
        for (int i = 0; i < 5; i++) {
            all = all.multiply(seven.pow(5).subtract(seven.pow(i)));
        }
        due("automorphisms of 11111 at 7, wrapped", x.value(11111, 1, 7), all.longValue());
        for (int prime : NO_PRIMES) {
            due("value at " + prime, x.value(21, 0, prime), NO);
        }
        for (int what : new int[] {-1, 3, Integer.MIN_VALUE, Integer.MAX_VALUE}) {
            due("value what " + what, x.value(21, what, 2), NO);
        }
        for (int type : NO_TYPES) {
            due("value of " + type, x.value(type, 0, 2), NO);
        }
    }

    private static void dueGroup(TypesInside x, int type, int prime, int many) {
        due("type held", x.count(0), type);
        due("prime held", x.count(1), prime);
        due("elements held", x.count(2), many);
    }

    private static void group() {
        TypesInside x = new TypesInside();
        due("32 at 2", x.group(32, 2), 32);
        dueGroup(x, 32, 2, 32);
        due("21 at 3", x.group(21, 3), 27);
        due("11 at 5", x.group(11, 5), 25);
        due("1 at 7", x.group(1, 7), 7);
        due("0 at 7", x.group(0, 7), 1);
        dueGroup(x, 0, 7, 1);
        due("3 at 3", x.group(3, 3), 27);
        due("FULL 11 at 7", x.group(11, 7), -4);
        due("FULL 3 at 5", x.group(3, 5), -4);
        due("FULL 1111 at 3", x.group(1111, 3), -4);
        due("FULL 11111 at 7", x.group(11111, 7), -4);
        for (int prime : NO_PRIMES) {
            due("group at " + prime, x.group(1, prime), -2);
            due("group too great at " + prime, x.group(11111, prime), -2);
        }
        for (int type : NO_TYPES) {
            due("group of " + type, x.group(type, 2), -1);
            due("group of " + type + " at no prime", x.group(type, 4), -1);
        }
        dueGroup(x, 3, 3, 27);
    }

    private static void sum() {
        TypesInside x = new TypesInside();
        x.group(21, 2);
        due("3 + 3", x.sum(3, 3), 2);
        due("4 + 4", x.sum(4, 4), 0);
        due("7 + 5", x.sum(7, 5), 0);
        due("1 + 4", x.sum(1, 4), 5);
        due("6 + 3", x.sum(6, 3), 5);
        x.group(11, 5);
        due("13 + 14", x.sum(13, 14), 22);
        due("24 + 24", x.sum(24, 24), 18);
        for (int no : new int[] {-1, 25, 31, Integer.MIN_VALUE, Integer.MAX_VALUE}) {
            due("sum", x.sum(no, 0), -1);
            due("sum", x.sum(0, no), -1);
        }
    }

    private static void times() {
        TypesInside x = new TypesInside();
        x.group(21, 3);
        due("10 once", x.times(10, 1), 10);
        due("10 five times", x.times(10, 5), 23);
        due("10 no times", x.times(10, 0), 0);
        due("10 less once", x.times(10, -1), 26);
        due("10 nine times", x.times(10, 9), 0);
        due("10 the most times", x.times(10, Integer.MAX_VALUE), 10);
        due("10 the least times", x.times(10, Integer.MIN_VALUE), 16);
        due("0", x.times(0, 77), 0);
        for (int no : new int[] {-1, 27, Integer.MIN_VALUE, Integer.MAX_VALUE}) {
            due("times", x.times(no, 1), -1);
        }
    }

    private static void order() {
        TypesInside x = new TypesInside();
        due("0", x.order(0), 1);
        x.group(32, 2);
        due("0", x.order(0), 1);
        due("1", x.order(1), 8);
        due("2", x.order(2), 4);
        due("4", x.order(4), 2);
        due("8", x.order(8), 4);
        due("20", x.order(20), 2);
        due("31", x.order(31), 8);
        for (int no : new int[] {-1, 32, Integer.MIN_VALUE, Integer.MAX_VALUE}) {
            due("order", x.order(no), -1);
        }
        x.group(11111, 2);
        due("31 of 11111", x.order(31), 2);
        x.group(5, 2);
        due("31 of 5", x.order(31), 32);
    }

    private static void figure() {
        TypesInside x = new TypesInside();
        due("no figures", x.figure(0, 0), -1);
        x.group(211, 2);
        due("0 of 15", x.figure(15, 0), 3);
        due("1 of 15", x.figure(15, 1), 1);
        due("2 of 15", x.figure(15, 2), 1);
        due("0 of 6", x.figure(6, 0), 2);
        due("1 of 6", x.figure(6, 1), 1);
        due("2 of 6", x.figure(6, 2), 0);
        for (int no : new int[] {-1, 3, 4, 5, Integer.MIN_VALUE, Integer.MAX_VALUE}) {
            due("figure", x.figure(6, no), -1);
        }
        for (int no : new int[] {-1, 16, Integer.MIN_VALUE, Integer.MAX_VALUE}) {
            due("figure", x.figure(no, 0), -1);
        }
    }

    private static void span() {
        TypesInside x = new TypesInside();
        x.group(21, 2);
        due("of none", x.span(0), 1);
        due("of 0", x.span(1), 1);
        due("of 1", x.span(1L << 1), 0b1111);
        due("of 2", x.span(1L << 2), 0b101);
        due("of 4", x.span(1L << 4), 0b10001);
        due("of 5", x.span(1L << 5), 0b10100101);
        due("of 2 and 4", x.span(0b10100), 0b1010101);
        due("of 1 and 4", x.span(0b10010), 0b11111111);
        due("beyond", x.span(256), NO);
        due("beyond", x.span(-1), NO);
        due("beyond", x.span(Long.MIN_VALUE), NO);
        x.group(5, 2);
        due("of 1", x.span(2), 0xFFFFFFFFL);
        due("of 31", x.span(1L << 31), 0xFFFFFFFFL);
        due("beyond", x.span(1L << 32), NO);
        due("beyond", x.span(1L << 63), NO);
    }

    private static void meet() {
        TypesInside x = new TypesInside();
        x.group(21, 2);
        due("of none", x.meet(0, 0), 1);
        due("1 and 5", x.meet(1L << 1, 1L << 5), 0b101);
        due("1 and 4", x.meet(1L << 1, 1L << 4), 1);
        due("1 and all", x.meet(1L << 1, 0xFF), 0b1111);
        due("all and 6", x.meet(0xFF, 1L << 6), 0b1000001);
        due("beyond, one", x.meet(256, 1), NO);
        due("beyond, other", x.meet(1, 256), NO);
        due("beyond, both", x.meet(-1, -1), NO);
    }

    private static void told() {
        TypesInside x = new TypesInside();
        x.group(221, 2);
        due("type of 0", x.told(1, 0), 0);
        due("cotype of 0", x.told(1, 1), 221);
        due("type of all", x.told(0xFFFFFFFFL, 0), 221);
        due("cotype of all", x.told(0xFFFFFFFFL, 1), 0);
        due("type of first part", x.told(0b1111, 0), 2);
        due("cotype of first part", x.told(0b1111, 1), 21);
        due("cotype of its double", x.told(0b101, 1), 211);
        due("cotype of the last part", x.told(1L | 1L << 16, 1), 22);
        due("how many", x.told(0b1111, 2), 4);
        due("how many of none", x.told(0, 2), 0);
        due("how many of what is none", x.told(0b110, 2), 2);
        for (long no : new long[] {0, 2, 0b11, 0b111, 0b1110}) {
            due("no subgroup", x.told(no, 0), -5);
            due("no subgroup", x.told(no, 1), -5);
        }
        for (int what : new int[] {-1, 3, Integer.MIN_VALUE, Integer.MAX_VALUE}) {
            due("what", x.told(1, what), -1);
            due("what of none", x.told(0, what), -1);
        }
        due("beyond", x.told(1L << 32, 0), -2);
        due("beyond", x.told(1L << 63, 2), -2);
        due("beyond and no what", x.told(-1, 3), -2);
    }

    private static void list() {
        TypesInside x = new TypesInside();
        x.group(21, 2);
        long[] all = {1, 5, 17, 65, 15, 85, 165, 255};
        due("how many", x.list(-1), 8);
        for (int i = 0; i < all.length; i++) {
            due("list " + i, x.list(i), all[i]);
        }
        for (int no : new int[] {-2, 8, Integer.MIN_VALUE, Integer.MAX_VALUE}) {
            due("list", x.list(no), NO);
        }
        x.group(11111, 2);
        due("how many of 11111", x.list(-1), 374);
        due("the last", x.list(373), 0xFFFFFFFFL);
        due("none behind", x.list(374), NO);
        x.group(1, 7);
        due("how many of 1", x.list(-1), 2);
        due("all of 1", x.list(1), 127);
    }

    private static void listed() {
        TypesInside x = new TypesInside();
        x.group(31, 2);
        due("of type 2", x.listed(2, -1), 2);
        due("of type 11", x.listed(11, -1), 1);
        due("of type 2, cotype 11", x.listed(11, 2), 1);
        due("of type 11, cotype 2", x.listed(2, 11), 1);
        due("of type 2, cotype 2", x.listed(2, 2), 1);
        due("of type 21, cotype 1", x.listed(1, 21), 1);
        due("of type 1, cotype 21", x.listed(21, 1), 1);
        due("of type 1, cotype 3", x.listed(3, 1), 2);
        due("of type 31, cotype 0", x.listed(0, 31), 1);
        due("of type 4", x.listed(4, -1), 0);
        due("of type 0, cotype 31", x.listed(31, 0), 1);
        due("of sizes apart", x.listed(1, 1), 0);
        for (int type : NO_TYPES) {
            due("listed m", x.listed(type, -1), -1);
            if (type != -1) {
                due("listed n", x.listed(1, type), -1);
            }
        }
    }

    private static void share() {
        TypesInside x = new TypesInside();
        due("0 of 0", x.share(0), Float.floatToIntBits(1f));
        x.group(111, 2);
        due("1 of 111", x.share(1), Float.floatToIntBits(7f / 16f));
        x.group(11, 3);
        due("1 of 11", x.share(1), Float.floatToIntBits(4f / 6f));
        due("0 of 11", x.share(0), Float.floatToIntBits(1f / 6f));
        due("2 of 11", x.share(2), 0);
        for (int type : NO_TYPES) {
            due("share of " + type, x.share(type), NO);
        }
    }

    private static void thousandths() {
        TypesInside x = new TypesInside();
        due("0 of 0", x.thousandths(0), 1000);
        x.group(11, 3);
        due("1 of 11", x.thousandths(1), 666);
        due("0 of 11", x.thousandths(0), 166);
        due("5 of 11", x.thousandths(5), 0);
        x.group(1111, 2);
        due("11 of 1111", x.thousandths(11), 522);
        for (int type : NO_TYPES) {
            due("thousandths of " + type, x.thousandths(type), -1);
        }
    }

    private static long bits(double x) {
        return Double.doubleToLongBits(x);
    }

    private static void weight() {
        TypesInside x = new TypesInside();
        due("0", x.weight(0, 2, 0), bits(1.0));
        due("1 at 3", x.weight(1, 3, 0), bits(0.5));
        due("11 at 2 by 2", x.weight(11, 2, 2), bits(0.5 * 0.75 / 6.0));
        double third = 1.0 / 3.0;
        double ninth = third / 3.0;
        due("21 at 3 by 2", x.weight(21, 3, 2), bits((1.0 - third) * (1.0 - ninth) / 108.0));
        double w = 1.0;
        double q = 1.0;
        for (int i = 0; i < 20; i++) {
            q = q / 7.0;
            w = w * (1.0 - q);
        }
        due("11111 at 7 by 20", x.weight(11111, 7, 20), bits(w / (double) x.value(11111, 1, 7)));
        due("k 0", x.weight(1, 2, 0), bits(1.0));
        for (int k : new int[] {-1, 21, Integer.MIN_VALUE, Integer.MAX_VALUE}) {
            due("k " + k, x.weight(1, 2, k), NO);
        }
        for (int prime : NO_PRIMES) {
            due("weight at " + prime, x.weight(1, prime, 1), NO);
        }
        for (int type : NO_TYPES) {
            due("weight of " + type, x.weight(type, 2, 1), NO);
        }
    }

    private static void weights() {
        TypesInside x = new TypesInside();
        due("0", x.weights(0, 5, 0), bits(1.0));
        due("2 at 2", x.weights(2, 2, 0), bits(0.0 + 1.0 / 2.0 + 1.0 / 6.0));
        due("3 at 3", x.weights(3, 3, 1), bits(0.0 + (1.0 - 1.0 / 3.0) / 18.0 + (1.0 - 1.0 / 3.0) / 108.0
                + (1.0 - 1.0 / 3.0) / 11232.0));
        double all = 0.0;
        for (int type : new int[] {5, 41, 32, 311, 221, 2111, 11111}) {
            all += Double.longBitsToDouble(x.weight(type, 7, 20));
        }
        due("5 at 7 by 20", x.weights(5, 7, 20), bits(all));
        for (int no : new int[] {-1, 6, Integer.MIN_VALUE, Integer.MAX_VALUE}) {
            due("size " + no, x.weights(no, 2, 1), NO);
        }
        for (int no : new int[] {-1, 21, Integer.MIN_VALUE, Integer.MAX_VALUE}) {
            due("k " + no, x.weights(1, 2, no), NO);
        }
        for (int prime : NO_PRIMES) {
            due("weights at " + prime, x.weights(1, prime, 1), NO);
        }
    }

    private static void mean() {
        TypesInside x = new TypesInside();
        due("0", x.mean(), Float.floatToIntBits(1f));
        x.group(21, 2);
        due("21", x.mean(), Float.floatToIntBits(27f / 8f));
        x.group(11, 3);
        due("11 at 3", x.mean(), Float.floatToIntBits(22f / 6f));
        x.group(1, 7);
        due("1 at 7", x.mean(), Float.floatToIntBits(4f));
        x.group(11111, 2);
        due("11111", x.mean(), Float.floatToIntBits((1f + 31f * 2f + 155f * 4f + 155f * 8f + 31f * 16f + 32f) / 374f));
    }

    private static void feed() {
        TypesInside x = new TypesInside();
        due("0", x.feed(0), 1);
        due("127", x.feed(127), 2);
        due("128", x.feed(128), -2);
        due("-1", x.feed(-1), -2);
        due("the least", x.feed(Integer.MIN_VALUE), -2);
        due("the most", x.feed(Integer.MAX_VALUE), -2);
        for (int i = 3; i <= 40; i++) {
            due("feed", x.feed('1'), i);
        }
        due("full", x.feed('1'), -4);
        due("no byte, full", x.feed(128), -2);
        due("bytes", x.count(4), 40);
        x.read();
        due("again", x.feed('1'), 1);
    }

    private static void readForms() {
        dueRead("", -1000);
        dueRead("1", 1);
        dueRead("0", 0);
        dueRead("[]", 1);
        dueRead("[1]-[1]", 0);
        dueRead("((1))", 1);
        dueRead("(((1)))", -1002);
        dueRead("((1)+(1))*(2)", 1);
        dueRead("(1", -1002);
        dueRead("1)", -1001);
        dueRead("1+", -1002);
        dueRead("1+*2", -1002);
        dueRead("+1", -1000);
        dueRead("12", -1001);
        dueRead("1 +1", -1001);
        dueRead(" 1", -1000);
        dueRead("[", -1001);
        dueRead("[1", -1002);
        dueRead("[10]", -1002);
        dueRead("[11111]", 1);
        dueRead("[111111]", -1006);
        dueRead("[1][1]", -1003);
        dueRead("[1](1)", -1003);
        dueRead("[1]]", -1003);
        dueRead("[(]", -1001);
        dueRead("a", -1000);
        dueRead("1a", -1001);
        dueRead("1*1*1*1*1*1*1*1*1*1*1*1*1*1*1*1*1*1*1*1*", -1040);
        dueRead("1*1*1*1*1*1*1*1*1*1*1*1*1*1*1*1*1*1*1*1", 1);
    }

    private static void readFaults() {
        dueRead("[12]", -2000);
        dueRead("1+[12]*[6]", -2002);
        dueRead("[1]*[99999]", -2004);
        dueRead("[12]+", -1005);
        dueRead("[5]*[1]+[12]", -2008);
        dueRead("[5]*[1]", -3003);
        dueRead("[5]*[]*[1]", -3006);
        dueRead("[11111]*[1]", -3007);
        dueRead("[1]*[11111]", -3003);
        dueRead("[4]*((1)*[2])", -3003);
        dueRead("[1]*([5]*[1])", -3008);
        dueRead("[1]*([3]*[2])*[1]*[1]", -3003);
        dueRead("[1]+[3]*[2]*[1]", -3011);
        dueRead("([1]+[3])*([1]+[3])", -3009);
        dueRead("0*[5]*[5]", 0);
        dueRead("([5]-[5])*[5]", 0);
        dueRead("[5]*([5]-[5])", 0);
        dueRead("[5]*0*[5]", 0);
        dueRead("([5]*0+[1])*[4]", 2);
    }

    private static void read() {
        readForms();
        readFaults();
        TypesInside x = new TypesInside();
        due("products", read(x, "[1]*[1]-[2]"), 1);
        dueTerm(x, 0, 11, 1, 1);
        due("a ( ) and its sign", read(x, "3-2*([1]-5)"), 2);
        dueTerm(x, 0, 0, 13);
        dueTerm(x, 1, 1, -2);
        due("five figures", read(x, "[11111]+[]"), 2);
        dueTerm(x, 0, 0, 1);
        dueTerm(x, 1, 11111, 1);
        due("all chains", read(x, "[1]*[1]*[1]*[1]*[1]"), 7);
        dueTerm(x, 0, 5, 1);
        due("terms by number", x.term(6, 0), 11111);
        due("degree of chains", x.term(6, 1), 10);
        due("left to right", read(x, "[2]-[1]-[1]*2+9"), 3);
        dueTerm(x, 0, 0, 9);
        dueTerm(x, 1, 1, -3);
        dueTerm(x, 2, 2, 1);
        due("wraps", read(x, "9*9*9*9*9*9*9*9*9*9*9*9*9*9*9*9*9*9*9*9"), 1);
        long nines = 1;
        for (int i = 0; i < 20; i++) {
            nines *= 9;
        }
        dueTerm(x, 0, 0, nines);
    }

    private static void term() {
        TypesInside x = new TypesInside();
        due("none yet", x.term(0, 0), -1);
        read(x, "[2]*[1]+[]");
        due("type 0", x.term(0, 0), 0);
        due("degree 0", x.term(0, 1), 0);
        due("type 1", x.term(1, 0), 3);
        due("type 2", x.term(2, 0), 21);
        due("degree 2", x.term(2, 1), 1);
        for (int no : new int[] {-1, 3, Integer.MIN_VALUE, Integer.MAX_VALUE}) {
            due("term " + no, x.term(no, 0), -1);
        }
        for (int no : new int[] {-1, 2, Integer.MIN_VALUE, Integer.MAX_VALUE}) {
            due("term what " + no, x.term(0, no), -1);
        }
    }

    private static void coefficient() {
        TypesInside x = new TypesInside();
        due("none yet", x.coefficient(0, 0), NO);
        read(x, "[1]*[1]*4-[11]");
        due("2 at 0", x.coefficient(0, 0), 4);
        due("11 at 0", x.coefficient(1, 0), 3);
        due("11 at 1", x.coefficient(1, 1), 4);
        due("11 at 30", x.coefficient(1, 30), 0);
        for (int no : new int[] {-1, 2, Integer.MIN_VALUE, Integer.MAX_VALUE}) {
            due("term " + no, x.coefficient(no, 0), NO);
        }
        for (int no : new int[] {-1, 31, Integer.MIN_VALUE, Integer.MAX_VALUE}) {
            due("coefficient " + no, x.coefficient(0, no), NO);
        }
    }

    private static void shelf() {
        TypesInside x = new TypesInside();
        for (int sort = 0; sort <= 3; sort++) {
            due("a row", x.shelf(sort, sort, 20), 1);
        }
        due("rows", x.count(5), 4);
        due("no places", x.shelf(0, 3, 0), 1);
        due("still rows", x.count(5), 4);
        due("outside", x.get(0, 0), -12);
        for (int n : new int[] {0, -1, 21, Integer.MIN_VALUE, Integer.MAX_VALUE}) {
            due("nothing", x.shelf(0, -1, n), 1);
        }
        due("rows left", x.count(5), 3);
        due("nothing there", x.get(0, 0), -11);
        x.put(3, 19, 21);
        for (int no : new int[] {-1, 4, Integer.MIN_VALUE, Integer.MAX_VALUE}) {
            due("no shelf", x.shelf(no, 3, 1), -1);
            due("no shelf, no sort", x.shelf(no, 9, -1), -1);
        }
        for (int no : new int[] {-2, 4, Integer.MIN_VALUE, Integer.MAX_VALUE}) {
            due("no sort", x.shelf(3, no, 1), -2);
            due("no sort, no size", x.shelf(3, no, -1), -2);
        }
        due("too large", x.shelf(3, 3, 21), -2);
        due("too large", x.shelf(3, 3, Integer.MAX_VALUE), -2);
        due("below 0", x.shelf(3, 3, -1), -14);
        due("below 0", x.shelf(3, 3, Integer.MIN_VALUE), -14);
        due("as it was", x.get(3, 19), 21);
        due("new again", x.shelf(3, 3, 20), 1);
        due("empty", x.get(3, 19), -5);
    }

    private static void put() {
        TypesInside x = new TypesInside();
        due("nothing there", x.put(0, 0, 1), -11);
        for (int sort = 0; sort <= 3; sort++) {
            x.shelf(sort, sort, 2);
            due("0", x.put(sort, 0, 0), sort == 0 || sort == 3 ? 1 : -13);
            due("4", x.put(sort, 0, 4), sort == 0 || sort == 3 ? 1 : -13);
            due("11", x.put(sort, 1, 11), sort == 1 || sort == 3 ? 1 : -13);
            due("21", x.put(sort, 1, 21), sort == 2 || sort == 3 ? 1 : -13);
        }
        due("in its place", x.get(3, 0), 4);
        due("the last", x.get(3, 1), 21);
        due("as it was", x.get(0, 1), -5);
        for (int no : new int[] {-1, 2, 20, Integer.MIN_VALUE, Integer.MAX_VALUE}) {
            due("outside", x.put(3, no, 1), -12);
            due("outside, of another kind", x.put(1, no, 1), -12);
        }
        for (int no : new int[] {-1, 4, Integer.MIN_VALUE, Integer.MAX_VALUE}) {
            due("no shelf", x.put(no, 0, 1), -1);
        }
        x.shelf(0, -1, 0);
        for (int type : NO_TYPES) {
            due("no type", x.put(3, 0, type), -1);
            due("no type, nothing there", x.put(0, 0, type), -1);
            due("no type, outside", x.put(3, 9, type), -1);
        }
    }

    private static void get() {
        TypesInside x = new TypesInside();
        due("nothing there", x.get(2, 0), -11);
        due("nothing there", x.get(2, -1), -11);
        x.shelf(2, 3, 3);
        x.put(2, 1, 0);
        due("empty", x.get(2, 0), -5);
        due("0", x.get(2, 1), 0);
        due("empty", x.get(2, 2), -5);
        for (int no : new int[] {-1, 3, 20, Integer.MIN_VALUE, Integer.MAX_VALUE}) {
            due("outside", x.get(2, no), -12);
        }
        for (int no : new int[] {-1, 4, Integer.MIN_VALUE, Integer.MAX_VALUE}) {
            due("no shelf", x.get(no, 0), -1);
        }
    }

    private static void dueRow(TypesInside x, int shelf, int... types) {
        for (int i = 0; i < types.length; i++) {
            due("shelf " + shelf + " place " + i, x.get(shelf, i), types[i]);
        }
        due("its end", x.get(shelf, types.length), -12);
    }

    private static TypesInside rows() {
        TypesInside x = new TypesInside();
        x.shelf(0, 3, 5);
        x.put(0, 0, 1);
        x.put(0, 1, 2);
        x.put(0, 3, 21);
        x.put(0, 4, 3);
        x.shelf(1, 0, 4);
        x.put(1, 2, 5);
        return x;
    }

    private static void move() {
        TypesInside x = rows();
        due("over", x.move(0, 0, 1, 1, 3), 3);
        dueRow(x, 1, -5, 1, 2, -5);
        dueRow(x, 0, 1, 2, -5, 21, 3);
        x = rows();
        due("to another kind", x.move(0, 1, 1, 0, 4), 2);
        dueRow(x, 1, 2, -5, 5, -5);
        x = rows();
        due("at once another kind", x.move(0, 3, 1, 2, 2), 0);
        dueRow(x, 1, -5, -5, 5, -5);
        x = rows();
        due("on in the same", x.move(0, 0, 0, 1, 4), 4);
        dueRow(x, 0, 1, 1, 2, -5, 21);
        x = rows();
        due("back in the same", x.move(0, 1, 0, 0, 4), 4);
        dueRow(x, 0, 2, -5, 21, 3, 3);
        x.shelf(2, 1, 1);
        x.put(0, 2, 0);
        due("0 is cyclic", x.move(0, 2, 2, 0, 1), 0);
        x.put(0, 2, 21);
        x.shelf(2, -1, 0);
        due("none", x.move(0, 5, 1, 4, 0), 0);
        due("none, beyond", x.move(0, 6, 1, 4, 0), -12);
        due("none, beyond the other", x.move(0, 5, 1, 5, 0), -12);
        moveRefused(x);
        dueRow(x, 0, 2, -5, 21, 3, 3);
    }

    private static void moveRefused(TypesInside x) {
        due("n below 0", x.move(0, 1, 1, 1, -1), -12);
        due("i below 0", x.move(0, -1, 1, 1, 1), -12);
        due("j below 0", x.move(0, 1, 1, -1, 1), -12);
        due("beyond its end", x.move(0, 3, 1, 0, 3), -12);
        due("beyond the other's end", x.move(0, 0, 1, 2, 3), -12);
        due("the most", x.move(0, 1, 1, 1, Integer.MAX_VALUE), -12);
        due("the most", x.move(0, Integer.MAX_VALUE, 1, 1, 1), -12);
        due("the most", x.move(0, 1, 1, Integer.MAX_VALUE, Integer.MAX_VALUE), -12);
        due("nothing there", x.move(2, 0, 0, 0, -1), -11);
        due("nothing in the other", x.move(0, -1, 2, 0, 1), -11);
        for (int no : new int[] {-1, 4, Integer.MIN_VALUE, Integer.MAX_VALUE}) {
            due("no shelf", x.move(no, 0, 2, 0, 1), -1);
            due("no other shelf", x.move(2, 0, no, 0, 1), -1);
        }
    }

    private static void all() {
        TypesInside x = new TypesInside();
        due("nothing there", x.all(0, 1), -11);
        x.shelf(0, 3, 20);
        x.put(0, 19, 5);
        due("in 221", x.all(0, 221), 9);
        dueRow(x, 0, 0, 1, 2, 11, 21, 111, 22, 211, 221, -5, -5, -5, -5, -5, -5, -5, -5, -5, -5, 5);
        x.shelf(0, 0, 20);
        due("cyclic in 221", x.all(0, 221), 3);
        x.shelf(1, 1, 2);
        due("elementary in 11111", x.all(1, 11111), 2);
        dueRow(x, 1, 11, 111);
        x.shelf(2, 2, 3);
        due("mixed in 221", x.all(2, 221), 3);
        dueRow(x, 2, 21, 22, 211);
        due("mixed in 3", x.all(2, 3), 0);
        dueRow(x, 2, 21, 22, 211);
        x.shelf(3, 3, 0);
        due("no room", x.all(3, 5), 0);
        x.shelf(3, 3, 2);
        due("in 0", x.all(3, 0), 1);
        dueRow(x, 3, 0, -5);
        x.shelf(3, -1, 0);
        for (int no : new int[] {-1, 4, Integer.MIN_VALUE, Integer.MAX_VALUE}) {
            due("no shelf", x.all(no, 1), -1);
        }
        for (int type : NO_TYPES) {
            due("no type", x.all(0, type), -1);
            due("no type, nothing there", x.all(3, type), -1);
        }
    }

    private static void image() {
        TypesInside x = new TypesInside();
        due("of 0", x.image(), 1);
        x.group(21, 3);
        due("of 21", x.image(), 27);
        dueGroup(x, 21, 3, 27);
        x.group(1, 2);
        due("the last one", x.back(), 27);
    }

    private static void back() {
        TypesInside x = new TypesInside();
        due("none", x.back(), -3);
        x.group(21, 2);
        read(x, "[1]*[1]");
        x.shelf(0, 3, 3);
        x.put(0, 1, 32);
        x.shelf(1, 1, 2);
        feed(x, "1+");
        x.image();
        x.group(11, 5);
        feed(x, "2");
        x.read();
        feed(x, "7+7");
        x.put(0, 1, 1);
        x.put(0, 2, 1);
        x.shelf(1, -1, 0);
        x.shelf(2, 3, 20);
        for (int i = 0; i < 2; i++) {
            due("back", x.back(), 8);
            dueGroup(x, 21, 2, 8);
            due("sum", x.sum(3, 3), 2);
            due("list", x.list(-1), 8);
            due("terms", x.count(3), 2);
            dueTerm(x, 0, 2, 1);
            dueTerm(x, 1, 11, 1, 1);
            dueRow(x, 0, -5, 32, -5);
            dueRow(x, 1, -5, -5);
            due("its kind", x.put(1, 0, 1), -13);
            due("nothing", x.get(2, 0), -11);
            due("rows", x.count(5), 2);
            x.put(0, 0, 1);
            x.put(1, 1, 111);
            x.group(1, 3);
        }
        due("the tape is not in it", x.count(4), 3);
        due("the tape goes on", x.read(), 1);
        dueTerm(x, 0, 0, 14);
    }

    private static void count() {
        TypesInside x = new TypesInside();
        x.group(2, 5);
        feed(x, "[2]+1");
        x.read();
        feed(x, "[2]");
        x.shelf(3, 0, 0);
        int[] all = {2, 5, 25, 2, 3, 1};
        for (int what = 0; what < all.length; what++) {
            due("count " + what, x.count(what), all[what]);
        }
        for (int no : new int[] {-1, 6, Integer.MIN_VALUE, Integer.MAX_VALUE}) {
            due("count " + no, x.count(no), -1);
        }
    }

    private static void next(Runnable test) {
        promise++;
        test.run();
    }

    public static void main(String[] args) {
        next(PromisesTest::newObject);
        next(PromisesTest::type);
        next(PromisesTest::of);
        next(PromisesTest::in);
        next(PromisesTest::choices);
        next(PromisesTest::subgroups);
        next(PromisesTest::hall);
        next(PromisesTest::whole);
        next(PromisesTest::value);
        next(PromisesTest::group);
        next(PromisesTest::sum);
        next(PromisesTest::times);
        next(PromisesTest::order);
        next(PromisesTest::figure);
        next(PromisesTest::span);
        next(PromisesTest::meet);
        next(PromisesTest::told);
        next(PromisesTest::list);
        next(PromisesTest::listed);
        next(PromisesTest::share);
        next(PromisesTest::thousandths);
        next(PromisesTest::weight);
        next(PromisesTest::weights);
        next(PromisesTest::mean);
        next(PromisesTest::feed);
        next(PromisesTest::read);
        next(PromisesTest::term);
        next(PromisesTest::coefficient);
        next(PromisesTest::shelf);
        next(PromisesTest::put);
        next(PromisesTest::get);
        next(PromisesTest::move);
        next(PromisesTest::all);
        next(PromisesTest::image);
        next(PromisesTest::back);
        next(PromisesTest::count);
        System.out.println(wrong == 0 ? promise + " promises hold" : wrong + " answers are not as due");
        if (wrong != 0) {
            System.exit(1);
        }
    }
}
