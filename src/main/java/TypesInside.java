import java.util.Arrays;

public final class TypesInside {
    public static final int NONE = -1, BAD = -2, STATE = -3, FULL = -4;
    public static final long NO = Long.MIN_VALUE;

    private static final int NOT_SO = -5;
    private static final int NOTHING_THERE = -11, OUTSIDE = -12, OTHER_KIND = -13, BELOW_ZERO = -14;

    private final Counts counts = new Counts();
    private final Group group = new Group();
    private final Sums sums = new Sums();
    private final Mix result = new Mix();
    private final Shelf[] shelves = newShelves();
    private final long[] row = new long[Poly.LENGTH];
    private final int[] carried = new int[Shelf.ROOM];

    private boolean imageTaken;
    private int imageType;
    private int imagePrime;
    private final Mix imageResult = new Mix();
    private final Shelf[] imageShelves = newShelves();

    public TypesInside() {
        imageTaken = false;
        imageType = 0;
        imagePrime = 2;
    }

    private static Shelf[] newShelves() {
        Shelf[] made = new Shelf[Shelf.MANY];
        for (int i = 0; i < made.length; i++) {
            made[i] = new Shelf();
        }
        return made;
    }

    // ---- types

    public int type(int i) {
        return i >= 0 && i < Types.MANY ? Types.number(i) : NONE;
    }

    public int of(int type, int what) {
        int t = Types.find(type);
        if (t < 0) {
            return NONE;
        }
        switch (what) {
            case 0:
                return t;
            case 1:
                return Types.size(t);
            case 2:
                return Types.parts(t);
            case 3:
                return Types.heavy(t);
            case 4:
                return Types.kind(t);
            case 5:
                return Types.inside(t);
            case 6:
                return Types.number(Types.turned(t));
            default:
                return NONE;
        }
    }

    public int in(int m, int l) {
        int small = Types.find(m);
        int large = Types.find(l);
        if (small < 0 || large < 0) {
            return NONE;
        }
        return Types.lies(small, large) ? 1 : 0;
    }

    // ---- polynomials: part -1 DEGREE, part i (0 .. 30) COEFFICIENT i

    public long choices(int a, int b, int part) {
        if (a < 0 || a > Types.TOP || b < 0 || b > Types.TOP || !Poly.isPart(part)) {
            return NO;
        }
        return Poly.partOf(counts.chosen(a, b), part);
    }

    public long subgroups(int l, int m, int part) {
        int large = Types.find(l);
        int small = Types.find(m);
        if (large < 0 || small < 0 || !Poly.isPart(part)) {
            return NO;
        }
        counts.writeSubgroups(row, large, small);
        return Poly.partOf(row, part);
    }

    public long hall(int l, int m, int n, int part) {
        int large = Types.find(l);
        int cotype = Types.find(m);
        int small = Types.find(n);
        if (large < 0 || cotype < 0 || small < 0 || !Poly.isPart(part)) {
            return NO;
        }
        counts.writeHall(row, large, cotype, small);
        return Poly.partOf(row, part);
    }

    public long whole(int type, int what, int part) {
        int t = Types.find(type);
        if (t < 0 || !Counts.isWhole(what) || !Poly.isPart(part)) {
            return NO;
        }
        counts.writeWhole(row, t, what);
        return Poly.partOf(row, part);
    }

    public long value(int type, int what, int prime) {
        int t = Types.find(type);
        if (t < 0 || !Counts.isWhole(what) || !isPrime(prime)) {
            return NO;
        }
        counts.writeWhole(row, t, what);
        return Poly.valueAt(row, prime);
    }

    private static boolean isPrime(int prime) {
        return prime == 2 || prime == 3 || prime == 5 || prime == 7;
    }

    // ---- the group in hand

    public int group(int type, int prime) {
        int t = Types.find(type);
        if (t < 0) {
            return NONE;
        }
        if (!isPrime(prime)) {
            return BAD;
        }
        if (Group.elementsOf(t, prime) > Group.MOST) {
            return FULL;
        }
        group.become(t, prime);
        return group.elements();
    }

    public int sum(int one, int other) {
        return group.has(one) && group.has(other) ? group.added(one, other) : NONE;
    }

    public int times(int element, int k) {
        return group.has(element) ? group.multiplied(element, k) : NONE;
    }

    public int order(int element) {
        return group.has(element) ? group.orderOf(element) : NONE;
    }

    public int figure(int element, int i) {
        if (!group.has(element) || i < 0 || i >= group.partCount()) {
            return NONE;
        }
        return group.figureOf(element, i);
    }

    public long span(long set) {
        return group.hasAll(set) ? group.spanOf(set) : NO;
    }

    public long meet(long one, long other) {
        if (!group.hasAll(one) || !group.hasAll(other)) {
            return NO;
        }
        return group.spanOf(group.spanOf(one) & group.spanOf(other));
    }

    public int told(long set, int what) {
        if (!group.hasAll(set)) {
            return BAD;
        }
        if (what < 0 || what > 2) {
            return NONE;
        }
        if (what == 2) {
            return Long.bitCount(set);
        }
        if (!group.isSubgroup(set)) {
            return NOT_SO;
        }
        return Types.number(what == 0 ? group.typeOf(set) : group.cotypeOf(set));
    }

    public long list(int i) {
        group.learn();
        int many = group.subgroupCount();
        if (i == -1) {
            return many;
        }
        return i >= 0 && i < many ? group.subgroupAt(i) : NO;
    }

    public int listed(int m, int n) {
        int first = Types.find(m);
        int second = Types.find(n);
        if (first < 0 || (second < 0 && n != -1)) {
            return NONE;
        }
        group.learn();
        return n == -1 ? group.countOf(first, -1) : group.countOf(second, first);
    }

    // ---- floats, doubles, by their bits

    public long share(int m) {
        int t = Types.find(m);
        return t < 0 ? NO : Bits.ofFloat(shareOf(t));
    }

    public int thousandths(int m) {
        int t = Types.find(m);
        return t < 0 ? NONE : (int) (shareOf(t) * 1000f);
    }

    private float shareOf(int t) {
        group.learn();
        // THE LIST always has ELEMENT 0 alone, so this divisor is 1 or more.
        float all = (float) group.subgroupCount();
        return all > 0f ? (float) group.countOf(t, -1) / all : 0f;
    }

    public long weight(int type, int prime, int k) {
        int t = Types.find(type);
        if (t < 0 || !isPrime(prime) || k < 0 || k > 20) {
            return NO;
        }
        return Bits.ofDouble(weightOf(t, prime, k));
    }

    public long weights(int size, int prime, int k) {
        if (size < 0 || size > Types.TOP || !isPrime(prime) || k < 0 || k > 20) {
            return NO;
        }
        double all = 0.0;
        for (int t = 0; t < Types.MANY; t++) {
            if (Types.size(t) == size) {
                all = all + weightOf(t, prime, k);
            }
        }
        return Bits.ofDouble(all);
    }

    private double weightOf(int t, int prime, int k) {
        double w = 1.0;
        double q = 1.0;
        for (int i = 0; i < k; i++) {
            q = q / (double) prime;
            w = w * (1.0 - q);
        }
        Counts.writeAutomorphisms(row, t);
        long automorphisms = Poly.valueAt(row, prime);
        return automorphisms != 0L ? w / (double) automorphisms : 0.0;
    }

    public int mean() {
        group.learn();
        float sum = 0f;
        int many = group.subgroupCount();
        for (int i = 0; i < many; i++) {
            sum = sum + (float) Long.bitCount(group.subgroupAt(i));
        }
        return Bits.ofFloat(many > 0 ? sum / (float) many : 0f);
    }

    // ---- sums

    public int feed(int sign) {
        if (sign < 0 || sign > 127) {
            return BAD;
        }
        return sums.takeSign(sign) ? sums.tapeLength() : FULL;
    }

    public int read() {
        int kind = 1;
        int place = sums.wrongSign();
        if (place < 0) {
            kind = 2;
            place = sums.wrongType();
        }
        if (place < 0) {
            kind = 3;
            place = sums.wrongProduct(counts);
        }
        sums.emptyTape();
        if (place >= 0) {
            return -1000 * kind - place;
        }
        result.copyFrom(sums.outcome());
        return result.terms();
    }

    public int term(int i, int what) {
        int t = result.termAt(i);
        if (t < 0 || what < 0 || what > 1) {
            return NONE;
        }
        return what == 0 ? Types.number(t) : Poly.degree(result.rowOf(t));
    }

    public long coefficient(int i, int k) {
        int t = result.termAt(i);
        if (t < 0 || k < 0 || k >= Poly.LENGTH) {
            return NO;
        }
        return Poly.partOf(result.rowOf(t), k);
    }

    // ---- shelves, the image

    private Shelf shelfAt(int shelf) {
        return shelf >= 0 && shelf < shelves.length ? shelves[shelf] : null;
    }

    public int shelf(int shelf, int sort, int n) {
        Shelf at = shelfAt(shelf);
        if (at == null) {
            return NONE;
        }
        if (sort < Shelf.NOTHING || sort > Shelf.ANY) {
            return BAD;
        }
        if (sort == Shelf.NOTHING) {
            at.become(Shelf.NOTHING, 0);
            return 1;
        }
        if (n > Shelf.ROOM) {
            return BAD;
        }
        if (n < 0) {
            return BELOW_ZERO;
        }
        at.become(sort, n);
        return 1;
    }

    public int put(int shelf, int i, int type) {
        Shelf at = shelfAt(shelf);
        int t = Types.find(type);
        if (at == null || t < 0) {
            return NONE;
        }
        if (!at.holds()) {
            return NOTHING_THERE;
        }
        if (!at.hasPlace(i)) {
            return OUTSIDE;
        }
        if (!at.suits(t)) {
            return OTHER_KIND;
        }
        at.write(i, t);
        return 1;
    }

    public int get(int shelf, int i) {
        Shelf at = shelfAt(shelf);
        if (at == null) {
            return NONE;
        }
        if (!at.holds()) {
            return NOTHING_THERE;
        }
        if (!at.hasPlace(i)) {
            return OUTSIDE;
        }
        int t = at.typeAt(i);
        return t < 0 ? NOT_SO : Types.number(t);
    }

    public int move(int shelf, int i, int other, int j, int n) {
        Shelf from = shelfAt(shelf);
        Shelf to = shelfAt(other);
        if (from == null || to == null) {
            return NONE;
        }
        if (!from.holds() || !to.holds()) {
            return NOTHING_THERE;
        }
        if (!from.hasPlaces(i, n) || !to.hasPlaces(j, n)) {
            return OUTSIDE;
        }
        // Both may be one row: what is carried is read before anything is written.
        for (int k = 0; k < n && k < carried.length; k++) {
            carried[k] = from.typeAt(i + k);
        }
        for (int k = 0; k < n && k < carried.length; k++) {
            if (carried[k] >= 0 && !to.suits(carried[k])) {
                return k;
            }
            to.write(j + k, carried[k]);
        }
        return n;
    }

    public int all(int shelf, int type) {
        Shelf at = shelfAt(shelf);
        int t = Types.find(type);
        if (at == null || t < 0) {
            return NONE;
        }
        if (!at.holds()) {
            return NOTHING_THERE;
        }
        int came = 0;
        for (int m = 0; m < Types.MANY; m++) {
            if (at.hasPlace(came) && Types.lies(m, t) && at.suits(m)) {
                at.write(came, m);
                came++;
            }
        }
        return came;
    }

    public int image() {
        imageTaken = true;
        imageType = group.typeHeld();
        imagePrime = group.primeHeld();
        imageResult.copyFrom(result);
        copyShelves(shelves, imageShelves);
        return group.elements();
    }

    public int back() {
        if (!imageTaken) {
            return STATE;
        }
        group.become(imageType, imagePrime);
        result.copyFrom(imageResult);
        copyShelves(imageShelves, shelves);
        return group.elements();
    }

    private static void copyShelves(Shelf[] from, Shelf[] to) {
        for (int i = 0; i < from.length && i < to.length; i++) {
            to[i].copyFrom(from[i]);
        }
    }

    public int count(int what) {
        switch (what) {
            case 0:
                return Types.number(group.typeHeld());
            case 1:
                return group.primeHeld();
            case 2:
                return group.elements();
            case 3:
                return result.terms();
            case 4:
                return sums.tapeLength();
            case 5:
                return shelvesHeld();
            default:
                return NONE;
        }
    }

    private int shelvesHeld() {
        int held = 0;
        for (int i = 0; i < shelves.length; i++) {
            if (shelves[i].holds()) {
                held++;
            }
        }
        return held;
    }

    /** Types by their numbers from 0 on (t); what they are told as is number(t). */
    private static final class Types {
        static final int MANY = 19;
        static final int TOP = 5;
        static final int CYCLIC = 0, ELEMENTARY = 1, MIXED = 2;
        private static final int[] NUMBERS = {
            0,
            1,
            2, 11,
            3, 21, 111,
            4, 31, 22, 211, 1111,
            5, 41, 32, 311, 221, 2111, 11111};

        static int number(int t) {
            return t >= 0 && t < NUMBERS.length ? NUMBERS[t] : -1;
        }

        /** The t of what is told so, or -1. */
        static int find(int number) {
            for (int t = 0; t < NUMBERS.length; t++) {
                if (NUMBERS[t] == number) {
                    return t;
                }
            }
            return -1;
        }

        /** Column i of t, i from 1 on: so many figures of its number are i or more. */
        static int column(int t, int i) {
            int rest = t >= 0 && t < NUMBERS.length ? NUMBERS[t] : 0;
            int many = 0;
            for (int k = 0; k < TOP; k++) {
                if (rest % 10 >= i) {
                    many++;
                }
                rest = rest / 10;
            }
            return many;
        }

        static int parts(int t) {
            return column(t, 1);
        }

        /** The k-th of its parts, from 0 on: so many columns are longer than k. */
        static int partAt(int t, int k) {
            int many = 0;
            for (int i = 1; i <= TOP; i++) {
                if (column(t, i) > k) {
                    many++;
                }
            }
            return many;
        }

        static int size(int t) {
            int rest = t >= 0 && t < NUMBERS.length ? NUMBERS[t] : 0;
            int all = 0;
            for (int k = 0; k < TOP; k++) {
                all += rest % 10;
                rest = rest / 10;
            }
            return all;
        }

        static int heavy(int t) {
            int all = 0;
            for (int i = 1; i <= TOP; i++) {
                int c = column(t, i);
                all += c * (c - 1) / 2;
            }
            return all;
        }

        static int kind(int t) {
            if (parts(t) <= 1) {
                return CYCLIC;
            }
            return column(t, 2) == 0 ? ELEMENTARY : MIXED;
        }

        static boolean lies(int m, int l) {
            for (int i = 1; i <= TOP; i++) {
                if (column(m, i) > column(l, i)) {
                    return false;
                }
            }
            return true;
        }

        static int inside(int t) {
            int many = 0;
            for (int m = 0; m < MANY; m++) {
                if (lies(m, t)) {
                    many++;
                }
            }
            return many;
        }

        /** The type whose parts are the columns of t (and so the other way round). */
        static int turned(int t) {
            int figures = 0;
            for (int i = 1; i <= TOP; i++) {
                int c = column(t, i);
                if (c > 0) {
                    figures = figures * 10 + c;
                }
            }
            return find(figures);
        }
    }

    /** Polynomials as rows of coefficients, the one of p to the 0 first. */
    private static final class Poly {
        static final int LENGTH = 31;
        static final int NO_DEGREE = -5;

        static boolean isPart(int part) {
            return part >= -1 && part < LENGTH;
        }

        /** Part -1 is the degree; a row may be shorter than LENGTH. */
        static long partOf(long[] row, int part) {
            if (part == -1) {
                return degree(row);
            }
            return part >= 0 && part < row.length ? row[part] : 0L;
        }

        static int degree(long[] row) {
            for (int k = row.length - 1; k >= 0; k--) {
                if (row[k] != 0L) {
                    return k;
                }
            }
            return NO_DEGREE;
        }

        static void writeZero(long[] row) {
            for (int k = 0; k < row.length; k++) {
                row[k] = 0L;
            }
        }

        static void writeOne(long[] row) {
            writeZero(row);
            if (row.length > 0) {
                row[0] = 1L;
            }
        }

        static void copy(long[] from, long[] to) {
            for (int k = 0; k < to.length; k++) {
                to[k] = k < from.length ? from[k] : 0L;
            }
        }

        static void add(long[] row, long[] more, long times) {
            for (int k = 0; k < row.length && k < more.length; k++) {
                row[k] += more[k] * times;
            }
        }

        /** Times p to the by. */
        static void raise(long[] row, int by) {
            if (by <= 0) {
                return;
            }
            for (int k = row.length - 1; k >= 0; k--) {
                row[k] = k >= by ? row[k - by] : 0L;
            }
        }

        /** Times 1 less p to the -j; for rows that have nothing below p to the j. */
        static void lessen(long[] row, int j) {
            for (int k = 0; j > 0 && k < row.length - j; k++) {
                row[k] -= row[k + j];
            }
        }

        /** From the top on down, so that what is still read is not yet written; the factor is another row. */
        static void multiply(long[] row, long[] factor) {
            int own = degree(row);
            int other = degree(factor);
            if (own < 0 || other < 0) {
                writeZero(row);
                return;
            }
            for (int k = Math.min(own + other, row.length - 1); k >= 0; k--) {
                long all = 0L;
                for (int j = 0; j <= other && j <= k; j++) {
                    all += factor[j] * row[k - j];
                }
                row[k] = all;
            }
        }

        static long valueAt(long[] row, int prime) {
            long value = 0L;
            for (int k = row.length - 1; k >= 0; k--) {
                value = value * prime + row[k];
            }
            return value;
        }
    }

    /** The polynomials that are counted by types alone. */
    private static final class Counts {
        static final int ALL_SUBGROUPS = 0, AUTOMORPHISMS = 1, CHAINS = 2;
        private static final int SIDE = Types.TOP + 1;
        private static final int TYPE_ONE = 1, TYPE_TWO = 2;

        private final long[][] chosen = chosenTable();
        private final long[][] chains = new long[Types.MANY][Poly.LENGTH];
        private boolean chainsKnown = false;
        private final long[] step = new long[Poly.LENGTH];
        private final long[] nextStep = new long[Poly.LENGTH];

        /** At a times SIDE plus b the choices of b among a; none of them has a degree above 6. */
        private static long[][] chosenTable() {
            long[][] table = new long[SIDE * SIDE][7];
            for (int a = 0; a < SIDE; a++) {
                table[a * SIDE][0] = 1L;
                for (int b = 1; b <= a; b++) {
                    long[] fewer = table[(a - 1) * SIDE + b - 1];
                    long[] same = table[(a - 1) * SIDE + b];
                    long[] row = table[a * SIDE + b];
                    for (int k = 0; k < row.length; k++) {
                        row[k] = fewer[k] + (k >= b ? same[k - b] : 0L);
                    }
                }
            }
            return table;
        }

        long[] chosen(int a, int b) {
            boolean told = a >= 0 && a < SIDE && b >= 0 && b < SIDE;
            // Choices of 1 among 0 are 0, as are those of what can't be chosen at all.
            return chosen[told ? a * SIDE + b : 1];
        }

        void writeSubgroups(long[] row, int l, int m) {
            if (!Types.lies(m, l)) {
                Poly.writeZero(row);
                return;
            }
            Poly.writeOne(row);
            for (int i = 1; i <= Types.TOP; i++) {
                int whole = Types.column(l, i);
                int own = Types.column(m, i);
                int next = Types.column(m, i + 1);
                Poly.raise(row, next * (whole - own));
                Poly.multiply(row, chosen(whole - next, own - next));
            }
        }

        /**
         * The same for m, n and n, m; and as both sizes together are 5 at most, one of both types is 0, 1, 2 or 11:
         * 0, 1 and 11 have a product of their own, and 2 is what 1 times 1 has beside 11 (1 plus p times).
         */
        void writeHall(long[] row, int l, int m, int n) {
            Poly.writeZero(row);
            if (Types.size(m) + Types.size(n) != Types.size(l)) {
                return;
            }
            int large = Types.size(m) >= Types.size(n) ? m : n;
            int small = large == m ? n : m;
            if (small != TYPE_TWO) {
                writeByOnes(row, l, large, Types.parts(small));
                return;
            }
            writeByOnes(step, l, large, 2);
            Poly.add(row, step, -1L);
            Poly.raise(step, 1);
            Poly.add(row, step, -1L);
            for (int j = 0; j < Types.MANY; j++) {
                writeByOnes(step, l, j, 1);
                writeByOnes(nextStep, j, large, 1);
                Poly.multiply(step, nextStep);
                Poly.add(row, step, 1L);
            }
        }

        /** Hall of l, m and the type of r parts that are all 1. */
        private void writeByOnes(long[] row, int l, int m, int r) {
            Poly.writeZero(row);
            if (Types.size(m) + r != Types.size(l)) {
                return;
            }
            Poly.writeOne(row);
            int up = Types.heavy(l) - Types.heavy(m) - r * (r - 1) / 2;
            for (int i = 1; i <= Types.TOP; i++) {
                int room = Types.column(l, i) - Types.column(l, i + 1);
                int more = Types.column(l, i) - Types.column(m, i);
                Poly.multiply(row, chosen(room, more));
                up -= more * (room - more);
            }
            Poly.raise(row, up);
        }

        static boolean isWhole(int what) {
            return what >= ALL_SUBGROUPS && what <= CHAINS;
        }

        void writeWhole(long[] row, int t, int what) {
            if (what == ALL_SUBGROUPS) {
                writeAllSubgroups(row, t);
            } else if (what == AUTOMORPHISMS) {
                writeAutomorphisms(row, t);
            } else {
                writeChains(row, t);
            }
        }

        private void writeAllSubgroups(long[] row, int t) {
            Poly.writeZero(row);
            for (int m = 0; m < Types.MANY; m++) {
                writeSubgroups(step, t, m);
                Poly.add(row, step, 1L);
            }
        }

        static void writeAutomorphisms(long[] row, int t) {
            Poly.writeOne(row);
            for (int i = 1; i <= Types.TOP; i++) {
                int c = Types.column(t, i);
                int behind = Types.column(t, i + 1);
                Poly.raise(row, c * c);
                for (int j = 1; j <= c - behind; j++) {
                    Poly.lessen(row, j);
                }
            }
        }

        private void writeChains(long[] row, int t) {
            if (!chainsKnown) {
                learnChains();
                chainsKnown = true;
            }
            if (t >= 0 && t < chains.length) {
                Poly.copy(chains[t], row);
            }
        }

        /** A chain of t is one of a subgroup one step smaller, and t behind it. */
        private void learnChains() {
            Poly.writeOne(chains[0]);
            for (int t = TYPE_ONE; t < Types.MANY; t++) {
                Poly.writeZero(chains[t]);
                for (int m = 0; m < t; m++) {
                    if (Types.size(m) + 1 == Types.size(t)) {
                        writeSubgroups(step, t, m);
                        Poly.multiply(step, chains[m]);
                        Poly.add(chains[t], step, 1L);
                    }
                }
            }
        }
    }

    /** The group in hand; sets of elements are bits of a long. */
    private static final class Group {
        static final int MOST = 32;
        // The most are 374: those of type 11111 for the prime 2.
        private static final int LIST_ROOM = 400;

        private int held = 0;
        private int prime = 2;
        private int many = 1;
        private int parts = 0;
        private final int[] rounds = new int[Types.TOP];
        private final int[] units = new int[Types.TOP];
        private final int[] sums = new int[MOST * MOST];
        private final int[] raised = new int[MOST];
        private boolean listKnown = false;
        private int listLength = 0;
        private final long[] list = new long[LIST_ROOM];
        private final int[] types = new int[LIST_ROOM];
        private final int[] cotypes = new int[LIST_ROOM];

        int typeHeld() {
            return held;
        }

        int primeHeld() {
            return prime;
        }

        int elements() {
            return many;
        }

        int partCount() {
            return parts;
        }

        /** How many elements the group of a type has for a prime that is 7 at most. */
        static int elementsOf(int t, int prime) {
            int many = 1;
            int size = Types.size(t);
            for (int i = 0; i < size; i++) {
                many = many * prime;
            }
            return many;
        }

        /** The caller has seen to it that there are MOST elements or fewer. */
        void become(int t, int newPrime) {
            if (t == held && newPrime == prime) {
                return;
            }
            held = t;
            prime = newPrime;
            many = elementsOf(t, newPrime);
            parts = Types.parts(t);
            learnFigures();
            learnSums();
            for (int a = 0; a < many && a < raised.length; a++) {
                raised[a] = multiplied(a, prime);
            }
            listKnown = false;
        }

        private void learnFigures() {
            int unit = 1;
            for (int i = 0; i < parts && i < units.length; i++) {
                int round = 1;
                int part = Types.partAt(held, i);
                for (int k = 0; k < part; k++) {
                    round = round * prime;
                }
                units[i] = unit;
                rounds[i] = round;
                unit = unit * round;
            }
        }

        /** Each column of the table from an earlier one, as one step at a figure is cheaper than a sum of all. */
        private void learnSums() {
            for (int a = 0; a < many && a < MOST; a++) {
                sums[a * MOST] = a;
            }
            for (int b = 1; b < many && b < MOST; b++) {
                int i = topFigure(b);
                int less = Math.max(0, b - units[i]);
                for (int a = 0; a < many && a < MOST; a++) {
                    sums[a * MOST + b] = stepped(sums[a * MOST + less], i);
                }
            }
        }

        /** The last figure of an element that isn't 0. */
        private int topFigure(int element) {
            int top = 0;
            for (int i = 0; i < parts && i < units.length; i++) {
                if (units[i] <= element) {
                    top = i;
                }
            }
            return top;
        }

        /** The element whose figure i is one more, going round. */
        private int stepped(int element, int i) {
            if (i < 0 || i >= units.length) {
                return element;
            }
            boolean last = figureOf(element, i) == rounds[i] - 1;
            return last ? element - units[i] * (rounds[i] - 1) : element + units[i];
        }

        int figureOf(int element, int i) {
            if (i < 0 || i >= units.length || units[i] < 1 || rounds[i] < 1) {
                return 0;
            }
            return element / units[i] % rounds[i];
        }

        boolean has(int element) {
            return element >= 0 && element < many;
        }

        private long everything() {
            return (1L << many) - 1L;
        }

        boolean hasAll(long set) {
            return (set & ~everything()) == 0L;
        }

        private static boolean hasBit(long set, int element) {
            return ((set >>> element) & 1L) != 0L;
        }

        int multiplied(int element, int k) {
            int all = 0;
            for (int i = 0; i < parts && i < units.length; i++) {
                long round = rounds[i];
                if (round > 0L) {
                    all += (int) Math.floorMod((long) figureOf(element, i) * k, round) * units[i];
                }
            }
            return all;
        }

        int added(int one, int other) {
            boolean told = one >= 0 && one < MOST && other >= 0 && other < MOST;
            return told ? sums[one * MOST + other] : 0;
        }

        int orderOf(int element) {
            int at = element;
            for (int k = 1; k < many; k++) {
                if (at == 0) {
                    return k;
                }
                at = added(at, element);
            }
            return many;
        }

        private long shifted(long set, int by) {
            long all = 0L;
            for (int a = 0; a < many; a++) {
                if (hasBit(set, a)) {
                    all |= 1L << added(a, by);
                }
            }
            return all;
        }

        /** The least subgroup that has a subgroup and an element: cosets, until they come round. */
        private long joined(long subgroup, int element) {
            long all = subgroup;
            long coset = subgroup;
            for (int k = 1; k < many; k++) {
                coset = shifted(coset, element);
                if (coset == subgroup) {
                    return all;
                }
                all |= coset;
            }
            return all;
        }

        long spanOf(long set) {
            long all = 1L;
            for (int a = 1; a < many; a++) {
                if (hasBit(set, a) && !hasBit(all, a)) {
                    all = joined(all, a);
                }
            }
            return all;
        }

        boolean isSubgroup(long set) {
            return spanOf(set) == set;
        }

        int typeOf(long subgroup) {
            return typeBetween(subgroup, 1L);
        }

        int cotypeOf(long subgroup) {
            return typeBetween(everything(), subgroup);
        }

        /** The type of a subgroup's cosets by a smaller one: each column by how many more the next power kills. */
        private int typeBetween(long large, long small) {
            int figures = 0;
            long killed = small;
            int before = Long.bitCount(small);
            for (int i = 1; i <= Types.TOP && (large & ~killed) != 0L; i++) {
                killed = broughtInto(killed);
                int now = Long.bitCount(large & killed);
                figures = figures * 10 + exponent(before > 0 ? now / before : 1);
                before = now;
            }
            return Types.turned(Types.find(figures));
        }

        /** All elements that come into the set, taken PRIME times. */
        private long broughtInto(long set) {
            long all = 0L;
            for (int a = 0; a < many && a < raised.length; a++) {
                if (hasBit(set, raised[a])) {
                    all |= 1L << a;
                }
            }
            return all;
        }

        private int exponent(int power) {
            int rest = power;
            int times = 0;
            for (int i = 0; i < Types.TOP && rest > 1 && prime > 1; i++) {
                rest = rest / prime;
                times++;
            }
            return times;
        }

        /** To be called ahead of the three questions below: the list is made when it is first wanted. */
        void learn() {
            if (!listKnown) {
                listKnown = true;
                learnList();
                learnTypes();
            }
        }

        int subgroupCount() {
            return listLength;
        }

        long subgroupAt(int i) {
            return i >= 0 && i < listLength && i < list.length ? list[i] : 0L;
        }

        /** How many subgroups are of a type, and of a cotype (-1: of any). */
        int countOf(int t, int cotype) {
            int all = 0;
            for (int i = 0; i < listLength && i < types.length; i++) {
                if (types[i] == t && (cotype == -1 || cotypes[i] == cotype)) {
                    all++;
                }
            }
            return all;
        }

        /** Level by level, as each subgroup but the least has one that is PRIME times smaller. */
        private void learnList() {
            list[0] = 1L;
            listLength = 1;
            int from = 0;
            int levels = Types.size(held);
            for (int level = 0; level < levels; level++) {
                int to = listLength;
                for (int i = from; i < to && i < list.length; i++) {
                    listAbove(list[i], to);
                }
                from = to;
            }
        }

        /** Those PRIME times larger; all elements of one that are new in it lead to that one alone. */
        private void listAbove(long subgroup, int from) {
            long left = everything() & ~subgroup;
            for (int a = 1; a < many && a < raised.length; a++) {
                if (hasBit(left, a) && hasBit(subgroup, raised[a])) {
                    long larger = joined(subgroup, a);
                    left &= ~larger;
                    insert(larger, from);
                }
            }
        }

        /** Into the list's last level, which begins at a place and is sorted, if it isn't there. */
        private void insert(long subgroup, int from) {
            int low = from;
            int high = listLength;
            for (int i = 0; i < MOST && low < high; i++) {
                int middle = (low + high) / 2;
                if (subgroupAt(middle) < subgroup) {
                    low = middle + 1;
                } else {
                    high = middle;
                }
            }
            boolean there = low < listLength && subgroupAt(low) == subgroup;
            if (there || low < 0 || listLength >= list.length) {
                return;
            }
            for (int i = listLength; i > low; i--) {
                list[i] = list[i - 1];
            }
            list[low] = subgroup;
            listLength++;
        }

        private void learnTypes() {
            for (int i = 0; i < listLength && i < list.length; i++) {
                types[i] = typeBetween(list[i], 1L);
                cotypes[i] = typeBetween(everything(), list[i]);
            }
        }
    }

    /** Bits of floats and doubles by arithmetic alone, as the library's own functions are out of bounds. */
    private static final class Bits {
        // No number that is asked for is so small or so great as to need more halvings.
        private static final int STEPS = 1022;
        private static final long SIGN = 1L << 63;

        /** Of a float that is 0 or more, as shares and means are. */
        static int ofFloat(float x) {
            if (x <= 0f) {
                return 0;
            }
            double size = (double) x;
            int exponent = exponentOf(size);
            double fraction = scaled(size, exponent) - 1.0;
            return ((exponent + 127) << 23) | (int) (fraction * 8388608.0);
        }

        static long ofDouble(double x) {
            if (x == 0.0) {
                return 0L;
            }
            double size = x < 0.0 ? -x : x;
            int exponent = exponentOf(size);
            double fraction = scaled(size, exponent) - 1.0;
            long bits = ((long) (exponent + 1023) << 52) | (long) (fraction * 4503599627370496.0);
            return x < 0.0 ? bits | SIGN : bits;
        }

        private static int exponentOf(double size) {
            double rest = size;
            int exponent = 0;
            for (int i = 0; i < STEPS && rest >= 2.0; i++) {
                rest = rest / 2.0;
                exponent++;
            }
            for (int i = 0; i < STEPS && rest < 1.0; i++) {
                rest = rest * 2.0;
                exponent--;
            }
            return exponent;
        }

        private static double scaled(double size, int exponent) {
            double rest = size;
            for (int i = 0; i < exponent; i++) {
                rest = rest / 2.0;
            }
            for (int i = 0; i > exponent; i--) {
                rest = rest * 2.0;
            }
            return rest;
        }
    }

    /** For each type a polynomial; its terms are those that aren't 0. */
    private static final class Mix {
        private final long[][] rows = new long[Types.MANY][Poly.LENGTH];

        long[] rowOf(int t) {
            return rows[t >= 0 && t < rows.length ? t : 0];
        }

        void writeZero() {
            for (int t = 0; t < rows.length; t++) {
                Poly.writeZero(rows[t]);
            }
        }

        void writeSingle(int t, long times) {
            writeZero();
            rowOf(t)[0] = times;
        }

        void copyFrom(Mix other) {
            for (int t = 0; t < rows.length; t++) {
                Poly.copy(other.rowOf(t), rows[t]);
            }
        }

        void add(Mix other, long times) {
            for (int t = 0; t < rows.length; t++) {
                Poly.add(rows[t], other.rowOf(t), times);
            }
        }

        /** The greatest size of a term; far below 0 if there is none, as nothing is too great with it. */
        int greatest() {
            for (int t = rows.length - 1; t >= 0; t--) {
                if (hasTerm(t)) {
                    return Types.size(t);
                }
            }
            return -Types.TOP;
        }

        boolean hasTerm(int t) {
            return Poly.degree(rowOf(t)) >= 0;
        }

        int terms() {
            int many = 0;
            for (int t = 0; t < rows.length; t++) {
                if (hasTerm(t)) {
                    many++;
                }
            }
            return many;
        }

        /** The type of the i-th term, or -1. */
        int termAt(int i) {
            int ahead = 0;
            for (int t = 0; t < rows.length; t++) {
                if (hasTerm(t)) {
                    if (ahead == i) {
                        return t;
                    }
                    ahead++;
                }
            }
            return -1;
        }
    }

    /** The tape, and how a sum on it is worked out. */
    private static final class Sums {
        private static final int ROOM = 40;
        private static final int OPEN_MOST = 2;
        private static final int FIGURES_MOST = 5;
        private static final int ONE_WANTED = 0, IN_BRACKETS = 1, ONE_ENDED = 2;

        private final int[] tape = new int[ROOM];
        private int length = 0;
        private final Mix[] totals = newMixes();
        private final Mix[] products = newMixes();
        private final boolean[] minus = new boolean[OPEN_MOST + 1];
        private final int[] stars = new int[OPEN_MOST + 1];
        private final Mix one = new Mix();
        private final Mix spare = new Mix();
        private final long[] hallRow = new long[Poly.LENGTH];

        /** One for each ( that may be open, and one for none. */
        private static Mix[] newMixes() {
            Mix[] made = new Mix[OPEN_MOST + 1];
            for (int i = 0; i < made.length; i++) {
                made[i] = new Mix();
            }
            return made;
        }

        int tapeLength() {
            return length;
        }

        boolean takeSign(int sign) {
            if (length < 0 || length >= tape.length) {
                return false;
            }
            tape[length] = sign;
            length++;
            return true;
        }

        void emptyTape() {
            length = 0;
        }

        Mix outcome() {
            return totals[0];
        }

        private int signAt(int place) {
            return place >= 0 && place < length && place < tape.length ? tape[place] : -1;
        }

        private static boolean isFigure(int sign) {
            return sign >= '0' && sign <= '9';
        }

        /** The first place with which no sum can go on, or -1. */
        int wrongSign() {
            int state = ONE_WANTED;
            int open = 0;
            int figures = 0;
            for (int place = 0; place < length; place++) {
                int sign = signAt(place);
                int next = stateBehind(state, sign, open, figures);
                if (next < 0) {
                    return place;
                }
                figures = next == IN_BRACKETS && state == IN_BRACKETS ? figures + 1 : 0;
                if (sign == '(') {
                    open++;
                } else if (sign == ')') {
                    open--;
                }
                state = next;
            }
            return state == ONE_ENDED && open == 0 ? -1 : length;
        }

        /** -1 if no sum can go on with the sign. */
        private static int stateBehind(int state, int sign, int open, int figures) {
            if (state == ONE_WANTED) {
                if (sign == '(' && open < OPEN_MOST) {
                    return ONE_WANTED;
                }
                if (sign == '[') {
                    return IN_BRACKETS;
                }
                return isFigure(sign) ? ONE_ENDED : -1;
            }
            if (state == IN_BRACKETS) {
                if (sign == ']') {
                    return ONE_ENDED;
                }
                return isFigure(sign) && sign != '0' && figures < FIGURES_MOST ? IN_BRACKETS : -1;
            }
            if (sign == ')' && open > 0) {
                return ONE_ENDED;
            }
            return sign == '+' || sign == '-' || sign == '*' ? ONE_WANTED : -1;
        }

        /** The first [ whose figures are no type, or -1. */
        int wrongType() {
            for (int place = 0; place < length; place++) {
                if (signAt(place) == '[' && typeBehind(place) < 0) {
                    return place;
                }
            }
            return -1;
        }

        /** The type whose figures stand behind a [, or -1. */
        private int typeBehind(int place) {
            int number = 0;
            for (int k = 1; k <= FIGURES_MOST && isFigure(signAt(place + k)); k++) {
                number = number * 10 + signAt(place + k) - '0';
            }
            return Types.find(number);
        }

        /**
         * Works all out, each open ( on a level of its own, into the total of level 0; answers the place of the first
         * star by which a size would be too great, or -1. The tape's form is known to be right.
         */
        int wrongProduct(Counts counts) {
            int level = 0;
            startLevel(0);
            for (int place = 0; place < length; place++) {
                int sign = signAt(place);
                if (sign == '(') {
                    level = Math.min(level + 1, OPEN_MOST);
                    startLevel(level);
                } else if (sign == '+' || sign == '-') {
                    endProduct(level);
                    minus[level] = sign == '-';
                } else if (sign == '*') {
                    stars[level] = place;
                } else if (endsOne(place)) {
                    level = writeOne(place, level);
                    if (isTooGreat(level)) {
                        return stars[level];
                    }
                    takeOne(level, counts);
                }
            }
            endProduct(0);
            return -1;
        }

        private void startLevel(int level) {
            totals[level].writeZero();
            minus[level] = false;
            stars[level] = -1;
        }

        private void endProduct(int level) {
            totals[level].add(products[level], minus[level] ? -1L : 1L);
            stars[level] = -1;
        }

        /** A ), or a [ (what stands in it is read at once), or a figure that stands in no [ ]. */
        private boolean endsOne(int place) {
            int sign = signAt(place);
            return sign == ')' || sign == '[' || (isFigure(sign) && !inBrackets(place));
        }

        private boolean inBrackets(int place) {
            int before = place - 1;
            for (int i = 0; i < FIGURES_MOST && isFigure(signAt(before)); i++) {
                before--;
            }
            return signAt(before) == '[';
        }

        /** The one that ends at a place; answers the level on which it stands. */
        private int writeOne(int place, int level) {
            int sign = signAt(place);
            if (sign == ')') {
                endProduct(level);
                one.copyFrom(totals[level]);
                return Math.max(level - 1, 0);
            }
            if (sign == '[') {
                one.writeSingle(typeBehind(place), 1L);
            } else {
                one.writeSingle(0, sign - '0');
            }
            return level;
        }

        private boolean isTooGreat(int level) {
            return stars[level] >= 0 && products[level].greatest() + one.greatest() > Types.TOP;
        }

        /** The one that has ended starts a level's product, or multiplies it. */
        private void takeOne(int level, Counts counts) {
            Mix product = products[level];
            if (stars[level] < 0) {
                product.copyFrom(one);
                return;
            }
            spare.writeZero();
            for (int m = 0; m < Types.MANY; m++) {
                for (int n = 0; product.hasTerm(m) && n < Types.MANY; n++) {
                    if (one.hasTerm(n)) {
                        addProduct(product, m, n, counts);
                    }
                }
            }
            product.copyFrom(spare);
        }

        private void addProduct(Mix product, int m, int n, Counts counts) {
            int size = Types.size(m) + Types.size(n);
            for (int l = 0; l < Types.MANY; l++) {
                if (Types.size(l) == size) {
                    counts.writeHall(hallRow, l, m, n);
                    Poly.multiply(hallRow, product.rowOf(m));
                    Poly.multiply(hallRow, one.rowOf(n));
                    Poly.add(spare.rowOf(l), hallRow, 1L);
                }
            }
        }
    }

    /** A shelf's row: places with a type each, or -1 for none. */
    private static final class Shelf {
        static final int MANY = 4;
        static final int ROOM = 20;
        static final int NOTHING = -1, ANY = 3;

        private int sort = NOTHING;
        private int size = 0;
        private final int[] places = new int[ROOM];

        void become(int newSort, int newSize) {
            sort = newSort;
            size = Math.max(0, Math.min(newSize, ROOM));
            Arrays.fill(places, -1);
        }

        void copyFrom(Shelf other) {
            sort = other.sort;
            size = other.size;
            System.arraycopy(other.places, 0, places, 0, ROOM);
        }

        boolean holds() {
            return sort != NOTHING;
        }

        boolean hasPlace(int i) {
            return i >= 0 && i < size;
        }

        /** Whether n places from i on are there; longs, as i and n may be great. */
        boolean hasPlaces(int i, int n) {
            return i >= 0 && n >= 0 && (long) i + n <= size;
        }

        boolean suits(int t) {
            return sort == ANY || sort == Types.kind(t);
        }

        int typeAt(int i) {
            return i >= 0 && i < places.length ? places[i] : -1;
        }

        void write(int i, int t) {
            if (i >= 0 && i < places.length) {
                places[i] = t;
            }
        }
    }
}
