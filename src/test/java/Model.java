import java.util.ArrayList;
import java.util.Arrays;
import java.util.BitSet;
import java.util.Collections;
import java.util.HashMap;
import java.util.List;
import java.util.Map;
import java.util.TreeMap;

/** The document once more, written for the tests in other ways than the program: slow, and with all of the library. */
final class Model {
    static final List<List<Integer>> TYPES = types();
    private static final Map<String, Polynomial> HALLS = new HashMap<>();
    private static final Map<String, Kept> GROUPS = new HashMap<>();

    private List<Integer> held = List.of();
    private int prime = 2;
    private TreeMap<Integer, Polynomial> result = new TreeMap<>();
    private String tape = "";
    private Row[] shelves = new Row[4];
    private Model imageOf = null;

    /** A group with the list of all that lie in it, kept for all runs. */
    private static final class Kept {
        BruteGroup group;
        List<Long> list = new ArrayList<>();
        List<Integer> types = new ArrayList<>();
        List<Integer> cotypes = new ArrayList<>();
    }

    private static final class Row {
        int sort;
        List<Integer> places = new ArrayList<>();

        Row copy() {
            Row made = new Row();
            made.sort = sort;
            made.places = new ArrayList<>(places);
            return made;
        }
    }

    // ---- types

    private static List<List<Integer>> types() {
        List<List<Integer>> made = new ArrayList<>();
        for (int size = 0; size <= 5; size++) {
            split(size, size, new ArrayList<>(), made);
        }
        return made;
    }

    private static void split(int rest, int most, List<Integer> ahead, List<List<Integer>> made) {
        if (rest == 0) {
            made.add(new ArrayList<>(ahead));
        }
        for (int part = Math.min(rest, most); part >= 1; part--) {
            ahead.add(part);
            split(rest - part, part, ahead, made);
            ahead.remove(ahead.size() - 1);
        }
    }

    static int number(List<Integer> parts) {
        StringBuilder made = new StringBuilder("0");
        parts.forEach(made::append);
        return Integer.parseInt(made.toString());
    }

    static int find(int number) {
        for (int t = 0; t < TYPES.size(); t++) {
            if (number(TYPES.get(t)) == number) {
                return t;
            }
        }
        return -1;
    }

    static int size(List<Integer> parts) {
        return parts.stream().mapToInt(q -> q).sum();
    }

    static List<Integer> columns(List<Integer> parts) {
        List<Integer> made = new ArrayList<>();
        for (int i = 1; i <= 6; i++) {
            int at = i;
            made.add((int) parts.stream().filter(q -> q >= at).count());
        }
        return made;
    }

    static boolean lies(List<Integer> m, List<Integer> l) {
        for (int k = 0; k < m.size(); k++) {
            if (k >= l.size() || m.get(k) > l.get(k)) {
                return false;
            }
        }
        return true;
    }

    static int kind(List<Integer> parts) {
        if (parts.size() < 2) {
            return 0;
        }
        return Collections.max(parts) == 1 ? 1 : 2;
    }

    static int heavy(List<Integer> parts) {
        int all = 0;
        for (int k = 0; k < parts.size(); k++) {
            all += k * parts.get(k);
        }
        return all;
    }

    int type(int i) {
        return i >= 0 && i < TYPES.size() ? number(TYPES.get(i)) : -1;
    }

    int of(int type, int what) {
        int t = find(type);
        if (t < 0 || what < 0 || what > 6) {
            return -1;
        }
        List<Integer> parts = TYPES.get(t);
        List<Integer> turned = new ArrayList<>(columns(parts));
        turned.removeIf(c -> c == 0);
        int inside = (int) TYPES.stream().filter(m -> lies(m, parts)).count();
        return new int[] {t, size(parts), parts.size(), heavy(parts), kind(parts), inside, number(turned)}[what];
    }

    int in(int m, int l) {
        if (find(m) < 0 || find(l) < 0) {
            return -1;
        }
        return lies(TYPES.get(find(m)), TYPES.get(find(l))) ? 1 : 0;
    }

    // ---- polynomials

    /** By rows of figures 0 and 1, b of them 1: p to the times that a 1 stands ahead of a 0. */
    static Polynomial choices(int a, int b) {
        Polynomial all = new Polynomial();
        for (int bits = 0; bits < 1 << a; bits++) {
            if (Integer.bitCount(bits) == b) {
                int turns = 0;
                for (int i = 0; i < a; i++) {
                    for (int j = i + 1; j < a; j++) {
                        turns += (bits >> i & 1) == 1 && (bits >> j & 1) == 0 ? 1 : 0;
                    }
                }
                all = all.plus(Polynomial.power(turns, 1), 1);
            }
        }
        return all;
    }

    static Polynomial subgroups(List<Integer> l, List<Integer> m) {
        Polynomial all = Polynomial.one();
        if (!lies(m, l)) {
            return new Polynomial();
        }
        List<Integer> large = columns(l);
        List<Integer> small = columns(m);
        for (int i = 0; i < 5; i++) {
            int next = small.get(i + 1);
            all = all.times(Polynomial.power(next * (large.get(i) - small.get(i)), 1));
            all = all.times(choices(large.get(i) - next, small.get(i) - next));
        }
        return all;
    }

    /** Macdonald's product by a type of r parts 1, in the inverse of p first. */
    private static Polynomial byOnes(List<Integer> l, List<Integer> m, int r) {
        if (!lies(m, l) || size(l) != size(m) + r) {
            return new Polynomial();
        }
        List<Integer> large = columns(l);
        List<Integer> small = columns(m);
        Polynomial inverse = Polynomial.one();
        for (int i = 0; i < 5; i++) {
            inverse = inverse.times(choices(large.get(i) - large.get(i + 1), large.get(i) - small.get(i)));
        }
        int top = heavy(l) - heavy(m) - r * (r - 1) / 2;
        Polynomial made = new Polynomial();
        for (Map.Entry<Integer, Long> e : inverse.coefficients.entrySet()) {
            made = made.plus(Polynomial.power(top - e.getKey(), e.getValue()), 1);
        }
        return made;
    }

    /**
     * For any n, whatever its size: n without its last column, times the type of that column (parts 1), is n and
     * types behind it; so m times n is what that makes, less what those make.
     */
    static Polynomial hall(List<Integer> l, List<Integer> m, List<Integer> n) {
        String key = l + " " + m + " " + n;
        if (!HALLS.containsKey(key)) {
            HALLS.put(key, slowHall(l, m, n));
        }
        return HALLS.get(key);
    }

    private static Polynomial slowHall(List<Integer> l, List<Integer> m, List<Integer> n) {
        if (size(l) != size(m) + size(n)) {
            return new Polynomial();
        }
        if (n.isEmpty()) {
            return l.equals(m) ? Polynomial.one() : new Polynomial();
        }
        int longest = n.get(0);
        List<Integer> less = new ArrayList<>();
        int last = 0;
        for (int q : n) {
            last += q == longest ? 1 : 0;
            int shorter = Math.min(q, longest - 1);
            if (shorter > 0) {
                less.add(shorter);
            }
        }
        Polynomial all = new Polynomial();
        for (List<Integer> j : TYPES) {
            all = all.plus(hall(j, m, less).times(byOnes(l, j, last)), 1);
        }
        for (List<Integer> k : TYPES) {
            if (!k.equals(n) && size(k) == size(n)) {
                Polynomial beside = byOnes(k, less, last);
                if (!beside.isZero()) {
                    all = all.plus(beside.times(hall(l, m, k)), -1);
                }
            }
        }
        return all;
    }

    static Polynomial whole(List<Integer> l, int what) {
        Polynomial all = new Polynomial();
        if (what == 0) {
            for (List<Integer> m : TYPES) {
                all = all.plus(subgroups(l, m), 1);
            }
            return all;
        }
        return what == 1 ? automorphisms(l) : chains(l);
    }

    /** As told, with p to the c times c taken step by step: each factor 1 less p to the -j as (p to the j less 1). */
    private static Polynomial automorphisms(List<Integer> l) {
        Polynomial all = Polynomial.one();
        List<Integer> columns = columns(l);
        for (int i = 0; i < 5; i++) {
            int c = columns.get(i);
            int rest = c * c;
            for (int j = 1; j <= c - columns.get(i + 1); j++) {
                all = all.times(Polynomial.power(j, 1).plus(Polynomial.one(), -1));
                rest -= j;
            }
            all = all.times(Polynomial.power(rest, 1));
        }
        return all;
    }

    private static Polynomial chains(List<Integer> l) {
        if (l.isEmpty()) {
            return Polynomial.one();
        }
        Polynomial all = new Polynomial();
        for (List<Integer> m : TYPES) {
            all = all.plus(hall(l, m, List.of(1)).times(size(m) + 1 == size(l) ? chains(m) : new Polynomial()), 1);
        }
        return all;
    }

    private static long no() {
        return Long.MIN_VALUE;
    }

    private static boolean part(int part) {
        return part >= -1 && part <= 30;
    }

    long choices(int a, int b, int part) {
        boolean good = a >= 0 && a <= 5 && b >= 0 && b <= 5 && part(part);
        return good ? choices(a, b).part(part) : no();
    }

    long subgroups(int l, int m, int part) {
        boolean good = find(l) >= 0 && find(m) >= 0 && part(part);
        return good ? subgroups(TYPES.get(find(l)), TYPES.get(find(m))).part(part) : no();
    }

    long hall(int l, int m, int n, int part) {
        boolean good = find(l) >= 0 && find(m) >= 0 && find(n) >= 0 && part(part);
        return good ? hall(TYPES.get(find(l)), TYPES.get(find(m)), TYPES.get(find(n))).part(part) : no();
    }

    long whole(int type, int what, int part) {
        boolean good = find(type) >= 0 && what >= 0 && what <= 2 && part(part);
        return good ? whole(TYPES.get(find(type)), what).part(part) : no();
    }

    private static boolean prime(int p) {
        return List.of(2, 3, 5, 7).contains(p);
    }

    long value(int type, int what, int p) {
        boolean good = find(type) >= 0 && what >= 0 && what <= 2 && prime(p);
        return good ? whole(TYPES.get(find(type)), what).at(p) : no();
    }

    // ---- the group in hand

    private Kept kept() {
        return GROUPS.computeIfAbsent(number(held) + " " + prime, key -> keep(held, prime));
    }

    private static Kept keep(List<Integer> parts, int prime) {
        Kept made = new Kept();
        made.group = new BruteGroup(parts, prime);
        for (BitSet set : made.group.subgroups()) {
            made.list.add(bits(set));
        }
        made.list.sort((a, b) -> Long.bitCount(a) != Long.bitCount(b)
                ? Integer.compare(Long.bitCount(a), Long.bitCount(b)) : Long.compare(a, b));
        for (long set : made.list) {
            made.types.add(number(made.group.partsBetween(set(set), made.group.zero())));
            made.cotypes.add(number(made.group.partsBetween(made.group.everything(), set(set))));
        }
        return made;
    }

    private static long bits(BitSet set) {
        return set.isEmpty() ? 0 : set.toLongArray()[0];
    }

    private static BitSet set(long bits) {
        return BitSet.valueOf(new long[] {bits});
    }

    private int many() {
        return kept().group.many;
    }

    private boolean has(int element) {
        return element >= 0 && element < many();
    }

    private boolean hasAll(long set) {
        return set(set).length() <= many();
    }

    int group(int type, int p) {
        if (find(type) < 0) {
            return -1;
        }
        if (!prime(p)) {
            return -2;
        }
        if (Math.pow(p, size(TYPES.get(find(type)))) > 32) {
            return -4;
        }
        held = TYPES.get(find(type));
        prime = p;
        return many();
    }

    int sum(int one, int other) {
        return has(one) && has(other) ? kept().group.sum(one, other) : -1;
    }

    int times(int element, int k) {
        if (!has(element)) {
            return -1;
        }
        int at = 0;
        for (long i = Math.floorMod(k, kept().group.order(element)); i > 0; i--) {
            at = kept().group.sum(at, element);
        }
        return at;
    }

    int order(int element) {
        return has(element) ? kept().group.order(element) : -1;
    }

    int figure(int element, int i) {
        return has(element) && i >= 0 && i < held.size() ? kept().group.figures(element)[i] : -1;
    }

    private long spanOf(long set) {
        return bits(kept().group.span(set(set)));
    }

    long span(long set) {
        return hasAll(set) ? spanOf(set) : no();
    }

    long meet(long one, long other) {
        return hasAll(one) && hasAll(other) ? spanOf(one) & spanOf(other) : no();
    }

    int told(long set, int what) {
        if (!hasAll(set)) {
            return -2;
        }
        if (what < 0 || what > 2) {
            return -1;
        }
        if (what == 2) {
            return set(set).cardinality();
        }
        if (!kept().group.isSubgroup(set(set))) {
            return -5;
        }
        int at = kept().list.indexOf(set);
        return what == 0 ? kept().types.get(at) : kept().cotypes.get(at);
    }

    long list(int i) {
        if (i == -1) {
            return kept().list.size();
        }
        return i >= 0 && i < kept().list.size() ? kept().list.get(i) : no();
    }

    int listed(int m, int n) {
        if (find(m) < 0 || n != -1 && find(n) < 0) {
            return -1;
        }
        int all = 0;
        for (int i = 0; i < kept().list.size(); i++) {
            int type = kept().types.get(i);
            int cotype = kept().cotypes.get(i);
            all += n == -1 ? type == m ? 1 : 0 : type == n && cotype == m ? 1 : 0;
        }
        return all;
    }

    // ---- floats, doubles

    private float shareOf(int m) {
        return (float) listed(m, -1) / (float) kept().list.size();
    }

    long share(int m) {
        return find(m) < 0 ? no() : Float.floatToIntBits(shareOf(m));
    }

    int thousandths(int m) {
        return find(m) < 0 ? -1 : (int) (shareOf(m) * 1000f);
    }

    private static double weightOf(List<Integer> l, int p, int k) {
        double w = 1;
        double q = 1;
        for (int i = 0; i < k; i++) {
            q /= p;
            w *= 1 - q;
        }
        return w / automorphisms(l).at(p);
    }

    long weight(int type, int p, int k) {
        boolean good = find(type) >= 0 && prime(p) && k >= 0 && k <= 20;
        return good ? Double.doubleToLongBits(weightOf(TYPES.get(find(type)), p, k)) : no();
    }

    long weights(int size, int p, int k) {
        if (size < 0 || size > 5 || !prime(p) || k < 0 || k > 20) {
            return no();
        }
        double all = 0;
        for (List<Integer> l : TYPES) {
            all += size(l) == size ? weightOf(l, p, k) : 0;
        }
        return Double.doubleToLongBits(all);
    }

    int mean() {
        float all = 0;
        for (long set : kept().list) {
            all += (float) Long.bitCount(set);
        }
        return Float.floatToIntBits(all / (float) kept().list.size());
    }

    // ---- sums

    int feed(int sign) {
        if (sign < 0 || sign > 127) {
            return -2;
        }
        if (tape.length() == 40) {
            return -4;
        }
        tape += (char) sign;
        return tape.length();
    }

    int read() {
        Reader reader = new Reader(tape);
        tape = "";
        TreeMap<Integer, Polynomial> made = reader.readAll();
        if (made == null) {
            return reader.answer;
        }
        result = made;
        return result.size();
    }

    int term(int i, int what) {
        if (i < 0 || i >= result.size() || what < 0 || what > 1) {
            return -1;
        }
        int t = new ArrayList<>(result.keySet()).get(i);
        return what == 0 ? number(TYPES.get(t)) : (int) result.get(t).part(-1);
    }

    long coefficient(int i, int k) {
        if (i < 0 || i >= result.size() || k < 0 || k > 30) {
            return no();
        }
        return new ArrayList<>(result.values()).get(i).part(k);
    }

    /** By descent: a wrong sign ends it at once; a wrong type or product is kept until all has been read. */
    private static final class Reader {
        private static final class WrongSign extends RuntimeException {
            private static final long serialVersionUID = 1;
        }

        private final String text;
        private int at = 0;
        private int wrongType = -1;
        private int wrongProduct = -1;
        int answer = 0;

        Reader(String text) {
            this.text = text;
        }

        TreeMap<Integer, Polynomial> readAll() {
            try {
                TreeMap<Integer, Polynomial> all = sum(0);
                if (at < text.length()) {
                    throw new WrongSign();
                }
                answer = wrongType >= 0 ? -2000 - wrongType : wrongProduct >= 0 ? -3000 - wrongProduct : 0;
                return answer == 0 ? all : null;
            } catch (WrongSign wrong) {
                answer = -1000 - at;
                return null;
            }
        }

        private char next() {
            return at < text.length() ? text.charAt(at) : (char) 255;
        }

        private TreeMap<Integer, Polynomial> sum(int open) {
            TreeMap<Integer, Polynomial> all = product(open);
            while (next() == '+' || next() == '-') {
                long times = text.charAt(at++) == '+' ? 1 : -1;
                TreeMap<Integer, Polynomial> more = product(open);
                for (int t : more.keySet()) {
                    addTo(all, t, more.get(t), times);
                }
            }
            return all;
        }

        private static void addTo(TreeMap<Integer, Polynomial> all, int t, Polynomial more, long times) {
            Polynomial now = all.getOrDefault(t, new Polynomial()).plus(more, times);
            all.remove(t);
            if (!now.isZero()) {
                all.put(t, now);
            }
        }

        private TreeMap<Integer, Polynomial> product(int open) {
            TreeMap<Integer, Polynomial> all = one(open);
            while (next() == '*') {
                int star = at++;
                all = times(all, one(open), star);
            }
            return all;
        }

        private TreeMap<Integer, Polynomial> times(
                TreeMap<Integer, Polynomial> a, TreeMap<Integer, Polynomial> b, int star) {
            TreeMap<Integer, Polynomial> all = new TreeMap<>();
            for (int m : a.keySet()) {
                for (int n : b.keySet()) {
                    if (size(TYPES.get(m)) + size(TYPES.get(n)) > 5 && wrongProduct < 0) {
                        wrongProduct = star;
                    }
                    for (int l = 0; l < TYPES.size(); l++) {
                        Polynomial hall = hall(TYPES.get(l), TYPES.get(m), TYPES.get(n));
                        addTo(all, l, hall.times(a.get(m)).times(b.get(n)), 1);
                    }
                }
            }
            return all;
        }

        private TreeMap<Integer, Polynomial> one(int open) {
            char sign = next();
            TreeMap<Integer, Polynomial> made = new TreeMap<>();
            if (sign == '(' && open < 2) {
                at++;
                made = sum(open + 1);
                if (next() != ')') {
                    throw new WrongSign();
                }
                at++;
            } else if (sign == '[') {
                int from = at++;
                while (next() >= '1' && next() <= '9' && at - from <= 5) {
                    at++;
                }
                if (next() != ']') {
                    throw new WrongSign();
                }
                int t = find(Integer.parseInt("0" + text.substring(from + 1, at)));
                wrongType = t < 0 && wrongType < 0 ? from : wrongType;
                made.put(Math.max(t, 0), Polynomial.one());
                at++;
            } else if (sign >= '0' && sign <= '9') {
                addTo(made, 0, Polynomial.one(), sign - '0');
                at++;
            } else {
                throw new WrongSign();
            }
            return made;
        }
    }

    // ---- shelves, the image

    private boolean shelf(int shelf) {
        return shelf >= 0 && shelf < 4;
    }

    int shelf(int shelf, int sort, int n) {
        if (!shelf(shelf)) {
            return -1;
        }
        if (sort < -1 || sort > 3 || sort >= 0 && n > 20) {
            return -2;
        }
        if (sort >= 0 && n < 0) {
            return -14;
        }
        shelves[shelf] = null;
        if (sort >= 0) {
            shelves[shelf] = new Row();
            shelves[shelf].sort = sort;
            shelves[shelf].places.addAll(Collections.nCopies(n, -1));
        }
        return 1;
    }

    private int refused(int shelf, int i) {
        if (shelves[shelf] == null) {
            return -11;
        }
        return i < 0 || i >= shelves[shelf].places.size() ? -12 : 0;
    }

    private boolean suits(int shelf, int type) {
        return shelves[shelf].sort == 3 || shelves[shelf].sort == kind(TYPES.get(find(type)));
    }

    int put(int shelf, int i, int type) {
        if (!shelf(shelf) || find(type) < 0) {
            return -1;
        }
        if (refused(shelf, i) != 0) {
            return refused(shelf, i);
        }
        if (!suits(shelf, type)) {
            return -13;
        }
        shelves[shelf].places.set(i, type);
        return 1;
    }

    int get(int shelf, int i) {
        if (!shelf(shelf)) {
            return -1;
        }
        if (refused(shelf, i) != 0) {
            return refused(shelf, i);
        }
        int type = shelves[shelf].places.get(i);
        return type == -1 ? -5 : type;
    }

    int move(int shelf, int i, int other, int j, int n) {
        if (!shelf(shelf) || !shelf(other)) {
            return -1;
        }
        if (shelves[shelf] == null || shelves[other] == null) {
            return -11;
        }
        List<Integer> from = new ArrayList<>(shelves[shelf].places);
        List<Integer> to = shelves[other].places;
        if (n < 0 || i < 0 || j < 0 || (long) i + n > from.size() || (long) j + n > to.size()) {
            return -12;
        }
        int k = 0;
        while (k < n && (from.get(i + k) == -1 || suits(other, from.get(i + k)))) {
            to.set(j + k, from.get(i + k));
            k++;
        }
        return k;
    }

    int all(int shelf, int type) {
        if (!shelf(shelf) || find(type) < 0) {
            return -1;
        }
        if (shelves[shelf] == null) {
            return -11;
        }
        int came = 0;
        for (List<Integer> m : TYPES) {
            if (lies(m, TYPES.get(find(type))) && put(shelf, came, number(m)) == 1) {
                came++;
            }
        }
        return came;
    }

    private void take(Model other) {
        held = other.held;
        prime = other.prime;
        result = new TreeMap<>(other.result);
        shelves = Arrays.stream(other.shelves).map(r -> r == null ? null : r.copy()).toArray(Row[]::new);
    }

    int image() {
        imageOf = new Model();
        imageOf.take(this);
        return many();
    }

    int back() {
        if (imageOf == null) {
            return -3;
        }
        take(imageOf);
        return many();
    }

    int count(int what) {
        if (what < 0 || what > 5) {
            return -1;
        }
        int rows = (int) Arrays.stream(shelves).filter(r -> r != null).count();
        return new int[] {number(held), prime, many(), result.size(), tape.length(), rows}[what];
    }
}
