import java.util.ArrayList;
import java.util.BitSet;
import java.util.HashSet;
import java.util.List;
import java.util.Set;

/** A group for the tests, told by its parts and a prime; all is found by trying, with no formula. */
final class BruteGroup {
    final List<Integer> parts;
    final int prime;
    final int many;
    private final int[][] sums;

    BruteGroup(List<Integer> parts, int prime) {
        this.parts = parts;
        this.prime = prime;
        int all = 1;
        for (int q : parts) {
            all *= power(prime, q);
        }
        many = all;
        sums = new int[many][many];
        for (int a = 0; a < many; a++) {
            for (int b = 0; b < many; b++) {
                sums[a][b] = slowSum(a, b);
            }
        }
    }

    static int power(int p, int q) {
        int all = 1;
        for (int i = 0; i < q; i++) {
            all *= p;
        }
        return all;
    }

    int[] figures(int element) {
        int[] made = new int[parts.size()];
        int rest = element;
        for (int i = 0; i < made.length; i++) {
            int round = power(prime, parts.get(i));
            made[i] = rest % round;
            rest /= round;
        }
        return made;
    }

    int element(int[] figures) {
        int number = 0;
        for (int i = figures.length - 1; i >= 0; i--) {
            number = number * power(prime, parts.get(i)) + figures[i];
        }
        return number;
    }

    private int slowSum(int a, int b) {
        int[] one = figures(a);
        int[] other = figures(b);
        for (int i = 0; i < one.length; i++) {
            one[i] = (one[i] + other[i]) % power(prime, parts.get(i));
        }
        return element(one);
    }

    int sum(int a, int b) {
        return sums[a][b];
    }

    int order(int element) {
        int at = element;
        int k = 1;
        while (at != 0) {
            at = sum(at, element);
            k++;
        }
        return k;
    }

    BitSet zero() {
        BitSet made = new BitSet();
        made.set(0);
        return made;
    }

    BitSet everything() {
        BitSet made = new BitSet();
        made.set(0, many);
        return made;
    }

    boolean isSubgroup(BitSet set) {
        if (set.isEmpty()) {
            return false;
        }
        for (int a = set.nextSetBit(0); a >= 0; a = set.nextSetBit(a + 1)) {
            for (int b = set.nextSetBit(0); b >= 0; b = set.nextSetBit(b + 1)) {
                if (!set.get(sum(a, b))) {
                    return false;
                }
            }
        }
        return true;
    }

    /** All sums, until none is new. */
    BitSet span(BitSet set) {
        BitSet all = (BitSet) set.clone();
        all.set(0);
        List<Integer> todo = new ArrayList<>();
        all.stream().forEach(todo::add);
        for (int i = 0; i < todo.size(); i++) {
            int a = todo.get(i);
            for (int b = set.nextSetBit(0); b >= 0; b = set.nextSetBit(b + 1)) {
                int c = sum(a, b);
                if (!all.get(c)) {
                    all.set(c);
                    todo.add(c);
                }
            }
        }
        return all;
    }

    /** A subgroup and all that one more element makes with it. */
    private BitSet with(BitSet subgroup, int element) {
        BitSet all = (BitSet) subgroup.clone();
        for (int k = element; k != 0; k = sum(k, element)) {
            int by = k;
            subgroup.stream().forEach(a -> all.set(sum(a, by)));
        }
        return all;
    }

    Set<BitSet> subgroups() {
        Set<BitSet> found = new HashSet<>();
        List<BitSet> todo = new ArrayList<>();
        found.add(zero());
        todo.add(zero());
        for (int i = 0; i < todo.size(); i++) {
            BitSet subgroup = todo.get(i);
            BitSet seen = (BitSet) subgroup.clone();
            for (int e = 1; e < many; e++) {
                if (!seen.get(e)) {
                    BitSet larger = with(subgroup, e);
                    if (larger.cardinality() == prime * subgroup.cardinality()) {
                        seen.or(larger);
                    }
                    if (found.add(larger)) {
                        todo.add(larger);
                    }
                }
            }
        }
        return found;
    }

    /**
     * The parts of the cosets of a subgroup in a larger one: how many cosets have each order tells them, as a group
     * of parts q has the product of prime to the (least of q and i) elements of order prime to the i or less.
     */
    List<Integer> partsBetween(BitSet large, BitSet small) {
        int[] ofOrder = new int[8];
        for (int a = large.nextSetBit(0); a >= 0; a = large.nextSetBit(a + 1)) {
            int steps = 0;
            int at = a;
            while (!small.get(at)) {
                int next = 0;
                for (int k = 0; k < prime; k++) {
                    next = sum(next, at);
                }
                at = next;
                steps++;
            }
            ofOrder[steps]++;
        }
        List<Integer> columns = new ArrayList<>();
        int before = ofOrder[0];
        for (int i = 1; i < 8 && ofOrder[i] > 0; i++) {
            int now = before + ofOrder[i];
            int c = 0;
            while (power(prime, c) * before < now) {
                c++;
            }
            columns.add(c);
            before = now;
        }
        List<Integer> made = new ArrayList<>();
        for (int k = 0; !columns.isEmpty() && k < columns.get(0); k++) {
            int part = 0;
            for (int c : columns) {
                if (c > k) {
                    part++;
                }
            }
            made.add(part);
        }
        return made;
    }
}
