import java.util.BitSet;
import java.util.HashMap;
import java.util.List;
import java.util.Map;
import java.util.Set;

/** The polynomials' values against what trying finds in groups of up to 625 elements. */
public final class CountsTest {
    private static TypesInside program = new TypesInside();
    private static int calls = 0;
    private static int wrong = 0;

    /** A new object whenever the promised 512 calls are used up. */
    private static TypesInside program() {
        if (calls == 512) {
            program = new TypesInside();
            calls = 0;
        }
        calls++;
        return program;
    }

    private static void due(String what, long got, long want) {
        if (got != want) {
            wrong++;
            System.out.println(what + ": " + got + ", due is " + want);
        }
    }

    private interface Parts {
        long part(int part);
    }

    private static long at(Parts polynomial, long p) {
        long all = 0;
        for (int k = (int) polynomial.part(-1); k >= 0; k--) {
            all = all * p + polynomial.part(k);
        }
        return all;
    }

    private static void group(int l, int p) {
        BruteGroup group = new BruteGroup(Model.TYPES.get(Model.find(l)), p);
        Set<BitSet> subgroups = group.subgroups();
        Map<String, Integer> pairs = new HashMap<>();
        Map<Integer, Integer> ofType = new HashMap<>();
        for (BitSet subgroup : subgroups) {
            int n = Model.number(group.partsBetween(subgroup, group.zero()));
            int m = Model.number(group.partsBetween(group.everything(), subgroup));
            pairs.merge(m + " " + n, 1, Integer::sum);
            ofType.merge(n, 1, Integer::sum);
        }
        String name = " of " + l + " at " + p;
        due("all subgroups" + name, program().value(l, 0, p), subgroups.size());
        for (List<Integer> one : Model.TYPES) {
            int m = Model.number(one);
            due(m + name, at(part -> program().subgroups(l, m, part), p), ofType.getOrDefault(m, 0));
            for (List<Integer> other : Model.TYPES) {
                int n = Model.number(other);
                due(m + ", " + n + name, at(part -> program().hall(l, m, n, part), p),
                        pairs.getOrDefault(m + " " + n, 0));
            }
        }
        due("chains" + name, program().value(l, 2, p), chains(subgroups, group.everything(), p));
        if (group.many <= 16) {
            due("automorphisms" + name, program().value(l, 1, p), automorphisms(group));
        }
    }

    private static long chains(Set<BitSet> subgroups, BitSet top, int p) {
        Map<BitSet, Long> found = new HashMap<>();
        subgroups.stream().sorted((a, b) -> a.cardinality() - b.cardinality()).forEach(subgroup -> {
            long all = subgroup.cardinality() == 1 ? 1 : 0;
            for (Map.Entry<BitSet, Long> e : found.entrySet()) {
                BitSet smaller = e.getKey();
                if (smaller.cardinality() * p == subgroup.cardinality()) {
                    BitSet both = (BitSet) smaller.clone();
                    both.and(subgroup);
                    all += both.equals(smaller) ? e.getValue() : 0;
                }
            }
            found.put(subgroup, all);
        });
        return found.get(top);
    }

    /** Rows of elements, one for each part, of that part's order, that together span all. */
    private static long automorphisms(BruteGroup group) {
        long rows = 1;
        for (int i = 0; i < group.parts.size(); i++) {
            rows *= group.many;
        }
        long all = 0;
        for (long row = 0; row < rows; row++) {
            BitSet made = new BitSet();
            long rest = row;
            boolean good = true;
            for (int q : group.parts) {
                int element = (int) (rest % group.many);
                rest /= group.many;
                good &= group.order(element) == BruteGroup.power(group.prime, q);
                made.set(element);
            }
            if (good && group.span(made).cardinality() == group.many) {
                all++;
            }
        }
        return all;
    }

    /** What holds of the polynomials themselves, whatever the prime. */
    private static void identities() {
        for (List<Integer> large : Model.TYPES) {
            int l = Model.number(large);
            for (List<Integer> small : Model.TYPES) {
                int n = Model.number(small);
                for (int k = 0; k <= 30; k++) {
                    long all = 0;
                    for (List<Integer> other : Model.TYPES) {
                        int m = Model.number(other);
                        all += program().hall(l, m, n, k);
                        due("hall " + l + " " + m + " " + n, program().hall(l, m, n, k), program().hall(l, n, m, k));
                    }
                    due("halls of all cotypes, " + l + " " + n, all, program().subgroups(l, n, k));
                }
            }
        }
    }

    public static void main(String[] args) {
        identities();
        for (List<Integer> parts : Model.TYPES) {
            int l = Model.number(parts);
            group(l, 2);
            group(l, 3);
            if (Model.size(parts) <= 4) {
                group(l, 5);
            }
            if (Model.size(parts) <= 3) {
                group(l, 7);
            }
        }
        System.out.println(wrong == 0 ? "all counts are as tried" : wrong + " counts are not as tried");
        if (wrong != 0) {
            System.exit(1);
        }
    }
}
