import java.util.Map;
import java.util.TreeMap;

/** A polynomial for the tests: coefficients by exponent, none of them 0, longs that wrap. */
final class Polynomial {
    final TreeMap<Integer, Long> coefficients = new TreeMap<>();

    static Polynomial power(int exponent, long times) {
        Polynomial made = new Polynomial();
        made.addAt(exponent, times);
        return made;
    }

    static Polynomial one() {
        return power(0, 1);
    }

    private void addAt(int exponent, long more) {
        long now = coefficients.getOrDefault(exponent, 0L) + more;
        if (now == 0) {
            coefficients.remove(exponent);
        } else {
            coefficients.put(exponent, now);
        }
    }

    Polynomial plus(Polynomial other, long times) {
        Polynomial made = new Polynomial();
        made.coefficients.putAll(coefficients);
        for (Map.Entry<Integer, Long> e : other.coefficients.entrySet()) {
            made.addAt(e.getKey(), e.getValue() * times);
        }
        return made;
    }

    Polynomial times(Polynomial other) {
        Polynomial made = new Polynomial();
        for (Map.Entry<Integer, Long> a : coefficients.entrySet()) {
            for (Map.Entry<Integer, Long> b : other.coefficients.entrySet()) {
                made.addAt(a.getKey() + b.getKey(), a.getValue() * b.getValue());
            }
        }
        return made;
    }

    boolean isZero() {
        return coefficients.isEmpty();
    }

    long part(int part) {
        if (part == -1) {
            return isZero() ? -5 : coefficients.lastKey();
        }
        return coefficients.getOrDefault(part, 0L);
    }

    long at(long p) {
        long all = 0;
        for (Map.Entry<Integer, Long> e : coefficients.entrySet()) {
            long power = 1;
            for (int i = 0; i < e.getKey(); i++) {
                power *= p;
            }
            all += e.getValue() * power;
        }
        return all;
    }
}
