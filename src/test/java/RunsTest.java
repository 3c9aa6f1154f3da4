import java.util.Random;

/** Runs of calls, chosen by fixed seeds, on the program and on the model: every answer must be the same. */
public final class RunsTest {
    private static final int[] WILD = {
        Integer.MIN_VALUE, Integer.MIN_VALUE + 1, -1000, -15, -6, -2, -1, 0, 1, 2, 3, 4, 5, 6, 7, 10, 12, 19, 20, 21,
        30, 31, 32, 33, 40, 41, 63, 64, 100, 127, 128, 11111, 111111, 1 << 30, Integer.MAX_VALUE - 1,
        Integer.MAX_VALUE};
    private static final String SIGNS = "0123456789[[[]]](()+-** ";
    private static final String[] ONES = {
        "[]", "[1]", "[2]", "[11]", "[1]", "[2]", "[11]", "[3]", "[21]", "[111]", "[4]", "[221]", "0", "1", "2", "9",
        "[1]", "[12]", "[99999]"};

    private final Random random;
    private final TypesInside program = new TypesInside();
    private final Model model = new Model();
    private final StringBuilder calls = new StringBuilder();
    private int done = 0;

    private RunsTest(int seed) {
        random = new Random(seed);
    }

    private int below(int bound) {
        return random.nextInt(bound);
    }

    private int wild() {
        return WILD[below(WILD.length)];
    }

    /** Mostly a number from low to high, now and then any. */
    private int near(int low, int high) {
        return below(12) == 0 ? wild() : low + below(high - low + 1);
    }

    private int type() {
        return below(20) == 0 ? wild() : Model.number(Model.TYPES.get(below(Model.TYPES.size())));
    }

    private int prime() {
        return below(12) == 0 ? near(0, 13) : new int[] {2, 2, 2, 3, 3, 5, 7}[below(7)];
    }

    private long set() {
        int many = Math.max(1, model.count(2));
        long mask = (1L << many) - 1;
        switch (below(6)) {
            case 0:
                return random.nextLong() & mask;
            case 1:
                return random.nextLong() & random.nextLong() & random.nextLong() & mask;
            case 2:
                return 1L << below(many) | 1L << below(many);
            case 3:
                return below(6) == 0 ? random.nextLong() : 1L << below(Math.min(64, many + 1));
            default:
                return model.list(below((int) model.list(-1)));
        }
    }

    private void same(String call, long got, long want) {
        done++;
        calls.append(call).append(' ').append(got).append('\n');
        if (got != want) {
            System.out.println(calls);
            System.out.println(call + " answered " + got + ", the model " + want);
            System.exit(1);
        }
    }

    private static String told(String name, Object... arguments) {
        StringBuilder made = new StringBuilder(name).append('(');
        for (Object argument : arguments) {
            made.append(argument).append(' ');
        }
        return made.append(')').toString();
    }

    private void askOfTypes() {
        int a = type();
        int b = type();
        int c = type();
        int part = near(-1, 9);
        int what = near(0, 2);
        switch (below(8)) {
            case 0 -> same(told("type", part), program.type(part), model.type(part));
            case 1 -> same(told("of", a, part), program.of(a, part), model.of(a, part));
            case 2 -> same(told("in", a, b), program.in(a, b), model.in(a, b));
            case 3 -> {
                int x = near(0, 5);
                int y = near(0, 5);
                same(told("choices", x, y, part), program.choices(x, y, part), model.choices(x, y, part));
            }
            case 4 -> same(told("subgroups", a, b, part), program.subgroups(a, b, part), model.subgroups(a, b, part));
            case 5 -> same(told("hall", a, b, c, part), program.hall(a, b, c, part), model.hall(a, b, c, part));
            case 6 -> {
                int p = near(-1, 30);
                same(told("whole", a, what, p), program.whole(a, what, p), model.whole(a, what, p));
            }
            default -> {
                int p = prime();
                same(told("value", a, what, p), program.value(a, what, p), model.value(a, what, p));
            }
        }
    }

    private void askOfGroup() {
        int e = near(0, model.count(2) - 1);
        int f = near(0, model.count(2) - 1);
        int k = near(-40, 40);
        long set = set();
        long other = set();
        int a = type();
        int b = below(3) == 0 ? -1 : type();
        switch (below(10)) {
            case 0 -> {
                int t = below(3) == 0 ? type() : Model.number(Model.TYPES.get(below(8)));
                int p = prime();
                same(told("group", t, p), program.group(t, p), model.group(t, p));
            }
            case 1 -> same(told("sum", e, f), program.sum(e, f), model.sum(e, f));
            case 2 -> same(told("times", e, k), program.times(e, k), model.times(e, k));
            case 3 -> same(told("order", e), program.order(e), model.order(e));
            case 4 -> same(told("figure", e, k / 8), program.figure(e, k / 8), model.figure(e, k / 8));
            case 5 -> same(told("span", set), program.span(set), model.span(set));
            case 6 -> same(told("meet", set, other), program.meet(set, other), model.meet(set, other));
            case 7 -> {
                int what = near(0, 2);
                same(told("told", set, what), program.told(set, what), model.told(set, what));
            }
            case 8 -> {
                int i = near(-1, (int) model.list(-1));
                same(told("list", i), program.list(i), model.list(i));
            }
            default -> same(told("listed", a, b), program.listed(a, b), model.listed(a, b));
        }
    }

    private void askOfShares() {
        int a = type();
        int p = prime();
        int k = near(0, 20);
        int size = near(0, 5);
        switch (below(5)) {
            case 0 -> same(told("share", a), program.share(a), model.share(a));
            case 1 -> same(told("thousandths", a), program.thousandths(a), model.thousandths(a));
            case 2 -> same(told("weight", a, p, k), program.weight(a, p, k), model.weight(a, p, k));
            case 3 -> same(told("weights", size, p, k), program.weights(size, p, k), model.weights(size, p, k));
            default -> same("mean()", program.mean(), model.mean());
        }
    }

    private String sum(int open, int length) {
        StringBuilder made = new StringBuilder();
        for (int i = 0; i < length; i++) {
            if (i > 0) {
                made.append("+-***".charAt(below(5)));
            }
            if (open < 2 && below(4) == 0 || below(60) == 0) {
                made.append('(').append(sum(open + 1, 1 + below(3))).append(')');
            } else {
                made.append(ONES[below(below(4) == 0 ? ONES.length : 6)]);
            }
        }
        return made.toString();
    }

    private void feed(int sign) {
        same(told("feed", sign), program.feed(sign), model.feed(sign));
    }

    private void askOfSums() {
        String text = sum(0, 1 + below(5));
        if (below(3) == 0 && text.length() > 1) {
            int at = below(text.length());
            text = text.substring(0, at) + SIGNS.charAt(below(SIGNS.length())) + text.substring(at + below(2));
        }
        for (int i = 0; i < text.length() && i < 42; i++) {
            feed(text.charAt(i));
        }
        if (below(5) == 0) {
            feed(near(0, 127));
        }
        if (below(20) != 0) {
            same("read() " + text, program.read(), model.read());
        }
        for (int k = 0; k < 8; k++) {
            int i = near(0, 6);
            int c = near(0, 10);
            same(told("coefficient", i, c), program.coefficient(i, c), model.coefficient(i, c));
            int what = near(0, 1);
            same(told("term", i, what), program.term(i, what), model.term(i, what));
        }
    }

    private void askOfShelves() {
        int shelf = near(0, 3);
        int other = near(0, 3);
        int i = near(0, 6);
        int j = near(0, 6);
        int n = near(0, 4);
        int t = type();
        switch (below(12)) {
            case 0 -> {
                int sort = near(-1, 3);
                int size = near(0, 20);
                same(told("shelf", shelf, sort, size), program.shelf(shelf, sort, size),
                        model.shelf(shelf, sort, size));
            }
            case 1, 2, 3, 4 -> same(told("put", shelf, i, t), program.put(shelf, i, t), model.put(shelf, i, t));
            case 5, 6 -> same(told("get", shelf, i), program.get(shelf, i), model.get(shelf, i));
            case 7, 8 -> same(told("move", shelf, i, other, j, n), program.move(shelf, i, other, j, n),
                    model.move(shelf, i, other, j, n));
            case 9 -> same(told("all", shelf, t), program.all(shelf, t), model.all(shelf, t));
            case 10 -> askOfImage();
            default -> askAllPlaces();
        }
    }

    private void askOfImage() {
        if (below(3) == 0) {
            same("image()", program.image(), model.image());
        } else if (below(2) == 0) {
            same("back()", program.back(), model.back());
        }
    }

    private void askAllPlaces() {
        for (int shelf = 0; shelf < 4; shelf++) {
            for (int i = 0; i < 8; i++) {
                same(told("get", shelf, i), program.get(shelf, i), model.get(shelf, i));
            }
        }
    }

    private void askCounts() {
        for (int what = -1; what <= 6; what++) {
            same(told("count", what), program.count(what), model.count(what));
        }
    }

    private void run(int theme) {
        if (theme == 4 || theme == 5) {
            for (int shelf = 0; shelf < 4; shelf++) {
                int sort = below(2) == 0 ? 3 : below(3);
                same("shelf", program.shelf(shelf, sort, 8), model.shelf(shelf, sort, 8));
            }
        }
        while (done < 450) {
            switch (below(3) == 0 ? below(7) : theme) {
                case 0 -> askOfTypes();
                case 1 -> askOfGroup();
                case 2 -> askOfShares();
                case 3 -> askOfSums();
                case 4 -> askOfShelves();
                case 5 -> askOfImage();
                default -> askCounts();
            }
        }
    }

    public static void main(String[] args) {
        int runs = 1500;
        for (int seed = 0; seed < runs; seed++) {
            new RunsTest(seed).run(seed % 7);
        }
        System.out.println(runs + " runs as the model's");
    }
}
