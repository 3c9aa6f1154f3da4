/** The edges of promises 25 to 28 and of what the document says of sums. */
public final class SumEdgesTest {
    private static final Edges EDGES = new Edges();
    private static final int[] NO_BYTES = {
        -1, -2, -128, 128, 129, 255, 256, 256 + '1', Integer.MIN_VALUE, Integer.MIN_VALUE + '1', Integer.MAX_VALUE};
    private static final int[] WILD = {Integer.MIN_VALUE, Integer.MAX_VALUE};
    private static final String FIGURES = "0123456789";
    /** Forty bytes that are a sum. */
    private static final String LONG_SUM = "[11111]+[11111]+[11111]+[11111]+[2111]+1";

    /** A new object with [21] for its result, that reads a text. */
    private static void reads(String text, int want) {
        TypesInside x = new TypesInside();
        EDGES.read(x, "[21]");
        for (int i = 0; i < text.length(); i++) {
            EDGES.due("feed '" + text.charAt(i) + "'", x.feed(text.charAt(i)), i + 1);
        }
        EDGES.due("read '" + text + "'", x.read(), want);
        EDGES.due("bytes behind '" + text + "'", x.count(4), 0);
        EDGES.due("TERMS behind '" + text + "'", x.count(3), want < 0 ? 1 : want);
        if (want < 0) {
            EDGES.dueTerm(x, 0, 21, 1);
        }
        EDGES.due("TERM behind the last one", x.term(want < 0 ? 1 : want, 0), -1);
    }

    /** What an object in full use, with the bytes 1+ on its tape, answers to read behind some more: a fault. */
    private static void faults(String more, int want) {
        TypesInside x = EDGES.full();
        EDGES.feed(x, more);
        EDGES.due("read '1+" + more + "'", x.read(), want);
        EDGES.dueFullButTape("read '1+" + more + "'", x);
    }

    private static TypesInside after(String text) {
        TypesInside x = new TypesInside();
        EDGES.read(x, text);
        return x;
    }

    private static void bytes() {
        EDGES.sentence("a byte (0 .. 127): how many it has; none is refused for what it is");
        for (int sign = 0; sign <= 127; sign++) {
            int one = sign;
            EDGES.fresh("feed " + sign, 1, x -> x.feed(one));
        }
        EDGES.sentence("feed: BAD");
        for (int no : NO_BYTES) {
            EDGES.stays("feed " + no, -2, x -> x.feed(no));
            EDGES.fresh("feed " + no, -2, x -> x.feed(no));
        }
        EDGES.sentence("THE TAPE (40 bytes at most); FULL");
        TypesInside x = new TypesInside();
        for (int i = 0; i < LONG_SUM.length(); i++) {
            EDGES.due("feed the byte behind " + i, x.feed(LONG_SUM.charAt(i)), i + 1);
        }
        EDGES.due("bytes", x.count(4), 40);
        EDGES.due("feed one more", x.feed('1'), -4);
        EDGES.due("feed byte 0", x.feed(0), -4);
        EDGES.due("feed byte 127", x.feed(127), -4);
        EDGES.sentence("feed: BAD; FULL: the first that its words name");
        for (int no : NO_BYTES) {
            EDGES.due("feed " + no + " behind forty", x.feed(no), -2);
        }
        EDGES.sentence("what is refused changes nothing: the forty bytes are read as they were");
        EDGES.due("bytes", x.count(4), 40);
        EDGES.due("read", x.read(), 3);
        EDGES.dueTerm(x, 0, 0, 1);
        EDGES.dueTerm(x, 1, 2111, 1);
        EDGES.dueTerm(x, 2, 11111, 4);
        EDGES.due("bytes behind it", x.count(4), 0);
        EDGES.due("feed again", x.feed('1'), 1);
    }

    private static void emptied() {
        EDGES.sentence("THE TAPE is empty then (by a FAULT, too); THE RESULT stays by a FAULT");
        faults("", -1002);
        faults("*", -1002);
        faults("[12]", -2002);
        faults("[5]*[1]", -3005);
        EDGES.sentence("THE TAPE is empty then: a SUM that is read doesn't begin with what was there");
        TypesInside x = after("[1]+");
        EDGES.due("read '2' behind a fault", EDGES.read(x, "2"), 1);
        EDGES.dueTerm(x, 0, 0, 2);
        EDGES.due("read '3' behind a sum", EDGES.read(x, "3"), 1);
        EDGES.dueTerm(x, 0, 0, 3);
        EDGES.due("read of nothing behind it", x.read(), -1000);
        EDGES.dueTerm(x, 0, 0, 3);
    }

    /** Every byte behind a text: it goes on with some (and then ends too early), ends with some, no other one will do. */
    private static void next(String text, String on, String ends) {
        for (int sign = 0; sign <= 127; sign++) {
            TypesInside x = after("[21]");
            EDGES.feed(x, text);
            x.feed(sign);
            int got = x.read();
            String call = "read '" + text + "' and byte " + sign;
            if (ends.indexOf(sign) >= 0) {
                EDGES.due(call + " is a SUM", got >= 0 ? 1 : 0, 1);
            } else {
                EDGES.due(call, got, -1000 - text.length() - (on.indexOf(sign) >= 0 ? 1 : 0));
                EDGES.dueTerm(x, 0, 21, 1);
            }
        }
    }

    private static void places() {
        EDGES.sentence("kind 1 the place (from 0) of the first byte with which no SUM can go on");
        next("", "[(", FIGURES);
        next("1+", "[(", FIGURES);
        next("1-", "[(", FIGURES);
        next("1*", "[(", FIGURES);
        next("(", "[(" + FIGURES, "");
        next("((", "[" + FIGURES, "");
        next("(1*", "[(" + FIGURES, "");
        next("1", "+-*", "");
        next("[]", "+-*", "");
        next("[1]", "+-*", "");
        next("(1)", "+-*", "");
        next("(1", "+-*", ")");
        next("((1)", "+-*", ")");
        next("((1", "+-*)", "");
        next("(1+(1", "+-*)", "");
        next("(1)*(1", "+-*", ")");
        EDGES.sentence("[ ] hold 0 to 5 figures 1 .. 9; no blanks");
        next("[", "123456789", "]");
        next("[1", "123456789", "]");
        next("[1111", "123456789", "]");
        next("[11111", "", "]");
        next("1+[", "123456789", "]");
        EDGES.sentence("kind 1: the size, if it ends too early (of an empty tape: 0)");
        EDGES.fresh("read of nothing", -1000, x -> x.read());
        EDGES.stays("read of a SUM that ends too early, and feed it again", 2, x -> {
            EDGES.due("read '1+'", x.read(), -1002);
            x.feed('1');
            return x.feed('+');
        });
        reads("(", -1001);
        reads("((", -1002);
        reads("((1)", -1004);
        reads("[", -1001);
        reads("[99999", -1006);
        reads("1+1*", -1004);
        reads(LONG_SUM.substring(0, 39) + "(", -1040);
        reads(LONG_SUM.substring(0, 39) + "[", -1040);
        reads(LONG_SUM.substring(0, 38) + "11", -1038);
        reads(LONG_SUM.substring(0, 39) + "+", -1039);
        reads(LONG_SUM.substring(0, 39) + "1", 3);
    }

    private static void opened() {
        EDGES.sentence("at most 2 ( are open at once");
        reads("((1))", 1);
        reads("(((1)))", -1002);
        reads("1+(2*(3-(4)))", -1008);
        reads("(1)*(1)*(1)*(1)", 1);
        reads("((1)+(1))*((1)-(2))", 1);
        reads("((1)+(1)*((1)))", -1010);
        reads("((1))((1))", -1005);
        reads("((1)))", -1005);
        reads(")", -1000);
        EDGES.sentence("ONE: a figure 0 .. 9: one figure alone");
        reads("10", -1001);
        reads("00", -1001);
        reads("9", 1);
        reads("0", 0);
        EDGES.sentence("[ figures ] (the TYPE; [] is TYPE 0)");
        TypesInside x = after("[]");
        EDGES.due("TERMS of []", x.count(3), 1);
        EDGES.dueTerm(x, 0, 0, 1);
        for (int type : Edges.TYPES) {
            TypesInside y = after("[" + (type == 0 ? "" : "" + type) + "]");
            EDGES.due("TERMS of " + type, y.count(3), 1);
            EDGES.dueTerm(y, 0, type, 1);
        }
    }

    private static void noTypes() {
        EDGES.sentence("kind 2 that of the first [ whose figures are no TYPE");
        for (int no : new int[] {6, 9, 12, 33, 42, 51, 112, 121, 212, 222, 321, 999, 1112, 2211, 3111, 9999}) {
            reads("[" + no + "]", -2000);
            reads("1+2*[" + no + "]", -2004);
        }
        for (int no : new int[] {11112, 21111, 12345, 55555, 99999}) {
            reads("[" + no + "]", -2000);
            reads("((1-[" + no + "]))", -2004);
        }
        reads("[12]+[21]+[6]", -2000);
        reads("[2]*[12]*[13]", -2004);
        reads("0*[12]", -2002);
        reads("[11111]-[11111]+[11111]-[11111]+[3]*[12]", -2036);
        EDGES.sentence("else kind 2 (kind 1 is ahead of it, wherever it is)");
        reads("[12]", -2000);
        reads("[12]+", -1005);
        reads("[12]a", -1004);
        reads("[12]+(((1)))", -1007);
        reads("[12]*[111111]", -1011);
        EDGES.sentence("else kind 3 (kinds 1 and 2 are ahead of it, wherever they are)");
        reads("[5]*[5]", -3003);
        reads("[5]*[5]+[12]", -2008);
        reads("[5]*[5]+[12", -1011);
        reads("[5]*[5]+[50]", -1010);
        reads("([5]*[5])*[9]", -2010);
    }

    private static void tooGreat() {
        EDGES.sentence("kind 3: by which two TYPES would come to a SIZE above 5 (5 is none)");
        reads("[5]*[]", 1);
        reads("[]*[11111]", 1);
        reads("[4]*[1]", 2);
        reads("[1]*[4]", 2);
        reads("[3]*[2]", 3);
        reads("[111]*[11]", 3);
        reads("[5]*[1]", -3003);
        reads("[1]*[5]", -3003);
        reads("[3]*[3]", -3003);
        reads("[11]*[1111]", -3004);
        reads("[11111]*[11111]", -3007);
        reads("[1]*[1]*[1]*[1]*[1]", 7);
        reads("[1]*[1]*[1]*[1]*[1]*[1]", -3019);
        reads("5*[5]*5", 1);
        EDGES.sentence("kind 3: with POLYNOMIALS that aren't 0");
        reads("0*[5]*[5]", 0);
        reads("[5]*0*[5]", 0);
        reads("[5]*([5]-[5])", 0);
        reads("([5]-[5])*[5]", 0);
        reads("([5]-[5]+1)*[5]", 1);
        reads("[5]*([1]-[1]+2)", 1);
        reads("([2]-[1]*[1]+[11]+1)*[4]", -3020);
        reads("([1]*[1]-[1]*[1]+1)*[5]", 1);
        reads("[5]*[1]*0", -3003);
        reads("0*([5]*[1])", -3006);
        reads("0*[5]+[5]*[1]", -3009);
        EDGES.sentence("kind 3: of any two TYPES of the TERMS of the one and of the other one");
        reads("([5]+1)*[1]", -3007);
        reads("(1+[5])*(1+[1])", -3007);
        reads("(1+[3])*(1+[2])", 6);
        reads("(1+[3])*([2]+[3])", -3007);
        EDGES.sentence("kind 3: the first * worked out (from the left on: a ( ) as it is come to, a * as soon as the ONE"
                + " behind it is)");
        reads("[5]*[1]+[5]*[2]", -3003);
        reads("[2]*[3]*[1]", -3007);
        reads("[1]+[2]*[2]*[2]", -3011);
        reads("[1]*([5]*[1])", -3008);
        reads("[5]*([5]*[1])", -3008);
        reads("[5]*([1]+1)*[1]", -3003);
        reads("[5]*([1]+[5]*[1])", -3012);
        reads("[5]*(1*([5]*[1]))", -3011);
        reads("[5]*(1*([5]))", -3003);
        reads("([1])*([5])", -3005);
        reads("(1*[5])*[1]*[1]", -3007);
        reads("[1]*[4]*([1]*[4])", -3007);
        reads("[1]*[4]*([2]*[4])", -3012);
        reads("[11111]-[11111]+[11111]-[11111]+[5]*[11]", -3035);
    }

    private static void terms() {
        EDGES.sentence("THE RESULT: the TERMS whose POLYNOMIAL isn't 0 (there may be none)");
        for (String none : new String[] {"0", "1-1", "[21]-[21]", "0*[5]", "[5]*0", "(0)", "[1]*[2]-[2]*[1]"}) {
            TypesInside x = after("[21]");
            EDGES.due("read '" + none + "'", EDGES.read(x, none), 0);
            EDGES.due("TERMS", x.count(3), 0);
            EDGES.due("term 0 0", x.term(0, 0), -1);
            EDGES.due("term 0 1", x.term(0, 1), -1);
            EDGES.due("coefficient 0 0", x.coefficient(0, 0), Edges.NO);
        }
        EDGES.sentence("THE RESULT: by TYPES' numbers; HALL times both POLYNOMIALS is added to that of each l");
        TypesInside x = after("[11111]+[5]+[11]+[2]+[1]+1");
        int[] types = {0, 1, 2, 11, 5, 11111};
        for (int i = 0; i < types.length; i++) {
            EDGES.dueTerm(x, i, types[i], 1);
        }
        x = after("[1]*[1]");
        EDGES.dueTerm(x, 0, 2, 1);
        EDGES.dueTerm(x, 1, 11, 1, 1);
        x = after("[2]*[2]");
        EDGES.dueTerm(x, 0, 4, 1);
        EDGES.dueTerm(x, 1, 31, -1, 1);
        EDGES.dueTerm(x, 2, 22, 0, 1, 1);
        x = after("(1+[1])*(1+[1])*(1+[1])*(1+[1])*(1+[1])");
        EDGES.due("all TERMS that there may be", x.count(3), 19);
        for (int i = 0; i < 19; i++) {
            EDGES.due("type of term " + i, x.term(i, 0), Edges.TYPES[i]);
        }
        EDGES.due("one behind them", x.term(19, 0), -1);
        EDGES.dueTerm(x, 18, 11111, 1, 4, 9, 15, 20, 22, 20, 15, 9, 4, 1);
        EDGES.sentence("+ and - add them, take them away");
        x = after("1-2*3-(4-5)+0");
        EDGES.dueTerm(x, 0, 0, -4);
        x = after("0-[1]*[1]+[2]*3");
        EDGES.dueTerm(x, 0, 2, 2);
        EDGES.dueTerm(x, 1, 11, -1, -1);
        EDGES.sentence("COEFFICIENTS are longs that wrap");
        x = after("9*9*9*9*9*9*9*9*9*9*9*9*9*9*9*9*9*9*9*9");
        EDGES.dueTerm(x, 0, 0, -6289078614652622815L);
        x = after("0-9*9*9*9*9*9*9*9*9*9*9*9*9*9*9*9*9*9*9");
        EDGES.dueTerm(x, 0, 0, -1350851717672992089L);
        x = after("8*8*8*8*8*8*8*8*8*8*8*8*8*8*8*8*8*8*8*8");
        EDGES.dueTerm(x, 0, 0, 1L << 60);
    }

    private static void asked() {
        EDGES.sentence("term: of the i-th TERM (from 0): NONE: i, what");
        EDGES.stays("term 0 1", 0, x -> x.term(0, 1));
        EDGES.stays("term 2 0", 11, x -> x.term(2, 0));
        EDGES.stays("term 2 1", 1, x -> x.term(2, 1));
        for (int no : new int[] {-1, -2, 3, 4, 19, WILD[0], WILD[1]}) {
            EDGES.stays("term " + no + " 0", -1, x -> x.term(no, 0));
            EDGES.stays("term " + no + " 1", -1, x -> x.term(no, 1));
            EDGES.stays("coefficient " + no + " 0", Edges.NO, x -> x.coefficient(no, 0));
            EDGES.stays("coefficient " + no + " 30", Edges.NO, x -> x.coefficient(no, 30));
        }
        for (int no : new int[] {-1, -2, 2, 3, WILD[0], WILD[1]}) {
            EDGES.stays("term 0 " + no, -1, x -> x.term(0, no));
            EDGES.stays("term 2 " + no, -1, x -> x.term(2, no));
        }
        EDGES.sentence("COEFFICIENT k (0 .. 30): 0 above the DEGREE; NO: i, k");
        EDGES.stays("coefficient 0 0", -3, x -> x.coefficient(0, 0));
        EDGES.stays("coefficient 2 1", 1, x -> x.coefficient(2, 1));
        EDGES.stays("coefficient 2 2", 0, x -> x.coefficient(2, 2));
        EDGES.stays("coefficient 2 30", 0, x -> x.coefficient(2, 30));
        for (int no : new int[] {-1, -5, 31, 32, WILD[0], WILD[1]}) {
            EDGES.stays("coefficient 0 " + no, Edges.NO, x -> x.coefficient(0, no));
            EDGES.stays("coefficient 2 " + no, Edges.NO, x -> x.coefficient(2, no));
        }
        for (int no : WILD) {
            EDGES.fresh("term " + no + " " + no, -1, x -> x.term(no, no));
            EDGES.fresh("coefficient " + no + " " + no, Edges.NO, x -> x.coefficient(no, no));
        }
    }

    public static void main(String[] args) {
        bytes();
        emptied();
        places();
        opened();
        noTypes();
        tooGreat();
        terms();
        asked();
        EDGES.end();
    }
}
