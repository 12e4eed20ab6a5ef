/**
 * All calls of the face in any order, with numbers at, inside and beyond their edges, each answer held against FaceOracle's.
 * LANGUAGE.md's rule 7 too: no call may throw, for any arguments, in any state, behind the 512th call neither.
 */
public final class AnyCallsTest {
    private static final int RUNS = 1500, MOST_CALLS = 512;
    private static final int[] EDGES = {-1, 0, 1, 2, 3, 4, 5, 6, 7, 8, 9, 13, 14, 19, 20, 21, 31, 32, 39, 40, 41, 90, 255, 256, -2,
        Integer.MIN_VALUE, Integer.MAX_VALUE};

    private int passed, failed;
    private long z;
    private TrickHouse x;
    private FaceOracle o;
    private String call;

    public static void main(String[] args) {
        AnyCallsTest test = new AnyCallsTest();
        for (int run = 0; run < RUNS && test.failed < 20; run++) test.run(run);
        for (int run = 0; run < 50; run++) test.neverThrows(run);
        System.out.println(test.passed + " passed, " + test.failed + " failed");
        if (test.failed != 0) System.exit(1);
    }

    private int any(int n) {
        z = z * 6364136223846793005L + 1442695040888963407L;
        return (int) ((z >>> 33) % n);
    }

    // Mostly below a bound, so that not all is refused; else at some edge.
    private int near(int bound) {
        return any(6) > 0 ? any(bound + 1) - any(8) / 7 : EDGES[any(EDGES.length)];
    }

    private void run(int number) {
        z = 104729L * number + 1;
        x = new TrickHouse();
        o = new FaceOracle();
        int calls = 0;
        while (calls < MOST_CALLS - 12) calls += any(3) > 0 ? says() : one();
    }

    private void due(int got, int want) {
        if (got == want) {
            passed++;
            return;
        }
        failed++;
        System.out.println(call + " answered " + got + ", due is " + want);
    }

    // An ACT, now and then with a sign that is another, taken away or put in. Answered is how many calls it took.
    private int says() {
        StringBuilder text = new StringBuilder(o.likely(any(1 << 20)));
        if (any(9) == 0) spoil(text);
        int calls = 1;
        for (int i = 0; i < text.length(); i += 5) {
            int n = Math.min(5, text.length() - i);
            int[] b = new int[5];
            for (int k = 0; k < n; k++) b[k] = text.charAt(i + k);
            call = "feed of " + text;
            due(x.feed(n, b[0], b[1], b[2], b[3], b[4]), o.feed(n, b));
            calls++;
        }
        call = "act() of " + text;
        due(x.act(), o.act());
        return calls;
    }

    private void spoil(StringBuilder text) {
        int at = any(text.length());
        int which = any(4);
        if (which == 0) text.deleteCharAt(at);
        else if (which == 1) text.setCharAt(at, sign());
        else if (which == 2) text.insert(at, sign());
        else text.append(sign()).append(sign());
    }

    private char sign() {
        String some = "cdhsn0189 \n;z`{/:A";
        int k = any(some.length() + 1);
        return k == some.length() ? (char) any(256) : some.charAt(k);
    }

    private int one() {
        int a = near(4), b = near(8), c = near(4), d = near(6), e = near(6), big = near(31);
        int which = any(26);
        call = "call " + which + " of " + a + " " + b + " " + c + " " + d + " " + e + " " + big;
        switch (which) {
            case 0: due(x.feed(b, big, d, e, a, c), o.feed(b, big, d, e, a, c)); break;
            case 1: due(x.act(), o.act()); break;
            case 2: if (any(3) == 0) due(x.undo(), o.undo()); break;
            case 3: due(x.log(big, a), o.log(big, a)); break;
            case 4: due(x.print(big, b), o.print(big, b)); break;
            case 5: due(x.told(big / 2), o.told(big / 2)); break;
            case 6: due(x.hand(a, c), o.hand(a, c)); break;
            case 7: due(x.trick(b, d), o.trick(b, d)); break;
            case 8: due(x.strength(big, a), o.strength(big, a)); break;
            case 9: due(x.taken(big, a), o.taken(big, a)); break;
            case 10: due(x.score(d), o.score(d)); break;
            case 11: due(x.table(d, b, e, a, c), o.table(d, b, e, a, c)); break;
            case 12: due(x.total(c, d), o.total(c, d)); break;
            case 13: due(x.open(), o.open()); break;
            case 14: due(x.gains(big), o.gains(big)); break;
            case 15: due(x.best(a), o.best(a)); break;
            case 16: due(x.drawn(big), o.drawn(big)); break;
            case 17: due(x.chance(big, b, c), o.chance(big, b, c)); break;
            case 18: due(x.replay(big, d * 5), o.replay(big, d * 5)); break;
            case 19: due(x.film(a), o.film(a)); break;
            case 20: if (any(3) == 0) due(x.image(), o.image()); break;
            case 21: if (any(4) == 0) due(x.back(), o.back()); break;
            case 22: due(x.sheet(a, c - 1, b), o.sheet(a, c - 1, b)); break;
            case 23: due(x.cell(a, b, c), o.cell(a, b, c)); break;
            case 24: due(x.copy(a, b, c, d, e), o.copy(a, b, c, d, e)); break;
            default: due(x.tells(a, c), o.tells(a, c)); break;
        }
        return 1;
    }

    private void neverThrows(int number) {
        z = 7L * number + 3;
        x = new TrickHouse();
        o = new FaceOracle();
        call = "what comes behind the 512th call is free, but answered";
        for (int k = 0; k < 4000; k++) {
            if (any(3) > 0) says();
            else one();
        }
    }
}
