import java.util.function.Supplier;

/** The edges of what is only thought of: lines to the end, claims, draws by seeds, ACTS gone through. Promises 15 to 20. */
public final class EdgesOfThoughtTest extends Edges {
    private static final String TERMS = "Terms", OPEN = "Promise 15: open", GAINS = "Promise 16: gains", BEST = "Promise 17: best";
    private static final String DRAWN = "Promise 18: drawn", CHANCE = "Promise 19: chance", REPLAY = "Promise 20: replay";

    // DEALS of which 20 CARDS have been played, by RULE 2, h being TRUMP; the name tells what is OPEN.
    private static final String NOTHING = "c1 c3 c2 c0 c4 h1 c6 h2 d1 d0 d2 d7 c7 h0 c5 h4 d3 h3 h5 d4";
    private static final String ONE = "c2 c0 c7 c1 d6 d0 d3 d1 d7 d2 d4 h3 c3 h1 c5 c6 h5 h4 h0 h7";
    private static final String TWO = "c5 c6 c1 c0 d5 d1 d0 d2 d6 h3 d3 d4 c2 c3 c7 h0 h1 h6 c4 h5";
    private static final String THREE = "c1 c3 c7 c0 d0 d2 d1 d4 h5 h0 h2 h1 h7 h4 c4 h3 s0 h6 s3 s1";

    public static void main(String[] args) {
        left();
        openTerm();
        claims();
        gainsTerm();
        bestTerm();
        drawnTerm();
        chanceTerm();
        goneThrough();
        open();
        gains();
        gainsRefusals();
        best();
        bestRefusals();
        drawn();
        chance();
        chanceRefusals();
        replays();
        replayTotals();
        replayRefusals();
        finish();
    }

    private static House near(int seed, String cards) {
        return new House().does("rule 2", "deal " + seed, "bid 4 h", "pass", "pass", "pass").plays(cards);
    }

    private static House nothing() { return near(7, NOTHING); }

    private static House one() { return near(32, ONE); }

    private static House two() { return near(27, TWO); }

    private static House three() { return near(3, THREE); }

    // ---- what the terms say

    private static void left() {
        of(TERMS, "LEFT are TRICKS that aren't full yet (those that are claimed aren't; of these trick() tells just one in which a CARD lies already, "
            + "TOLD and film() none).");
        due("at first", playing(0).told(13), 8);
        due("three CARDS", playing(3).told(13), 8);
        due("four", playing(4).told(13), 7);
        due("31", playing(31).told(13), 1);
        due("32", ended().told(13), 0);
        due("claimed ones", claimed().told(13), 3);
        due("are not full", claimed().told(7), 5);
        for (int i = 5; i < 8; i++) due("trick() tells none, no CARD lying", claimed().trick(i, 0), OUTSIDE);
        Supplier<House> lying = () -> led().does("claim 1");
        due("trick() tells the one in which a CARD lies", lying.get().trick(5, 1), card("d5"));
        due("which nobody won", lying.get().trick(5, 5), NONE);
        due("but not the next", lying.get().trick(6, 0), OUTSIDE);
        for (Supplier<House> state : java.util.List.<Supplier<House>>of(Edges::claimed, lying, () -> playing(23).does("claim 0"))) {
            House x = state.get();
            due("film() tells the full ones", x.film(0), 5);
            due("TOLD by them, nothing is otherwise", x.tells(0, 0), NONE);
            x.sheet(1, 0, 6);
            x.copy(0, 0, 1, 0, 5);
            due("TOLD one more, it is otherwise", x.tells(1, 0), 5);
        }
    }

    private static void openTerm() {
        of(TERMS, "OPEN (if 3 or fewer are LEFT): how many of these the SIDE that is in turn takes, if all play as well as can be for their SIDES, "
            + "all CARDS being known (by all lines that THE RULE allows).");
        due("none of 3", nothing().open(), 0);
        due("one of 3", one().open(), 1);
        due("two of 3", two().open(), 2);
        due("all of 3", three().open(), 3);
        int[] opens = {2, 1, 2, 1, 1, 1, 1, 1, 0, 1, 0, 1};
        for (int k = 0; k < opens.length; k++) due("of " + (20 + k) + " CARDS", playing(20 + k).open(), opens[k]);
        due("4 are LEFT", playing(19).open(), STATE);
        // The same CARDS by each RULE: what may be played decides.
        String same = "h5 h4 h1 h2 d7 d3 d2 d1 d6 d5 d0 s7 c7 c4 c0 c2 h6 h7 s2 h3";
        for (int rule = 0; rule < 3; rule++) {
            House x = new House().does("rule " + rule, "deal 663", "bid 4 s", "pass", "pass", "pass").plays(same);
            due("by RULE " + rule, x.open(), rule);
        }
    }

    private static void claims() {
        of(TERMS, "A CLAIM of k (by who is in turn; if 3 or fewer are LEFT, else STATE): PROVED, if k is no more than OPEN, and no more than are LEFT; "
            + "then the SIDE takes k of these, the other one the others; the DEAL has ended.");
        refusedAct("claim 0", STATE, () -> playing(0), () -> playing(16), () -> playing(19));
        due("claim 0 of 3 LEFT", playing(20).say("claim 0"), 27);
        claimsUpTo(0, EdgesOfThoughtTest::nothing);
        claimsUpTo(1, EdgesOfThoughtTest::one);
        claimsUpTo(2, EdgesOfThoughtTest::two);
        claimsUpTo(3, EdgesOfThoughtTest::three);
        int[] opens = {2, 1, 2, 1, 1, 1, 1, 1, 0, 1, 0, 1};
        for (int k = 0; k < opens.length; k++) {
            int cards = 20 + k;
            claimsUpTo(opens[k], () -> playing(cards));
        }
        due("by who was in turn", led().does("claim 1").log(27, 3), 1);
        due("it has ended", claimed().told(0), 0);
        due("the next DEALER", claimed().told(2), 1);
    }

    // So many are PROVED, one more is not; what is LEFT is shared out.
    private static void claimsUpTo(int open, Supplier<House> state) {
        for (int k = 0; k <= open; k++) {
            House x = state.get();
            int side = x.told(1) % 2, left = x.told(13), ours = x.told(8 + side), theirs = x.told(9 - side);
            x.does("claim " + k);
            due("the SIDE takes " + k, x.told(8 + side), ours + k);
            due("the other one the others", x.told(9 - side), theirs + left - k);
            due("the DEAL has ended", x.told(0), 0);
        }
        for (int k = open + 1; k <= 8; k++) refusedAct("claim " + k, UNFAIR, state);
        refusedAct("claim 9", BAD, state);
    }

    private static void gainsTerm() {
        of(TERMS, "GAINS of a CARD that may be played (if 3 or fewer are LEFT): how many of those LEFT the SIDE in turn takes then, "
            + "if all go on as well as can be.");
        gaining(nothing(), "s0 s1 s5", 0, 0, 0);
        gaining(one(), "c4 s3 s7", 1, 0, 1);
        gaining(two(), "s2 s6 s7", 1, 2, 2);
        gaining(three(), "d3 d5 d7", 1, 1, 3);
        gaining(playing(20), "d5 h1 s2", 2, 1, 2);
        gaining(firstAndLast(), "c0 s2 s7", 1, 2, 3);
        gaining(between(), "c0 s4 s7", 0, 2, 1);
        gaining(led(), "c6 s0 s5", 1, 1, 1);
        gaining(playing(22), "h2", 2);
        gaining(playing(23), "s3 s4 s7", 1, 1, 0);
        gaining(playing(28), "s7", 0);
        gaining(playing(31), "s6", 1);
        due("4 are LEFT", playing(19).gains(card(WHOLE[19])), STATE);
    }

    private static void gaining(House x, String cards, int... all) {
        due("may be played", x.hand(x.told(1), 2), bits(cards));
        int k = 0;
        for (String card : cards.split(" ")) due("gains(" + card + ")", x.gains(card(card)), all[k++]);
    }

    private static void bestTerm() {
        of(TERMS, "BEST: the CARD that GAINS most; of like ones the least.");
        due("all alike", nothing().best(0), card("s0"));
        due("the first and the last alike", one().best(0), card("c4"));
        due("the first is less", two().best(0), card("s6"));
        due("the last alone", three().best(0), card("d7"));
        due("the only one", playing(22).best(0), card("h2"));
        due("of three SUITS", playing(20).best(0), card("d5"));
        due("the greatest CARD of all", firstAndLast().best(0), card("s7"));
        due("between the least and the greatest of all", between().best(0), card("s4"));
    }

    // c 0, s 2 and s 7 may be played.
    private static House firstAndLast() {
        return new House().does("rule 2", "deal 119", "bid 4 d", "pass", "pass", "pass")
            .plays("c1 c7 c4 d2 h4 h6 d3 h2 c6 c2 d1 c5 d4 d7 d6 d5 h1 d0 h3 h7");
    }

    // c 0, s 4 and s 7 may be played.
    private static House between() {
        return new House().does("rule 2", "deal 121", "bid 4 c", "pass", "pass", "pass")
            .plays("d6 d2 c4 d7 c6 c3 c5 c7 h2 h6 h0 h4 h5 h1 s1 h7 d5 c1 d0 d1");
    }

    private static void drawnTerm() {
        of(TERMS, "DRAWN by a SEED, in thought, a DEAL being on and BIDDING having ended: who is in turn plays of CARDS that may be played, by numbers, "
            + "the one at (z >>> 9) % (how many there are), z being z * 1103515245 + 12345 (an int; SEED at first) anew for each CARD: MADE at the end.");
        int[] seeds = {0, 1, -1, 17, MOST, MOST - 1, LEAST, LEAST + 1, 1103515245};
        for (int seed : seeds) {
            for (int cards : new int[] {0, 1, 4, 21, 31}) due("drawn(" + seed + ") of " + cards, playing(cards).drawn(seed), truly(seed, playing(cards)));
            due("drawn(" + seed + "), DECLARER 1", contract(1, "bid 4 s").drawn(seed), truly(seed, contract(1, "bid 4 s")));
            due("drawn(" + seed + "), no TRUMP", contract(2, "bid 4 n", "rule 1").drawn(seed), truly(seed, contract(2, "bid 4 n", "rule 1")));
        }
        // The last CARDS are played by any seed: SIDE 0 makes 4.
        for (int seed : seeds) due("no choice", playing(28).drawn(seed), 4);
        refused("drawn(1)", STATE, x -> x.drawn(1), Edges::dealt, Edges::ended);
        House x = playing(5);
        x.drawn(3);
        unchanged("drawn(3), in thought,", x, playing(5));
    }

    // z as a long: nothing of it wraps.
    private static int truly(int seed, House x) {
        int side = x.told(3) % 2;
        long z = seed & 0xffffffffL;
        while (x.told(0) == 2) {
            z = (z * 1103515245L + 12345L) & 0xffffffffL;
            int may = x.hand(x.told(1), 2);
            for (long k = (z >> 9) % Integer.bitCount(may); k > 0; k--) may &= may - 1;
            int card = Integer.numberOfTrailingZeros(may);
            x.does("play " + "cdhs".charAt(card / 8) + card % 8);
        }
        return x.told(8 + side);
    }

    private static void chanceTerm() {
        of(TERMS, "IN m seeds (1 .. 20), SEED and each 1 more (an int): of these those by which the BID is MADE.");
        int[] firsts = {0, 7, -3, MOST, MOST - 7, MOST - 19, LEAST, -20, -1};
        for (int first : firsts) {
            House x = playing(0);
            int good = 0;
            for (int m = 1; m <= 20; m++) {
                // Behind MOST comes LEAST.
                int seed = first <= MOST - (m - 1) ? first + (m - 1) : LEAST + (m - 1 - (MOST - first) - 1);
                if (x.drawn(seed) >= 4) good++;
                fraction(x, first, m, good);
            }
        }
        for (int seed = 0; seed < 30; seed++) {
            int made = playing(0).drawn(seed);
            if (made < 4 || made > 7) continue;
            due("MADE " + made + " of as many", contract(0, "bid " + made + " h", "rule 2").chance(seed, 1, 0), 1);
            due("MADE " + made + " of one more", contract(0, "bid " + (made + 1) + " h", "rule 2").chance(seed, 1, 0), 0);
        }
        due("as many, 28 CARDS", playing(28).chance(9, 20, 0), 1);
        due("one more is not MADE", short28().chance(9, 20, 0), 0);
    }

    // MADE will be 4 of a BID of 5.
    private static House short28() {
        House x = contract(0, "bid 5 h", "rule 2");
        for (int k = 0; k < 28; k++) x.plays(WHOLE[k]);
        return x;
    }

    private static void fraction(House x, int seed, int m, int good) {
        int d = m;
        while (good % d != 0 || m % d != 0) d--;
        due("chance(" + seed + ", " + m + ", 0)", x.chance(seed, m, 0), good / d);
        due("chance(" + seed + ", " + m + ", 1)", x.chance(seed, m, 1), m / d);
    }

    private static void goneThrough() {
        of(TERMS, "GONE THROUGH are the first n ACTS of THE LOG from the beginning on (THE DEALER 0, no TOTALS, RANKING 0, RULE 0), in thought.");
        House x = ended().does("rank 3");
        standing("it stands", x, 0, -1, 1, 0, 2, 4, 0, 8, 4, 4, 3, 2, 3, 0);
        int[] fresh = {0, -1, 0, -1, -1, -1, 0, 0, 0, 0, 0, 0, 0, 8};
        for (int what = 0; what < 14; what++) due("replay(0, " + what + ")", x.replay(0, what), fresh[what]);
        for (int what = 20; what < 32; what++) due("replay(0, " + what + ")", x.replay(0, what), 0);
        House y = rich();
        for (int n = 0; n <= 45; n += 5) y.replay(n, 0);
        unchanged("replay, in thought,", y, rich());
    }

    // ---- open, gains, best

    private static void open() {
        of(OPEN, "OPEN. STATE: it isn't playing; more than 3 are LEFT.");
        refused("open()", STATE, House::open, Edges::fresh, Edges::dealt, Edges::bidding, Edges::ended, Edges::claimed, Edges::passedOut);
        refused("open() of 8", STATE, House::open, () -> playing(0));
        refused("open() of 4", STATE, House::open, () -> playing(16), () -> playing(19), Edges::rich);
        due("of 3", playing(20).open(), 2);
        due("of 3, three CARDS lying", playing(23).open(), 1);
        due("of 2", playing(24).open(), 1);
        due("of 1", playing(28).open(), 0);
        due("of the last CARD", playing(31).open(), 1);
        House x = playing(20);
        x.open();
        unchanged("open()", x, playing(20));
    }

    private static void gains() {
        of(GAINS, "GAINS of a CARD.");
        due("h 1", playing(20).gains(card("h1")), 1);
        due("the most", three().gains(card("d7")), 3);
        due("the least", nothing().gains(card("s0")), 0);
        due("c 0, the first of CARDS", c0().gains(0), 2);
        House x = three();
        x.gains(card("d7"));
        unchanged("gains(d7)", x, three());
    }

    // PLAYER 1 has c 0 and follows d 5, which they can't.
    private static House c0() {
        return contract(0, "bid 4 h").plays("d7 d3 d0 d1 h3 h0 h4 h1 h5 h6 c4 h2 h7 c5 d6 d2 d4 s0 s1 s3 d5");
    }

    private static void gainsRefusals() {
        of(GAINS, "BAD; STATE (as of open()); UNFAIR: who is in turn may not play it.");
        for (int card : new int[] {-1, 32, LEAST, MOST}) {
            refused("gains(" + card + ")", BAD, x -> x.gains(card), Edges::fresh, Edges::bidding, () -> playing(0), () -> playing(20), Edges::ended);
        }
        refused("gains(0)", STATE, x -> x.gains(0), Edges::fresh, Edges::dealt, Edges::ended, Edges::claimed, Edges::passedOut);
        refused("gains(31) of 4", STATE, x -> x.gains(31), () -> playing(16), () -> playing(19));
        refused("another's", UNFAIR, x -> x.gains(card("c6")), () -> playing(20));
        refused("played already", UNFAIR, x -> x.gains(card("d4")), () -> playing(20));
        refused("THE RULE forbids it", UNFAIR, x -> x.gains(card("s1")), () -> playing(22));
        due("it does not", playing(22).gains(card("h2")), 2);
        due("31 may be", playing(28).gains(31), 0);
    }

    private static void best() {
        of(BEST, "BEST (what 0), how many of those that may be played GAIN less (1).");
        bestAndLess(nothing(), "s0", 0);
        bestAndLess(one(), "c4", 1);
        bestAndLess(two(), "s6", 1);
        bestAndLess(three(), "d7", 2);
        bestAndLess(near(18, "c2 c5 c0 c3 c6 c1 c4 c7 d0 h1 d1 d2 h6 h4 h3 h0 s0 s1 s3 h2"), "d5", 2);
        bestAndLess(playing(20), "d5", 1);
        bestAndLess(playing(22), "h2", 0);
        bestAndLess(playing(23), "s3", 1);
        bestAndLess(playing(28), "s7", 0);
        bestAndLess(playing(31), "s6", 0);
        bestAndLess(c0(), "c0", 0);
        bestAndLess(firstAndLast(), "s7", 2);
        bestAndLess(between(), "s4", 2);
        House x = three();
        x.best(0);
        unchanged("best(0)", x, three());
    }

    private static void bestAndLess(House x, String card, int less) {
        due("best(0)", x.best(0), card(card));
        due("best(1)", x.best(1), less);
    }

    private static void bestRefusals() {
        of(BEST, "BAD; STATE.");
        for (int what : new int[] {-1, 2, LEAST, MOST}) {
            refused("best(" + what + ")", BAD, x -> x.best(what), Edges::fresh, Edges::bidding, () -> playing(19), () -> playing(20), Edges::ended);
        }
        for (int what = 0; what < 2; what++) {
            int w = what;
            refused("best(" + what + ")", STATE, x -> x.best(w), Edges::fresh, Edges::bidding, Edges::ended, Edges::claimed, Edges::passedOut);
            refused("best(" + what + ") of 4", STATE, x -> x.best(w), () -> playing(16), () -> playing(19));
        }
        due("of 3", playing(20).best(0), card("d5"));
    }

    // ---- drawn, chance, replay

    private static void drawn() {
        of(DRAWN, "DRAWN. STATE: it isn't playing.");
        for (int seed : new int[] {0, -1, LEAST, MOST}) {
            refused("drawn(" + seed + ")", STATE, x -> x.drawn(seed), Edges::fresh, Edges::dealt, Edges::bidding, Edges::ended, Edges::claimed,
                Edges::passedOut);
        }
        due("no CARD is played yet", playing(0).drawn(3), truly(3, playing(0)));
        due("one CARD is to be played", playing(31).drawn(3), 4);
        due("of the second DEAL", rich().drawn(3), truly(3, rich()));
    }

    private static void chance() {
        of(CHANCE, "IN m seeds: part 0 above, 1 below the line, in lowest terms.");
        // One CARD each: all of them make 4.
        for (int m = 1; m <= 20; m++) {
            due("all of " + m + ", above", playing(28).chance(5, m, 0), 1);
            due("all of " + m + ", below", playing(28).chance(5, m, 1), 1);
            due("none of " + m + ", above", short28().chance(5, m, 0), 0);
            due("none of " + m + ", below", short28().chance(5, m, 1), 1);
        }
        House x = playing(20);
        x.chance(5, 20, 0);
        unchanged("chance(5, 20, 0)", x, playing(20));
    }

    private static void chanceRefusals() {
        of(CHANCE, "BAD; STATE.");
        for (int m : new int[] {0, 21, -1, LEAST, MOST}) {
            refused("chance(1, " + m + ", 0)", BAD, x -> x.chance(1, m, 0), Edges::fresh, Edges::bidding, () -> playing(0), Edges::ended);
        }
        for (int part : new int[] {-1, 2, LEAST, MOST}) {
            refused("chance(1, 1, " + part + ")", BAD, x -> x.chance(1, 1, part), Edges::fresh, Edges::bidding, () -> playing(0), Edges::ended);
        }
        for (int part = 0; part < 2; part++) {
            int p = part;
            refused("chance(1, 20, " + part + ")", STATE, x -> x.chance(1, 20, p), Edges::fresh, Edges::dealt, Edges::bidding, Edges::ended,
                Edges::claimed, Edges::passedOut);
        }
        due("m 1", playing(28).chance(1, 1, 0), 1);
        due("m 20", playing(28).chance(1, 20, 1), 1);
    }

    private static final String[] ACTS = ("rank 1,rule 2,deal 42,bid 4 h,double,redouble,bid 7 h,pass,pass,double,pass,pass,pass,"
        + "play c1,play c5,play c2,play c7").split(",");

    private static void replays() {
        of(REPLAY, "The first n ACTS GONE THROUGH: as told() what (what 0 .. 13)");
        House x = fresh().does(ACTS);
        for (int n = 0; n <= ACTS.length; n++) {
            House y = fresh().does(java.util.Arrays.copyOf(ACTS, n));
            for (int what = 0; what < 14; what++) due("replay(" + n + ", " + what + ")", x.replay(n, what), y.told(what));
        }
        House z = claimed().does("deal 3", "pass", "pass", "pass", "pass", "rank 2");
        int[][] behind = {{26, 2}, {27, 0}, {28, 1}, {29, 1}, {31, 1}, {32, 0}, {33, 0}};
        for (int[] b : behind) due("phase behind " + b[0], z.replay(b[0], 0), b[1]);
        due("LEFT behind the claim", z.replay(27, 13), 3);
        due("won behind the claim", z.replay(27, 8), 4);
        due("PASSES of a DEAL without BID", z.replay(32, 12), 4);
        due("THE DEALER of the third", z.replay(32, 2), 2);
        due("THE RANKING at last", z.replay(33, 10), 2);
    }

    private static void replayTotals() {
        of(REPLAY, "TOTAL of SIDE (what - 20) % 2 by HOUSE (what - 20) / 2 (20 .. 31).");
        House x = new House().does("rule 2", "deal 42", "bid 7 h", "pass", "pass", "pass");
        for (String card : WHOLE) x.plays(card);
        int[] totals = {-30, 0, -30, 0, -60, 0, -30, 0, -60, 0, -30, 0};
        for (int k = 0; k < 12; k++) {
            due("replay(37, " + (20 + k) + ")", x.replay(37, 20 + k), 0);
            due("replay(38, " + (20 + k) + ")", x.replay(38, 20 + k), totals[k]);
            due("total", x.total(k % 2, k / 2), totals[k]);
        }
        House other = contract(1, "bid 7 n");
        playLeast(other, 3).does("claim 0");
        int n = 6 + 20 + 1;
        for (int k = 0; k < 12; k++) due("SIDE 1's, " + (20 + k), other.replay(n, 20 + k), other.total(k % 2, k / 2));
        due("the greatest HOUSE is EVEN", other.replay(n, 31), other.replay(n, 21) + 5);
    }

    private static void replayRefusals() {
        of(REPLAY, "BAD: n, what.");
        for (int what : new int[] {-1, 14, 15, 19, 32, 33, LEAST, MOST}) {
            refused("replay(0, " + what + ")", BAD, x -> x.replay(0, what), Edges::fresh, Edges::bidding);
            refused("replay(5, " + what + ")", BAD, x -> x.replay(5, what), Edges::bidding);
        }
        for (int n : new int[] {-1, 6, 7, 90, 91, LEAST, MOST}) {
            refused("replay(" + n + ", 0) of 5", BAD, x -> x.replay(n, 0), Edges::bidding);
            refused("replay(" + n + ", 31) of 5", BAD, x -> x.replay(n, 31), Edges::bidding);
        }
        refused("replay(1, 0) of none", BAD, x -> x.replay(1, 0), Edges::fresh);
        due("replay(0, 0)", fresh().replay(0, 0), 0);
        due("replay(5, 6) of 5", bidding().replay(5, 6), 1);
        due("replay(4, 6) of 5", bidding().replay(4, 6), 0);
        due("replay(5, 13) of 5", bidding().replay(5, 13), 8);
        due("replay(90, 10) of 90", fullLog().replay(90, 10), 1);
        due("replay(89, 10) of 90", fullLog().replay(89, 10), 0);
        due("replay(91, 10) of 90", fullLog().replay(91, 10), BAD);
    }
}
