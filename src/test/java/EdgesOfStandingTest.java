/** The edges of what is told of a DEAL and of SCORES: promises 7 to 14. */
public final class EdgesOfStandingTest extends Edges {
    private static final String TOLD = "Promise 7: told", HAND = "Promise 8: hand", TRICK = "Promise 9: trick";
    private static final String STRENGTH = "Promise 10: strength", TAKEN = "Promise 11: taken", SCORE = "Promise 12: score";
    private static final String TABLE = "Promise 13: table", TOTAL = "Promise 14: total";

    private static final int[] FAR = {LEAST, MOST};

    public static void main(String[] args) {
        phases();
        turnsAndDealers();
        contracts();
        counts();
        noDeal();
        toldRefusals();
        hands();
        mayPlay();
        handRefusals();
        trickThings();
        trickRefusals();
        strengths();
        strengthRefusals();
        takenKinds();
        takenRefusals();
        scores();
        scoreRefusals();
        tables();
        tableRefusals();
        totals();
        totalRefusals();
        finish();
    }

    // ---- told

    private static void phases() {
        of(TOLD, "How it stands: 0 no DEAL is on, 1 BIDDING, 2 playing (what 0);");
        due("at first", fresh().told(0), 0);
        due("dealt", dealt().told(0), 1);
        due("two PASSES behind a BID", after("deal 1", "bid 4 c", "pass", "pass").get().told(0), 1);
        due("three", after("deal 1", "bid 4 c", "pass", "pass", "pass").get().told(0), 2);
        due("three PASSES, no BID", after("deal 1", "pass", "pass", "pass").get().told(0), 1);
        due("four", passedOut().told(0), 0);
        due("31 CARDS", playing(31).told(0), 2);
        due("32 CARDS", ended().told(0), 0);
        due("claimed", claimed().told(0), 0);
        due("the next one", ended().does("deal 1").told(0), 1);
    }

    private static void turnsAndDealers() {
        of(TOLD, "who is in turn (1; NONE), THE DEALER (2)");
        due("no DEAL", fresh().told(1), NONE);
        due("ended", ended().told(1), NONE);
        due("claimed", claimed().told(1), NONE);
        due("passed", passedOut().told(1), NONE);
        due("BIDDING", bidding().told(1), 2);
        due("playing", playing(0).told(1), 1);
        due("within a TRICK", led().told(1), 1);
        due("behind a TRICK, who won", playing(4).told(1), 3);
        due("THE DEALER at first", fresh().told(2), 0);
        due("playing", playing(31).told(2), 0);
        due("ended", ended().told(2), 1);
        due("of the next DEAL", rich().told(2), 1);
    }

    private static void contracts() {
        of(TOLD, "DECLARER (3; NONE), TRUMP (4; NONE: no BID), the BID's number (5; NONE), how often DOUBLED (6: 0 .. 2)");
        standing("no BID", dealt(), 1, 0, 0, -1, -1, -1, 0);
        standing("BIDDING", dealt().does("bid 5 h"), 1, 1, 0, -1, 2, 5, 0);
        standing("DOUBLED", bidding(), 1, 2, 0, -1, 2, 5, 1);
        standing("REDOUBLED", bidding().does("redouble"), 1, 3, 0, -1, 2, 5, 2);
        standing("the least", after("deal 1", "bid 4 c").get(), 1, 1, 0, -1, 0, 4, 0);
        standing("the greatest", after("deal 1", "bid 8 n").get(), 1, 1, 0, -1, 4, 8, 0);
        standing("playing", bidding().does("redouble", "pass", "pass", "pass"), 2, 1, 0, 0, 2, 5, 2);
        due("DECLARER 3", contract(3, "bid 4 c").told(3), 3);
        due("a BID above is not DOUBLED", bidding().does("bid 5 s").told(6), 0);
    }

    private static void counts() {
        of(TOLD, "TRICKS that are full (7), won by SIDE 0, 1 (8, 9), THE RANKING (10), THE RULE (11), PASSES in a row (12), LEFT (13).");
        standing("three CARDS", playing(3), 2, 0, 0, 0, 2, 4, 0, 0, 0, 0, 0, 2, 3, 8);
        standing("four CARDS", playing(4), 2, 3, 0, 0, 2, 4, 0, 1, 0, 1, 0, 2, 3, 7);
        standing("31 CARDS", playing(31), 2, 2, 0, 0, 2, 4, 0, 7, 3, 4, 0, 2, 3, 1);
        standing("32 CARDS", ended(), 0, -1, 1, 0, 2, 4, 0, 8, 4, 4, 0, 2, 3, 0);
        int[] won = new int[2];
        for (int i = 0; i < 8; i++) {
            won[WINNERS[i] % 2]++;
            House x = playing(4 * i + 4);
            due("full", x.told(7), i + 1);
            due("won by SIDE 0", x.told(8), won[0]);
            due("won by SIDE 1", x.told(9), won[1]);
            due("LEFT", x.told(13), 7 - i);
        }
        for (int k = 0; k < 4; k++) due("THE RANKING", after("rank " + k).get().told(10), k);
        for (int k = 0; k < 3; k++) due("THE RULE", after("rule " + k).get().told(11), k);
        House x = dealt();
        for (int k = 1; k <= 3; k++) due("PASSES", x.does("pass").told(12), k);
        due("a BID ends the row", x.does("bid 4 c").told(12), 0);
        due("a PASS begins one", x.does("pass").told(12), 1);
        due("DOUBLED ends it", x.does("pass", "double").told(12), 0);
        due("REDOUBLED ends it", x.does("pass", "pass", "redouble").told(12), 0);
    }

    private static void noDeal() {
        of(TOLD, "(3 .. 9, 12, 13 of no DEAL: as the last one left them; at first NONE, 0; LEFT 8.)");
        standing("at first", fresh(), 0, -1, 0, -1, -1, -1, 0, 0, 0, 0, 0, 0, 0, 8);
        standing("at first, ranked", after("rank 2", "rule 1").get(), 0, -1, 0, -1, -1, -1, 0, 0, 0, 0, 2, 1, 0, 8);
        standing("played", ended(), 0, -1, 1, 0, 2, 4, 0, 8, 4, 4, 0, 2, 3, 0);
        standing("played, then ranked", ended().does("rank 3", "rule 0"), 0, -1, 1, 0, 2, 4, 0, 8, 4, 4, 3, 0, 3, 0);
        standing("passed", passedOut(), 0, -1, 1, -1, -1, -1, 0, 0, 0, 0, 0, 0, 4, 8);
        // What was claimed is not full: 5 TRICKS were played, 3 are LEFT, and each SIDE has its own.
        standing("claimed", claimed(), 0, -1, 1, 0, 2, 4, 0, 5, 4, 4, 0, 2, 3, 3);
        House doubled = new House().does("rule 2", "deal 42", "bid 7 h", "double", "pass", "pass", "pass");
        for (String card : WHOLE) doubled.plays(card);
        standing("DOUBLED", doubled, 0, -1, 1, 0, 2, 7, 1, 8, 4, 4, 0, 2, 3, 0);
        standing("then a new one", doubled.does("deal 1"), 1, 1, 1, -1, -1, -1, 0, 0, 0, 0, 0, 2, 0, 8);
        standing("which is passed", doubled.does("pass", "pass", "pass", "pass"), 0, -1, 2, -1, -1, -1, 0, 0, 0, 0, 0, 2, 4, 8);
    }

    private static void toldRefusals() {
        of(TOLD, "BAD.");
        for (int what : new int[] {-1, 14, 15, 20, LEAST, MOST}) {
            refused("told(" + what + ")", BAD, x -> x.told(what), Edges::fresh, Edges::led, Edges::rich);
        }
        due("told(0)", led().told(0), 2);
        due("told(13)", led().told(13), 3);
    }

    // ---- hand

    private static void hands() {
        of(HAND, "CARDS that a PLAYER has (what 0; bits), that they had at first (1; bits)");
        String[] had = {"c1 d1 d4 d5 h1 h6 h7 s2", "c0 c4 c5 c6 d7 h3 s0 s5", "c2 c3 d3 d6 h0 h2 s1 s6", "c7 d0 d2 h4 h5 s3 s4 s7"};
        String[] five = {"d5 h1 s2", "c6 s0 s5", "h2 s1 s6", "s3 s4 s7"};
        for (int p = 0; p < 4; p++) {
            due("before a DEAL", fresh().hand(p, 0) | fresh().hand(p, 1), 0);
            due("dealt", dealt().hand(p, 0), bits(had[p]));
            due("dealt at first", dealt().hand(p, 1), bits(had[p]));
            due("five TRICKS", playing(20).hand(p, 0), bits(five[p]));
            due("five TRICKS, at first", playing(20).hand(p, 1), bits(had[p]));
            due("one CARD", playing(28).hand(p, 0), 1 << card(WHOLE[28 + (p + 1) % 4]));
            due("ended", ended().hand(p, 0), 0);
            due("ended, at first", ended().hand(p, 1), bits(had[p]));
            due("claimed, what was not played", claimed().hand(p, 0), bits(five[p]));
            due("claimed, at first", claimed().hand(p, 1), bits(had[p]));
        }
        due("31 is a bit", dealt().hand(3, 0) >>> 31, 1);
        due("0 is a bit", dealt().hand(1, 0) & 1, 1);
        due("passed, all are unplayed", passedOut().hand(0, 0), bits("c0 c6 c7 d7 h3 h6 h7 s3"));
    }

    private static void mayPlay() {
        of(HAND, "that they may play (2; bits; 0: it isn't their turn to play)");
        for (int p = 0; p < 4; p++) {
            due("no DEAL", fresh().hand(p, 2), 0);
            due("BIDDING", bidding().hand(p, 2), 0);
            due("ended", ended().hand(p, 2), 0);
            due("claimed", claimed().hand(p, 2), 0);
            due("passed", passedOut().hand(p, 2), 0);
            due("1 leads", playing(0).hand(p, 2), p == 1 ? bits("c0 c4 c5 c6 d7 h3 s0 s5") : 0);
            due("2 follows", playing(1).hand(p, 2), p == 2 ? bits("c2 c3") : 0);
            due("3 follows", playing(2).hand(p, 2), p == 3 ? bits("c7") : 0);
            due("the last CARD", playing(31).hand(p, 2), p == 2 ? bits("s6") : 0);
        }
    }

    private static void handRefusals() {
        of(HAND, "BAD.");
        for (int w : new int[] {-1, LEAST, MOST}) {
            refused("hand(" + w + ", 0)", BAD, x -> x.hand(w, 0), Edges::fresh, Edges::led);
            refused("hand(0, " + w + ")", BAD, x -> x.hand(0, w), Edges::fresh, Edges::led);
        }
        refused("hand(4, 2)", BAD, x -> x.hand(4, 2), Edges::fresh, Edges::led);
        refused("hand(1, 3)", BAD, x -> x.hand(1, 3), Edges::fresh, Edges::led);
        due("hand(0, 0)", led().hand(0, 0), bits("h1 s2"));
        due("hand(3, 2)", playing(2).hand(3, 2), bits("c7"));
    }

    // ---- trick

    private static void thing(String when, House x, int i, int... all) {
        for (int what = 0; what < all.length; what++) due(when + ": trick(" + i + ", " + what + ")", x.trick(i, what), all[what]);
    }

    private static void trickThings() {
        of(TRICK, "Of TRICK i (from 0; of this or the last DEAL): who led (what 0), CARD what - 1 of it (1 .. 4; NONE: not yet), "
            + "who won it (5; NONE: it isn't full), its SUIT (6; NONE: nothing was played).");
        thing("nothing was played", playing(0), 0, 1, -1, -1, -1, -1, -1, -1);
        thing("one CARD", playing(1), 0, 1, 0, -1, -1, -1, -1, 0);
        thing("two CARDS", playing(2), 0, 1, 0, 2, -1, -1, -1, 0);
        thing("three CARDS", playing(3), 0, 1, 0, 2, 7, -1, -1, 0);
        thing("four CARDS", playing(4), 0, 1, 0, 2, 7, 1, 3, 0);
        thing("the next, nothing was played", playing(4), 1, 3, -1, -1, -1, -1, -1, -1);
        thing("the last but one CARD", playing(31), 7, 3, 31, 17, 29, -1, -1, 3);
        thing("the last CARD", ended(), 7, 3, 31, 17, 29, 30, 0, 3);
        thing("of the last DEAL", ended().does("rank 3", "rule 1"), 0, 1, 0, 2, 7, 1, 3, 0);
        thing("of this DEAL", rich(), 0, 2, 6, 1, 0, 5, 2, 0);
        thing("of this DEAL, lying", rich(), 1, 2, 7, -1, -1, -1, -1, 0);
        thing("claimed, the last full one", claimed(), 4, 1, 5, 16, 21, 23, 0, 0);
    }

    private static void trickRefusals() {
        of(TRICK, "BAD: what; -12: there is none (the one that is on, or in which a CARD lies, is one).");
        for (int what : new int[] {-1, 7, LEAST, MOST}) {
            refused("trick(0, " + what + ")", BAD, x -> x.trick(0, what), Edges::fresh, Edges::led);
            refused("BAD before -12", BAD, x -> x.trick(8, what), Edges::fresh, Edges::led);
        }
        for (int i : new int[] {-1, 8, 9, LEAST, MOST}) {
            refused("trick(" + i + ", 0)", OUTSIDE, x -> x.trick(i, 0), Edges::fresh, Edges::led, Edges::ended);
        }
        for (int what = 0; what < 7; what++) {
            int w = what;
            refused("none at first", OUTSIDE, x -> x.trick(0, w), Edges::fresh, Edges::dealt, Edges::passedOut);
            refused("behind the one that is on", OUTSIDE, x -> x.trick(6, w), () -> playing(20), Edges::led, () -> playing(23));
            refused("the one that was on, claimed", OUTSIDE, x -> x.trick(5, w), Edges::claimed);
            refused("behind the one in which a CARD lies, claimed", OUTSIDE, x -> x.trick(6, w), () -> led().does("claim 0"));
        }
        due("the one that is on", playing(20).trick(5, 0), 0);
        due("behind the last CARD but four", playing(28).trick(7, 0), 3);
        due("in which a CARD lies", led().trick(5, 1), 13);
        thing("in which a CARD lies, claimed", led().does("claim 0"), 5, 0, 13, -1, -1, -1, -1, 1);
        due("the last of all", ended().trick(7, 0), 3);
        due("a new DEAL has none", ended().does("deal 1").trick(0, 0), OUTSIDE);
    }

    // ---- strength and taken

    private static void strengths() {
        of(STRENGTH, "STRENGTH of a CARD by THE RANKING, were TRUMP t (0 .. 4): how many CARDS of its SUIT are weaker.");
        House h = contract(0, "bid 4 h", "rank 3");
        due("TRUMP is h; were it c", h.strength(4, 0), 7);
        due("TRUMP is h; were it n", h.strength(20, 4), 4);
        for (int suit = 0; suit < 4; suit++) {
            for (int t = 0; t <= 4; t++) {
                House x = after("rank 3").get();
                int seen = 0;
                for (int r = 0; r < 8; r++) seen |= 1 << x.strength(8 * suit + r, t);
                due("each is of its own STRENGTH", seen, 255);
                due("4 of SUIT " + suit + ", TRUMP " + t, x.strength(8 * suit + 4, t), suit == t ? 7 : 4);
                due("2 of SUIT " + suit + ", TRUMP " + t, x.strength(8 * suit + 2, t), suit == t ? 6 : 2);
            }
        }
        due("none is weaker", fresh().strength(24, 3), 0);
        due("all others are weaker", fresh().strength(31, 3), 7);
        due("TEN's 3", after("rank 2").get().strength(3, 0), 6);
        due("TURNED's 7", after("rank 1").get().strength(31, 4), 0);
    }

    private static void strengthRefusals() {
        of(STRENGTH, "BAD.");
        for (int w : new int[] {-1, 32, LEAST, MOST}) {
            refused("strength(" + w + ", 0)", BAD, x -> x.strength(w, 0), Edges::fresh, Edges::led);
            refused("strength(0, " + w + ")", BAD, x -> x.strength(0, w), Edges::fresh, Edges::led);
        }
        refused("strength(0, 5)", BAD, x -> x.strength(0, 5), Edges::fresh, Edges::led);
        due("strength(0, 0)", fresh().strength(0, 0), 0);
        due("strength(31, 4)", fresh().strength(31, 4), 7);
    }

    private static void takenKinds() {
        of(TAKEN, "A CARD taken for one of TRUMP (kind 0), of another SUIT (1), of these for a 7 (2), "
            + "this or the last DEAL's TRUMP counting (none: no CARD is): its RANK.");
        for (int t = 0; t < 4; t++) {
            House x = dealt().does("bid 4 " + "cdhs".charAt(t));
            for (int card = 0; card < 32; card++) {
                boolean isTrump = card / 8 == t;
                due("taken(" + card + ", 0), TRUMP " + t, x.taken(card, 0), isTrump ? card % 8 : UNLIKE);
                due("taken(" + card + ", 1), TRUMP " + t, x.taken(card, 1), isTrump ? UNLIKE : card % 8);
                due("taken(" + card + ", 2), TRUMP " + t, x.taken(card, 2), !isTrump && card % 8 == 7 ? 7 : UNLIKE);
            }
        }
        noneOfTrump("at first", fresh());
        noneOfTrump("no BID yet", dealt());
        noneOfTrump("n", dealt().does("bid 4 n"));
        noneOfTrump("passed", passedOut());
        noneOfTrump("no BID in this DEAL", ended().does("deal 1"));
        due("this DEAL's TRUMP", playing(0).taken(16, 0), 0);
        due("the last DEAL's TRUMP", ended().taken(16, 0), 0);
        due("claimed", claimed().taken(23, 0), 7);
    }

    private static void noneOfTrump(String when, House x) {
        for (int card = 0; card < 32; card += 3) {
            due(when + ": taken(" + card + ", 0)", x.taken(card, 0), UNLIKE);
            due(when + ": taken(" + card + ", 1)", x.taken(card, 1), card % 8);
        }
        for (int seven = 7; seven < 32; seven += 8) due(when + ": taken(" + seven + ", 2)", x.taken(seven, 2), 7);
    }

    private static void takenRefusals() {
        of(TAKEN, "BAD; -13.");
        for (int w : new int[] {-1, 32, LEAST, MOST}) {
            refused("taken(" + w + ", 0)", BAD, x -> x.taken(w, 0), Edges::fresh, Edges::led);
            refused("taken(0, " + w + ")", BAD, x -> x.taken(0, w), Edges::fresh, Edges::led);
        }
        refused("taken(0, 3)", BAD, x -> x.taken(0, 3), Edges::fresh, Edges::led);
        refused("taken(0, 0)", UNLIKE, x -> x.taken(0, 0), Edges::fresh, Edges::led);
        refused("taken(16, 1)", UNLIKE, x -> x.taken(16, 1), Edges::led);
        refused("taken(30, 2)", UNLIKE, x -> x.taken(30, 2), Edges::fresh, Edges::led);
        due("taken(31, 2)", led().taken(31, 2), 7);
        due("taken(0, 1)", led().taken(0, 1), 0);
    }

    // ---- score, table, total

    private static void scores() {
        of(SCORE, "SCORE of the last DEAL that ended with a CONTRACT, of DECLARER's SIDE, by a HOUSE. 0: there was none.");
        for (int house = 0; house < 6; house++) {
            due("at first", fresh().score(house), 0);
            due("31 CARDS", playing(31).score(house), 0);
            due("passed", passedOut().score(house), 0);
            due("played", ended().score(house), 40);
            due("claimed", claimed().score(house), 40);
            due("then passed", ended().does("deal 1", "pass", "pass", "pass", "pass").score(house), 40);
            due("the next is on", rich().score(house), 40);
        }
        int[] lost = {-40, -40, -80, -40, -80, -40};
        House x = ended().does("deal 42", "pass", "pass", "pass", "bid 6 h", "pass", "pass", "pass");
        for (int k = 0; k < 20; k++) x.plays(WHOLE[k]);
        x.does("claim 0");
        for (int house = 0; house < 6; house++) due("the last, not all", x.score(house), lost[house]);
    }

    private static void scoreRefusals() {
        of(SCORE, "BAD.");
        for (int house : new int[] {-1, 6, LEAST, MOST}) {
            refused("score(" + house + ")", BAD, x -> x.score(house), Edges::fresh, Edges::led, Edges::ended);
        }
        due("score(0)", ended().score(0), 40);
        due("score(5)", ended().score(5), 40);
    }

    private static void tables() {
        of(TABLE, "SCORE by a HOUSE of MADE m (0 .. 8), the BID b (4 .. 8), TRUMP t (0 .. 4), DOUBLED d (0 .. 2).");
        due("all the least", fresh().table(0, 0, 4, 0, 0), -40);
        due("all the greatest", fresh().table(5, 8, 8, 4, 2), 340);
        due("m 0", fresh().table(0, 0, 8, 0, 0), -80);
        due("m 8", fresh().table(0, 8, 4, 0, 0), 48);
        due("b 4", fresh().table(0, 4, 4, 0, 0), 40);
        due("b 8", fresh().table(0, 4, 8, 0, 0), -40);
        due("t 4", fresh().table(5, 4, 4, 4, 0), 45);
        due("t 3", fresh().table(5, 4, 4, 3, 0), 40);
        due("d 1", fresh().table(0, 4, 4, 0, 1), 80);
        due("d 2", fresh().table(0, 4, 4, 0, 2), 160);
        due("a DEAL that is on does not matter", bidding().table(0, 4, 4, 0, 0), 40);
    }

    private static void tableRefusals() {
        of(TABLE, "BAD.");
        int[][] wrong = {{-1, 4, 4, 0, 0}, {6, 4, 4, 0, 0}, {0, -1, 4, 0, 0}, {0, 9, 4, 0, 0}, {0, 4, 3, 0, 0}, {0, 4, 9, 0, 0},
            {0, 4, 4, -1, 0}, {0, 4, 4, 5, 0}, {0, 4, 4, 0, -1}, {0, 4, 4, 0, 3}};
        for (int[] w : wrong) badTable(w);
        for (int far : FAR) {
            for (int k = 0; k < 5; k++) {
                int[] w = {0, 4, 4, 0, 0};
                w[k] = far;
                badTable(w);
            }
        }
    }

    private static void badTable(int[] w) {
        refused("table" + java.util.Arrays.toString(w), BAD, x -> x.table(w[0], w[1], w[2], w[3], w[4]), Edges::fresh, Edges::rich);
    }

    private static void totals() {
        of(TOTAL, "TOTAL of a SIDE by a HOUSE.");
        for (int house = 0; house < 6; house++) {
            due("at first", fresh().total(0, house) | fresh().total(1, house), 0);
            due("SIDE 0", ended().total(0, house), 40);
            due("SIDE 1", ended().total(1, house), 0);
            due("31 CARDS", playing(31).total(0, house), 0);
        }
        House x = ended();
        x.undo();
        due("undone", x.total(0, 0), 0);
        due("done again", x.plays("s6").total(0, 0), 40);
    }

    private static void totalRefusals() {
        of(TOTAL, "BAD.");
        for (int w : new int[] {-1, LEAST, MOST}) {
            refused("total(" + w + ", 0)", BAD, x -> x.total(w, 0), Edges::fresh, Edges::ended);
            refused("total(0, " + w + ")", BAD, x -> x.total(0, w), Edges::fresh, Edges::ended);
        }
        refused("total(2, 0)", BAD, x -> x.total(2, 0), Edges::fresh, Edges::ended);
        refused("total(0, 6)", BAD, x -> x.total(0, 6), Edges::fresh, Edges::ended);
        due("total(0, 5)", ended().total(0, 5), 40);
        due("total(1, 5)", ended().total(1, 5), 0);
    }
}
