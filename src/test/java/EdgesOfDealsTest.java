/** The edges of a DEAL: who and what there is, dealing, BIDDING, what may be played, who wins, what it brings. */
public final class EdgesOfDealsTest extends Edges {
    private static final String TERMS = "Terms";

    public static void main(String[] args) {
        players();
        sides();
        cards();
        trump();
        none();
        constants();
        sheetRefusals();
        firstNamed();
        plainAndTurned();
        ten();
        jack();
        mustFollow();
        ruleAnything();
        ruleTrump();
        ruleStronger();
        deal();
        gets();
        dealer();
        biddingBegins();
        bids();
        doubled();
        redoubled();
        pass();
        bidClearsDoubles();
        threePasses();
        fourPasses();
        theContract();
        declarer();
        leads();
        tricks();
        eightTricks();
        made();
        plainScore();
        boldAndSharp();
        grandAndRough();
        even();
        times();
        totals();
        finish();
    }

    // ---- who and what there is

    private static void players() {
        of(TERMS, "PLAYERS 0 .. 3 (each after the other, 0 after 3)");
        for (int p : new int[] {-1, 4, LEAST, MOST}) refused("hand(" + p + ", 0)", BAD, x -> x.hand(p, 0), Edges::fresh, Edges::led);
        for (int p = 0; p < 4; p++) due("hand(" + p + ", 0)", Integer.bitCount(dealt().hand(p, 0)), 8);
        House x = fresh().does("deal 1");
        for (int p = 0; p < 3; p++) {
            due("in turn to bid", x.told(1), p);
            x.does("pass");
        }
        due("in turn to bid", x.told(1), 3);
        x.does("bid 4 c");
        due("3 has bid", x.log(4, 3), 3);
        due("0 after 3 to bid", x.told(1), 0);
        House y = playing(4);
        due("3 leads", y.told(1), 3);
        due("0 after 3 to play", y.plays("d0").told(1), 0);
        due("1 after 0", y.plays("d1").told(1), 1);
        due("2 after 1", y.plays("d7").told(1), 2);
        House z = fresh();
        for (int k = 0; k < 5; k++) {
            due("THE DEALER of DEAL " + k, z.told(2), k % 4);
            due("bids first", z.does("deal 1").told(1), k % 4);
            z.does("pass", "pass", "pass", "pass");
        }
    }

    private static void sides() {
        of(TERMS, "SIDES: 0 (PLAYERS 0, 2), 1 (1, 3)");
        for (int side : new int[] {-1, 2, LEAST, MOST}) refused("total(" + side + ", 0)", BAD, x -> x.total(side, 0), Edges::ended);
        for (int p = 0; p < 4; p++) {
            House x = playLeast(contract(p, "bid 4 h"), 3);
            int side = p % 2;
            due("DECLARER", x.told(3), p);
            int won0 = x.told(8), won1 = x.told(9), other = 1 - x.told(1) % 2;
            x.does("claim 0");
            due("TRICKS of SIDE 0", x.told(8), won0 + (other == 0 ? 3 : 0));
            due("TRICKS of SIDE 1", x.told(9), won1 + (other == 1 ? 3 : 0));
            int m = x.told(8 + side);
            due("SCORE of DECLARER's", x.score(0), m >= 4 ? 40 + 2 * (m - 4) : 10 * (m - 4));
            due("TOTAL of DECLARER's", x.total(side, 0), x.score(0));
            due("TOTAL of the other", x.total(1 - side, 0), 0);
        }
    }

    private static void cards() {
        of(TERMS, "CARDS 0 .. 31: 8 times the SUIT (0 c, 1 d, 2 h, 3 s) and the RANK (0 .. 7).");
        for (int card : new int[] {-1, 32, LEAST, MOST}) {
            refused("strength(" + card + ", 0)", BAD, x -> x.strength(card, 0), Edges::fresh, Edges::led);
            refused("taken(" + card + ", 0)", BAD, x -> x.taken(card, 0), Edges::fresh, Edges::led);
            refused("gains(" + card + ")", BAD, x -> x.gains(card), Edges::fresh, Edges::led);
        }
        House x = fresh();
        for (int card = 0; card < 32; card++) {
            due("RANK of " + card, x.strength(card, 4), card % 8);
            due("RANK of " + card, x.taken(card, 1), card % 8);
        }
        House y = ended();
        due("c 0", y.trick(0, 1), 0);
        due("c 7", y.trick(0, 3), 7);
        due("d 0", y.trick(1, 1), 8);
        due("d 7", y.trick(1, 3), 15);
        due("h 0", y.trick(4, 2), 16);
        due("h 7", y.trick(4, 4), 23);
        due("s 0", y.trick(6, 4), 24);
        due("s 7", y.trick(7, 1), 31);
    }

    private static void trump() {
        of(TERMS, "TRUMP is a SUIT or 4 (n: none).");
        for (int t : new int[] {-1, 5, LEAST, MOST}) {
            refused("strength(0, " + t + ")", BAD, x -> x.strength(0, t), Edges::fresh, Edges::led);
            refused("table(0, 4, 4, " + t + ", 0)", BAD, x -> x.table(0, 4, 4, t, 0), Edges::fresh, Edges::led);
        }
        for (int t = 0; t < 5; t++) {
            due("strength(0, " + t + ")", fresh().strength(0, t), 0);
            due("table(0, 4, 4, " + t + ", 0)", fresh().table(0, 4, 4, t, 0), 40);
            due("told(4)", dealt().does("bid 4 " + "cdhsn".charAt(t)).told(4), t);
        }
    }

    private static void none() {
        of(TERMS, "NONE is -1.");
        due("NONE", TrickHouse.NONE, -1);
        due("who is in turn", fresh().told(1), -1);
    }

    private static void constants() {
        of(TERMS, "BAD (-2: a number is none such or not as told), STATE (-3: it isn't the time for it), FULL (-4), UNFAIR (-6)");
        due("BAD", TrickHouse.BAD, -2);
        due("STATE", TrickHouse.STATE, -3);
        due("FULL", TrickHouse.FULL, -4);
        due("UNFAIR", TrickHouse.UNFAIR, -6);
    }

    private static void sheetRefusals() {
        of(TERMS, "of SHEETS: -11 it is missing, -12 a place outside, -13 a thing of another sort or KIND, -14 a size below 0.");
        refused("cell of one that is missing", -11, x -> x.cell(3, 0, 1), Edges::fresh, Edges::rich);
        refused("cell behind the last", -12, x -> x.cell(1, 3, 1), Edges::rich);
        refused("copy to another sort", -13, x -> x.copy(2, 0, 1, 0, 1), Edges::rich);
        refused("taken for another KIND", -13, x -> x.taken(0, 0), Edges::fresh, Edges::rich);
        refused("sheet of -1", -14, x -> x.sheet(1, 1, -1), Edges::fresh, Edges::rich);
    }

    // ---- each two refusals that could both be given

    private static void firstNamed() {
        of(TERMS, "Refusals, the first that the call's words name; they change nothing (but THE TAPE, where told)");
        refused("feed: BAD, FULL", BAD, x -> x.feed(6, 0, 0, 0, 0, 0), withTape(Edges::fresh, " ".repeat(40)));
        refusedAct("rank", FAULT - 4, Edges::fullLog, Edges::dealt);
        refusedAct("pass", FULL, Edges::fullLog);
        refusedAct("rank 4", FULL, Edges::fullLog);
        refusedAct("play c 9", STATE, Edges::dealt);
        refusedAct("play d 0", STATE, Edges::dealt);
        refusedAct("bid 3 c", BAD, Edges::bidding);
        refused("log: BAD, -12", BAD, x -> x.log(-1, 4), Edges::fresh, Edges::rich);
        refused("trick: BAD, -12", BAD, x -> x.trick(8, 7), Edges::fresh, Edges::rich);
        refused("taken: BAD, -13", BAD, x -> x.taken(0, 3), Edges::fresh, Edges::rich);
        refused("gains: BAD, STATE", BAD, x -> x.gains(32), Edges::fresh, Edges::rich);
        refused("gains: BAD, UNFAIR", BAD, x -> x.gains(-1), Edges::led);
        refused("gains: STATE, UNFAIR", STATE, x -> x.gains(0), Edges::fresh, Edges::rich);
        refused("best: BAD, STATE", BAD, x -> x.best(2), Edges::fresh, Edges::rich);
        refused("chance: BAD, STATE", BAD, x -> x.chance(1, 0, 0), Edges::fresh, Edges::dealt);
        refused("chance: BAD of part, STATE", BAD, x -> x.chance(1, 1, 2), Edges::fresh, Edges::dealt);
        refused("tells: BAD of what, -11", BAD, x -> x.tells(3, 3), Edges::fresh, Edges::rich);
        refused("sheet: BAD of SHEET, -14", BAD, x -> x.sheet(4, 0, -1), Edges::fresh, Edges::rich);
        refused("sheet: BAD of sort, -14", BAD, x -> x.sheet(0, 2, -1), Edges::fresh, Edges::rich);
        refused("cell: BAD, -12", BAD, x -> x.cell(4, -1, 0), Edges::fresh, Edges::rich);
        refused("cell: -11, -12", MISSING, x -> x.cell(3, -1, 0), Edges::fresh, Edges::rich);
        refused("copy: BAD, -11", BAD, x -> x.copy(3, 0, 4, 0, 1), Edges::fresh, Edges::rich);
        refused("copy: -11, -12", MISSING, x -> x.copy(3, -1, 1, 0, 1), Edges::fresh, Edges::rich);
        refused("copy: -13, -12", UNLIKE, x -> x.copy(1, -1, 2, 0, 1), Edges::rich);
    }

    // ---- STRENGTH

    private static void strengths(int ranking, int t, int suit, int... all) {
        House x = fresh().does("rank " + ranking);
        for (int r = 0; r < 8; r++) due("RANK " + r + " of " + suit + ", TRUMP " + t, x.strength(8 * suit + r, t), all[r]);
    }

    private static void plainAndTurned() {
        of(TERMS, "STRENGTH of a RANK r by THE RANKING: 0 PLAIN: r; 1 TURNED: 7 less r;");
        for (int suit = 0; suit < 4; suit++) {
            strengths(0, suit, suit, 0, 1, 2, 3, 4, 5, 6, 7);
            strengths(0, 4, suit, 0, 1, 2, 3, 4, 5, 6, 7);
            strengths(1, suit, suit, 7, 6, 5, 4, 3, 2, 1, 0);
            strengths(1, 4, suit, 7, 6, 5, 4, 3, 2, 1, 0);
        }
        due("at first it is PLAIN", fresh().strength(7, 0), 7);
    }

    private static void ten() {
        of(TERMS, "2 TEN: 6.5 for 3, else as PLAIN (so 3 stands between 6 and 7);");
        for (int suit = 0; suit < 4; suit++) {
            strengths(2, suit, suit, 0, 1, 2, 6, 3, 4, 5, 7);
            strengths(2, 4, suit, 0, 1, 2, 6, 3, 4, 5, 7);
        }
        // c 3 against c 6 and against c 7, no TRUMP: PLAYER 2 has c 3, 1 has c 6, 3 has c 7.
        House ten = contract(0, "bid 4 n", "rank 2").plays("c0 c2 c7 c1 d0 d1 d7 d3 c6 c3 s3 s2");
        due("3 above 6", ten.trick(2, 5), 2);
        House plain = contract(0, "bid 4 n").plays("c0 c2 c7 c1 d0 d1 d7 d3 c6 c3 s3 s2");
        due("not as PLAIN", plain.trick(2, 5), 1);
        due("3 below 7", contract(0, "bid 4 n", "rank 2").plays("c0 c3 c7 c1").trick(0, 5), 3);
    }

    private static void jack() {
        of(TERMS, "3 JACK: as PLAIN, but of TRUMP 4 is the strongest, 2 the next.");
        for (int suit = 0; suit < 4; suit++) {
            strengths(3, suit, suit, 0, 1, 6, 2, 7, 3, 4, 5);
            strengths(3, (suit + 1) % 4, suit, 0, 1, 2, 3, 4, 5, 6, 7);
            strengths(3, 4, suit, 0, 1, 2, 3, 4, 5, 6, 7);
        }
        due("2 of TRUMP above 7", contract(0, "bid 4 c", "rank 3").plays("c0 c2 c7 c1").trick(0, 5), 2);
        due("4 of TRUMP above 2", contract(0, "bid 4 c", "rank 3").plays("c4 c2 c7 c1").trick(0, 5), 1);
        due("another SUIT's as PLAIN", contract(0, "bid 4 h", "rank 3").plays("c4 c2 c7 c1").trick(0, 5), 3);
    }

    // ---- THE RULE

    private static void mustFollow() {
        of(TERMS, "THE RULE: who can follow the SUIT that was led must;");
        for (int rule = 0; rule < 3; rule++) {
            String ruled = "rule " + rule;
            House x = contract(0, "bid 4 h", ruled).plays("c0");
            due("two can follow", x.hand(2, 2), bits("c2 c3"));
            due("one can", x.plays("c2").hand(3, 2), bits("c7"));
            refusedAct("play d 3", UNFAIR, () -> contract(0, "bid 4 h", ruled).plays("c0"));
            refusedAct("play h 0", UNFAIR, () -> contract(0, "bid 4 h", ruled).plays("c0"));
            due("a TRUMP is followed too, by any", contract(0, "bid 4 h", ruled).plays("h3").hand(2, 2), bits("h0 h2"));
            due("who leads plays any", contract(0, "bid 4 h", ruled).hand(1, 2), bits("c0 c4 c5 c6 d7 h3 s0 s5"));
        }
    }

    /** Seed 4531, TRUMP h: d 7 is led, which neither PLAYER 2 nor PLAYER 3 can follow. */
    private static House cannotFollow(int rank, int rule) {
        return new House().does("rank " + rank, "rule " + rule, "deal 4531", "bid 4 h", "pass", "pass", "pass", "play d 7");
    }

    private static void ruleAnything() {
        of(TERMS, "who can't plays anything (0)");
        due("of all eight", cannotFollow(0, 0).hand(2, 2), bits("c0 h0 h1 h3 h5 s0 s2 s7"));
        due("behind a TRUMP too", cannotFollow(0, 0).plays("h3").hand(3, 2), bits("c1 c6 h2 h4 h6 s1 s3 s6"));
        due("another SUIT", cannotFollow(0, 0).say("play c 0"), 9);
        due("a TRUMP", cannotFollow(0, 0).say("play h 0"), 9);
    }

    private static void ruleTrump() {
        of(TERMS, "must play TRUMP, if they have any (1)");
        due("of four", cannotFollow(0, 1).hand(2, 2), bits("h0 h1 h3 h5"));
        due("below one that lies too", cannotFollow(0, 1).plays("h3").hand(3, 2), bits("h2 h4 h6"));
        refusedAct("play c 0", UNFAIR, () -> cannotFollow(0, 1));
        due("play h 0", cannotFollow(0, 1).say("play h 0"), 9);
        // PLAYER 1 has neither d nor h.
        due("if they have none, anything", allButLast(1).hand(1, 2), bits("c6 s0 s5"));
        due("if there is none, anything", noTrump(1).hand(2, 2), bits("c0 h0 h1 h3 h5 s0 s2 s7"));
        // PLAYER 0 has no c; of h three.
        due("one of the led SUIT is enough to be none", contract(0, "bid 4 h", "rule 1").plays("c0 c2 c7").hand(0, 2), bits("c1"));
    }

    private static House allButLast(int rule) {
        House x = contract(0, "bid 4 h", "rule " + rule);
        for (int k = 0; k < 21; k++) x.plays(WHOLE[k]);
        return x;
    }

    private static House noTrump(int rule) {
        return new House().does("rule " + rule, "deal 4531", "bid 4 n", "pass", "pass", "pass", "play d 7");
    }

    private static void ruleStronger() {
        of(TERMS, "likewise, and stronger than the strongest TRUMP in the TRICK, if they can (2; if they can't: any TRUMP).");
        due("none lies yet", cannotFollow(0, 2).hand(2, 2), bits("h0 h1 h3 h5"));
        refusedAct("play c 0", UNFAIR, () -> cannotFollow(0, 2));
        due("above h 3, PLAIN", cannotFollow(0, 2).plays("h3").hand(3, 2), bits("h4 h6"));
        due("above h 5, PLAIN", cannotFollow(0, 2).plays("h5").hand(3, 2), bits("h6"));
        refusedAct("play h 2", UNFAIR, () -> cannotFollow(0, 2).plays("h3"));
        due("play h 4", cannotFollow(0, 2).plays("h3").say("play h 4"), 10);
        due("above h 3, TURNED", cannotFollow(1, 2).plays("h3").hand(3, 2), bits("h2"));
        due("above h 0, TURNED: they can't", cannotFollow(1, 2).plays("h0").hand(3, 2), bits("h2 h4 h6"));
        due("above h 5, TEN", cannotFollow(2, 2).plays("h5").hand(3, 2), bits("h6"));
        due("above h 3, TEN: they can't", cannotFollow(2, 2).plays("h3").hand(3, 2), bits("h2 h4 h6"));
        due("above h 5, JACK", cannotFollow(3, 2).plays("h5").hand(3, 2), bits("h2 h4 h6"));
        refusedAct("play s 1", UNFAIR, () -> cannotFollow(2, 2).plays("h3"));
        due("if they have none, anything", allButLast(2).hand(1, 2), bits("c6 s0 s5"));
        due("if there is none, anything", noTrump(2).hand(2, 2), bits("c0 h0 h1 h3 h5 s0 s2 s7"));
        ruleStrongest();
    }

    // Seed 388837: PLAYER 1 has all s; two TRUMPS lie when PLAYER 0, with h 1 and h 4, is in turn.
    private static void ruleStrongest() {
        String[] deal = {"rule 2", "deal 388837", "bid 4 h", "pass", "pass", "pass"};
        due("above h 0 and h 3", after(deal).get().plays("s0 h0 h3").hand(0, 2), bits("h4"));
        due("above h 0 and h 2", after(deal).get().plays("s0 h0 h2").hand(0, 2), bits("h4"));
        due("above h 0 and h 6: they can't", after(deal).get().plays("s0 h0 h6").hand(0, 2), bits("h1 h4"));
        due("above h 7 and h 2: they can't", after(deal).get().plays("s0 h7 h2").hand(0, 2), bits("h1 h4"));
        due("above h 7: PLAYER 3 can't", after(deal).get().plays("s0 h7").hand(3, 2), bits("h2 h3 h6"));
        // JACK, seed 819: none is above h 4, and PLAYER 3 has h 1 2 5 6.
        String[] jack = {"rank 3", "rule 2", "deal 819", "bid 4 h", "pass", "pass", "pass"};
        due("above h 4, JACK: they can't", after(jack).get().plays("c6 h4").hand(3, 2), bits("h1 h2 h5 h6"));
        // JACK, seed 2509: h 2 is above h 7, h 6 is not.
        jack[2] = "deal 2509";
        due("above h 7, JACK", after(jack).get().plays("c7 h7").hand(3, 2), bits("h2"));
        // TEN, seed 4755: h 7 is above h 3, h 6 is not.
        String[] ten = {"rank 2", "rule 2", "deal 4755", "bid 4 h", "pass", "pass", "pass"};
        due("above h 3, TEN", after(ten).get().plays("s0 h3").hand(3, 2), bits("h7"));
        ruleStrongestOf("c", "deal 1980", "h1 c6", "c7");
        ruleStrongestOf("c", "deal 2857", "s0 c1", "c5");
        ruleStrongestOf("d", "deal 2857", "s0 d6", "d7");
        ruleStrongestOf("d", "deal 2857", "s0 d4", "d5 d7");
        ruleStrongestOf("s", "deal 20722", "d0 s6", "s7");
        ruleStrongestOf("s", "deal 20722", "d0 s1", "s2 s7");
    }

    // Of each TRUMP PLAYER 3 has the least CARD of it too, which is never stronger.
    private static void ruleStrongestOf(String trump, String deal, String lying, String may) {
        House x = after("rule 2", deal, "bid 4 " + trump, "pass", "pass", "pass").get().plays(lying);
        due("above " + lying + ", TRUMP " + trump, x.hand(3, 2), bits(may));
    }

    // ---- the DEAL

    // By rows and longs: nothing of it wraps, so it does not hang on what an int does.
    private static int[] hands(int seed) {
        int[] row = new int[32];
        for (int i = 0; i < 32; i++) row[i] = i;
        long z = seed;
        for (int i = 31; i >= 1; i--) {
            z = (z * 1103515245L + 12345L) & 0xffffffffL;
            int j = (int) ((z >> 9) % (i + 1));
            int card = row[i];
            row[i] = row[j];
            row[j] = card;
        }
        int[] hands = new int[4];
        for (int i = 0; i < 32; i++) hands[i / 8] |= 1 << row[i];
        return hands;
    }

    private static void deal() {
        of(TERMS, "A DEAL: CARDS 0 .. 31 in a row; for i from 31 down to 1 that at i and that at (z >>> 9) % (i + 1) change places, "
            + "z being z * 1103515245 + 12345 (an int; SEED at first) anew for each;");
        int[] seeds = {0, 1, 2, 9, 10, 42, 4095, 65535, 65536, 123456, 500000, 999998, 999999};
        for (int seed : seeds) {
            House x = after("deal " + seed).get();
            for (int p = 0; p < 4; p++) due("deal " + seed + ", hand(" + p + ", 1)", x.hand(p, 1), hands(seed)[p]);
        }
        due("deal 17, PLAYER 0", after("deal 17").get().hand(0, 0), 1845505024);
        due("deal 17, PLAYER 1", after("deal 17").get().hand(1, 1), -2116550608);
        House again = after("deal 17", "pass", "pass", "pass", "pass", "deal 17").get();
        due("CARDS are in a row anew for each DEAL", again.hand(0, 0), 1845505024);
    }

    private static void gets() {
        of(TERMS, "PLAYER p gets those at 8 p to 8 p + 7.");
        for (int seed : new int[] {0, 42, 999999}) {
            House x = after("deal " + seed).get();
            int all = 0;
            for (int p = 0; p < 4; p++) {
                due("PLAYER " + p + " has", Integer.bitCount(x.hand(p, 0)), 8);
                all |= x.hand(p, 0);
            }
            due("all CARDS are dealt", all, ALL_CARDS);
        }
    }

    private static void dealer() {
        of(TERMS, "THE DEALER is PLAYER 0 at first, the next one behind each DEAL that has ended.");
        due("at first", fresh().told(2), 0);
        due("BIDDING", bidding().told(2), 0);
        due("three PASSES", after("deal 7", "pass", "pass", "pass").get().told(2), 0);
        due("31 CARDS", playing(31).told(2), 0);
        due("behind one played", ended().told(2), 1);
        due("behind one claimed", claimed().told(2), 1);
        due("behind one passed", passedOut().told(2), 1);
        due("still, the next being on", passedOut().does("deal 1").told(2), 1);
        House x = fresh();
        for (int k = 1; k <= 5; k++) due("behind " + k, x.does("deal 1", "pass", "pass", "pass", "pass").told(2), k % 4);
    }

    // ---- BIDDING

    private static void biddingBegins() {
        of(TERMS, "BIDDING begins with THE DEALER, in turn.");
        due("DEALER 0", dealt().told(1), 0);
        due("DEALER 1", passedOut().does("deal 1").told(1), 1);
        House x = passedOut().does("deal 1", "bid 4 c", "pass", "pass");
        for (int k = 0; k < 3; k++) due("by whom", x.log(6 + k, 3), 1 + k);
        due("0 after 3", x.told(1), 0);
    }

    private static void bids() {
        of(TERMS, "A BID: a number 4 .. 8 and a TRUMP, above the last one (by numbers, of like ones by TRUMPS).");
        refusedAct("bid 3 n", BAD, Edges::dealt);
        refusedAct("bid 9 c", BAD, Edges::dealt);
        due("the least", dealt().say("bid 4 c"), 4);
        due("the greatest", dealt().say("bid 8 n"), 4);
        for (int b = 4; b <= 8; b++) {
            for (int t = 0; t < 5; t++) {
                String text = "bid " + b + " " + "cdhsn".charAt(t);
                if (b > 6 || b == 6 && t > 2) due(text + " above 6 h", after("deal 1", "bid 6 h").get().say(text), 3);
                else refusedAct(text, UNFAIR, after("deal 1", "bid 6 h"));
                refusedAct(text, UNFAIR, after("deal 1", "bid 8 n"));
                if (b > 4 || t > 0) due(text + " above 4 c", after("deal 1", "bid 4 c").get().say(text), 3);
            }
        }
        due("PASSES between", after("deal 1", "bid 6 h", "pass").get().say("bid 6 h"), UNFAIR);
        due("DOUBLES between", after("deal 1", "bid 6 h", "double").get().say("bid 6 d"), UNFAIR);
        due("a new DEAL has no last one", ended().does("deal 1").say("bid 4 c"), 40);
    }

    private static void doubled() {
        of(TERMS, "DOUBLED is the last BID (of the other SIDE, not DOUBLED yet)");
        due("by the next", after("deal 1", "bid 4 c", "double").get().told(6), 1);
        due("by the one before", after("deal 1", "bid 4 c", "pass", "pass", "double").get().told(6), 1);
        refusedAct("double", STATE, Edges::dealt, after("deal 1", "bid 4 c", "pass"), after("deal 1", "bid 4 c", "double"),
            after("deal 1", "bid 4 c", "double", "pass", "pass"), after("deal 1", "bid 4 c", "double", "redouble"));
        due("one's own BID is not the last", after("deal 1", "bid 4 c", "bid 4 d", "double").get().told(6), 1);
    }

    private static void redoubled() {
        of(TERMS, "REDOUBLED (of one's own SIDE, DOUBLED and not REDOUBLED).");
        due("by the partner", after("deal 1", "bid 4 c", "double", "redouble").get().told(6), 2);
        due("by the bidder", after("deal 1", "bid 4 c", "double", "pass", "pass", "redouble").get().told(6), 2);
        refusedAct("redouble", STATE, Edges::dealt, after("deal 1", "bid 4 c", "pass"), after("deal 1", "bid 4 c", "double", "pass"),
            after("deal 1", "bid 4 c", "double", "redouble", "pass"), after("deal 1", "bid 4 c", "double", "redouble"));
    }

    private static void pass() {
        of(TERMS, "PASS.");
        due("at first", dealt().say("pass"), 4);
        due("behind a BID", bidding().say("pass"), 6);
        House x = dealt().does("pass");
        due("in a row", x.told(12), 1);
        due("the next is in turn", x.told(1), 1);
        refusedAct("pass", STATE, Edges::fresh, () -> playing(0));
    }

    private static void bidClearsDoubles() {
        of(TERMS, "A BID makes DOUBLES none again.");
        due("of DOUBLED", after("deal 1", "bid 4 c", "double", "bid 4 d").get().told(6), 0);
        due("of REDOUBLED", after("deal 1", "bid 4 c", "double", "redouble", "bid 4 d").get().told(6), 0);
        due("DOUBLED again", after("deal 1", "bid 4 c", "double", "bid 4 d", "double").get().told(6), 1);
        due("a PASS does not", after("deal 1", "bid 4 c", "double", "pass").get().told(6), 1);
    }

    private static void threePasses() {
        of(TERMS, "It ends behind three PASSES in a row, if there was a BID;");
        String[][] on = {{"bid 4 c", "pass", "pass"}, {"bid 4 c", "pass", "pass", "double"}, {"bid 4 c", "pass", "pass", "double", "pass", "pass"},
            {"bid 4 c", "double", "pass", "pass"}, {"bid 4 c", "double", "redouble", "pass", "pass"}, {"pass", "pass", "pass", "bid 4 c"},
            {"pass", "pass", "pass", "bid 4 c", "pass", "pass"}, {"bid 4 c", "pass", "pass", "bid 4 d", "pass", "pass"},
            {"bid 4 c", "double", "pass", "pass", "redouble", "pass", "pass"}};
        for (String[] acts : on) {
            House x = fresh().does("deal 1").does(acts);
            due(acts.length + " ACTS: still BIDDING", x.told(0), 1);
        }
        String[][] over = {{"bid 4 c", "pass", "pass", "pass"}, {"bid 4 c", "pass", "pass", "double", "pass", "pass", "pass"},
            {"pass", "pass", "pass", "bid 4 c", "pass", "pass", "pass"}, {"bid 4 c", "double", "redouble", "pass", "pass", "pass"}};
        for (String[] acts : over) {
            House x = fresh().does("deal 1").does(acts);
            due(acts.length + " ACTS: playing", x.told(0), 2);
            due("PASSES in a row", x.told(12), 3);
        }
    }

    private static void fourPasses() {
        of(TERMS, "behind four, if none: the DEAL has ended then, without SCORE.");
        due("three", after("deal 1", "pass", "pass", "pass").get().told(0), 1);
        House x = passedOut();
        due("four", x.told(0), 0);
        due("PASSES in a row", x.told(12), 4);
        due("SCORE", x.score(0), 0);
        due("TOTALS", x.total(0, 0) | x.total(1, 0), 0);
        House y = ended().does("deal 1", "pass", "pass", "pass", "pass");
        due("SCORE of the one before", y.score(0), 40);
        due("TOTAL of the one before", y.total(0, 0), 40);
        due("no CONTRACT", y.told(5), NONE);
    }

    private static void theContract() {
        of(TERMS, "THE CONTRACT is the last BID;");
        House x = after("deal 1", "bid 4 c", "bid 5 h", "bid 6 s", "pass", "pass", "pass").get();
        due("its number", x.told(5), 6);
        due("its TRUMP", x.told(4), 3);
        due("DECLARER", x.told(3), 2);
        House y = after("deal 1", "bid 4 c", "pass", "pass", "pass").get();
        due("the only one's number", y.told(5), 4);
        due("the only one's TRUMP", y.told(4), 0);
    }

    private static void declarer() {
        of(TERMS, "DECLARER is who of its SIDE named that TRUMP first in this DEAL.");
        declares(0, "bid 4 h", "pass", "bid 5 h", "pass", "pass", "pass");
        declares(2, "bid 4 h", "pass", "bid 5 s", "pass", "bid 6 s", "pass", "pass", "pass");
        declares(0, "bid 4 s", "pass", "bid 5 h", "pass", "pass", "bid 6 c", "bid 6 s", "pass", "pass", "pass");
        // PLAYER 0 named h first, but is not of the SIDE that has the last BID.
        declares(1, "bid 4 h", "bid 5 h", "pass", "pass", "pass");
        declares(3, "bid 4 h", "bid 4 s", "pass", "bid 5 h", "pass", "pass", "pass");
        declares(1, "bid 4 h", "bid 5 h", "bid 6 h", "bid 7 h", "pass", "pass", "pass");
        declares(0, "bid 4 n", "double", "bid 5 n", "pass", "pass", "pass");
        declares(3, "pass", "pass", "pass", "bid 8 n", "pass", "pass", "pass");
        // In the DEAL before PLAYER 0 named h; in this one 2 does first, 0 next.
        House x = ended().does("deal 1", "pass", "bid 4 h", "pass", "bid 5 h", "pass", "pass", "pass");
        due("not in the DEAL before", x.told(3), 2);
    }

    private static void declares(int player, String... acts) {
        due("DECLARER", fresh().does("deal 1").does(acts).told(3), player);
    }

    private static void leads() {
        of(TERMS, "The next one behind DECLARER leads.");
        for (int p = 0; p < 4; p++) {
            House x = contract(p, "bid 4 h");
            due("DECLARER " + p, x.told(3), p);
            due("behind them", x.told(1), (p + 1) % 4);
            due("who leads", x.trick(0, 0), (p + 1) % 4);
        }
        House x = after("deal 1", "bid 4 h", "pass", "bid 5 h", "pass", "pass", "pass").get();
        due("behind DECLARER 0, not behind who bid last", x.told(1), 1);
    }

    // ---- TRICKS

    private static void tricks() {
        of(TERMS, "A TRICK: four CARDS in turn, the first one's SUIT is led; won by the strongest TRUMP, if there is one, "
            + "else by the strongest of the SUIT that was led; who won leads.");
        House x = ended();
        for (int i = 0; i < 8; i++) {
            due("who led " + i, x.trick(i, 0), LEADERS[i]);
            due("who won " + i, x.trick(i, 5), WINNERS[i]);
            if (i > 0) due("who won leads", x.trick(i, 0), WINNERS[i - 1]);
            for (int k = 0; k < 4; k++) due("CARD " + k + " of " + i, x.trick(i, k + 1), card(WHOLE[4 * i + k]));
        }
        due("three CARDS are none", playing(3).trick(0, 5), NONE);
        due("four are one", playing(4).trick(0, 5), 3);
        String twelve = "c0 c2 c7 c1 d0 d1 d7 d3 c4 c3 h4 h6";
        due("the stronger of two TRUMPS", contract(0, "bid 4 h").plays(twelve).trick(2, 5), 0);
        due("TURNED, the other one", contract(0, "bid 4 h", "rank 1").plays("c0 c2 c7 c1 c4 c3 h4 h6").trick(1, 5), 3);
        due("no TRUMP: the led SUIT, not the strongest", contract(0, "bid 4 n").plays(twelve).trick(2, 5), 1);
        due("no TRUMP in it: the led SUIT", contract(0, "bid 4 s").plays(twelve).trick(2, 5), 1);
        due("the least TRUMP above the greatest led", contract(0, "bid 4 c").plays("d7 d3 d2 d1 c0 c2 c7 c1").trick(0, 5), 1);
        due("then they lead", contract(0, "bid 4 c").plays("d7 d3 d2 d1").told(1), 1);
    }

    private static void eightTricks() {
        of(TERMS, "Behind eight TRICKS the DEAL has ended.");
        due("seven and three CARDS", playing(31).told(0), 2);
        due("seven", playing(28).told(0), 2);
        due("eight", ended().told(0), 0);
        due("who is in turn", ended().told(1), NONE);
        refusedAct("play c 0", STATE, Edges::ended);
    }

    private static void made() {
        of(TERMS, "TRICKS of DECLARER's SIDE: MADE.");
        due("of SIDE 0 in all", ended().told(8), 4);
        due("4 of 4", ended().score(0), 40);
        due("claimed ones too", claimed().score(0), 40);
        due("claimed by the other SIDE", led().does("claim 1").score(0), 40);
        due("claimed by the other SIDE, less", led().does("claim 0").score(0), 42);
    }

    // ---- SCORES

    private static void scored(int house, int m, int b, int t, int d, int score) {
        due("table(" + house + ", " + m + ", " + b + ", " + t + ", " + d + ")", fresh().table(house, m, b, t, d), score);
    }

    private static void plainScore() {
        of(TERMS, "SCORE (b the BID's number, m MADE) of DECLARER's SIDE, by a HOUSE: 0 PLAIN: m is b or more: 10 times b, and 2 times (m less b); "
            + "else 10 times (m less b).");
        scored(0, 3, 4, 0, 0, -10);
        scored(0, 4, 4, 0, 0, 40);
        scored(0, 5, 4, 0, 0, 42);
        scored(0, 8, 4, 0, 0, 48);
        scored(0, 0, 4, 0, 0, -40);
        scored(0, 0, 8, 0, 0, -80);
        scored(0, 7, 8, 0, 0, -10);
        scored(0, 8, 8, 0, 0, 80);
        for (int house = 0; house < 6; house++) {
            for (int m = 0; m <= 8; m++) {
                House x = fresh();
                for (int b = 4; b <= 8; b++) {
                    for (int t = 0; t < 5; t++) {
                        for (int d = 0; d < 3; d++) {
                            due("table(" + house + ", " + m + ", " + b + ", " + t + ", " + d + ")", x.table(house, m, b, t, d),
                                TrickHouseOracle.table(house, m, b, t, d));
                        }
                    }
                }
            }
        }
    }

    private static void boldAndSharp() {
        of(TERMS, "1 BOLD under PLAIN: PLAIN's, and 20, if b is 7 or more and m is b or more.");
        scored(1, 6, 6, 0, 0, 60);
        scored(1, 7, 6, 0, 0, 62);
        scored(1, 6, 7, 0, 0, -10);
        scored(1, 7, 7, 0, 0, 90);
        scored(1, 8, 7, 0, 0, 92);
        scored(1, 7, 8, 0, 0, -10);
        scored(1, 8, 8, 0, 0, 100);
        of(TERMS, "2 SHARP under PLAIN: PLAIN's, twice, if that is below 0.");
        scored(2, 3, 4, 0, 0, -20);
        scored(2, 4, 4, 0, 0, 40);
        scored(2, 5, 4, 0, 0, 42);
        scored(2, 0, 8, 0, 0, -160);
    }

    private static void grandAndRough() {
        of(TERMS, "3 GRAND under BOLD: BOLD's, and 50, if m is 8.");
        scored(3, 7, 7, 0, 0, 90);
        scored(3, 8, 7, 0, 0, 142);
        scored(3, 7, 6, 0, 0, 62);
        scored(3, 8, 6, 0, 0, 114);
        scored(3, 8, 8, 0, 0, 150);
        scored(3, 7, 8, 0, 0, -10);
        of(TERMS, "4 ROUGH under SHARP: SHARP's, less 2 times (m less b), if m is above b.");
        scored(4, 3, 4, 0, 0, -20);
        scored(4, 4, 4, 0, 0, 40);
        scored(4, 5, 4, 0, 0, 40);
        scored(4, 8, 4, 0, 0, 40);
        scored(4, 0, 8, 0, 0, -160);
    }

    private static void even() {
        of(TERMS, "5 EVEN under PLAIN: PLAIN's, and 5, if there's no TRUMP.");
        scored(5, 4, 4, 3, 0, 40);
        scored(5, 4, 4, 4, 0, 45);
        scored(5, 4, 4, 0, 0, 40);
        scored(5, 3, 4, 4, 0, -5);
        scored(5, 8, 8, 4, 0, 85);
        for (int house = 0; house < 5; house++) scored(house, 4, 4, 4, 0, 40);
    }

    private static void times() {
        of(TERMS, "Times 2, if it is DOUBLED, 4, if REDOUBLED.");
        int[] singles = {-20, -20, -40, -20, -40, -15};
        for (int house = 0; house < 6; house++) {
            scored(house, 2, 4, 4, 0, singles[house]);
            scored(house, 2, 4, 4, 1, 2 * singles[house]);
            scored(house, 2, 4, 4, 2, 4 * singles[house]);
        }
        scored(3, 8, 7, 0, 1, 284);
        scored(3, 8, 7, 0, 2, 568);
        due("DOUBLED in a DEAL", doubledDeal("double", "pass", "pass", "pass").score(0), 80);
        due("REDOUBLED in a DEAL", doubledDeal("double", "redouble", "pass", "pass", "pass").score(0), 160);
    }

    private static House doubledDeal(String... acts) {
        House x = new House().does("rule 2", "deal 42", "bid 4 h").does(acts);
        for (String card : WHOLE) x.plays(card);
        return x;
    }

    private static void totals() {
        of(TERMS, "TOTAL of a SIDE: SCORES of its DEALS, by a HOUSE.");
        due("of none", fresh().total(0, 0), 0);
        due("while it is on", playing(31).total(0, 0), 0);
        due("of one", ended().total(0, 0), 40);
        House x = ended().does("deal 42", "pass", "pass", "pass", "bid 4 h", "pass", "pass", "pass");
        for (int k = 0; k < 20; k++) x.plays(WHOLE[k]);
        x.does("claim 0");
        // DECLARER 0 once more: 2 and none of the last three.
        for (int house = 0; house < 6; house++) {
            due("of two, HOUSE " + house, x.total(0, house), house == 2 || house == 4 ? 40 - 40 : 40 - 20);
            due("the other SIDE's, HOUSE " + house, x.total(1, house), 0);
        }
        House y = playLeast(ended().does("deal 42", "bid 4 h", "pass", "pass", "pass"), 3).does("claim 0");
        due("SIDE 1 has its own", y.total(1, 2), y.score(2));
        due("SIDE 0 keeps its own", y.total(0, 2), 40);
        due("a DEAL without SCORE adds none", y.does("deal 1", "pass", "pass", "pass", "pass").total(1, 2), y.score(2));
    }
}
