/** The promises 1 to 27, each by ordinary inputs, by the edges that the document names, by wrong inputs. */
public final class PromisesTest {
    private static final int NONE = -1, BAD = -2, STATE = -3, FULL = -4, UNFAIR = -6;
    private static final int MISSING = -11, OUTSIDE = -12, UNLIKE = -13, BELOW_ZERO = -14;
    private static final int LEAST = Integer.MIN_VALUE, MOST = Integer.MAX_VALUE;

    // A whole deal of seed 42, h being TRUMP, DECLARER 0, by RULE 2; 3 1 0 1 0 2 3 0 win its TRICKS.
    private static final String[] WHOLE = {
        "c 0", "c 2", "c 7", "c 1", "d 0", "d 1", "d 7", "d 3", "c 4", "c 3", "h 4", "h 6", "d 4", "h 3", "d 6", "d 2",
        "c 5", "h 0", "h 5", "h 7", "d 5", "c 6", "h 2", "s 3", "s 1", "s 4", "s 2", "s 0", "s 7", "h 1", "s 5", "s 6"};
    private static final int[] WINNERS = {3, 1, 0, 1, 0, 2, 3, 0};
    private static final int[] LEADERS = {1, 3, 1, 0, 1, 0, 2, 3};

    private static int passed, failed;

    public static void main(String[] args) {
        promise1();
        promise2();
        promise3Texts();
        promise3Bidding();
        promise3Playing();
        promise3Claims();
        promise3Full();
        promise4();
        promise5();
        promise6();
        promise7();
        promise8();
        promise9();
        promise10();
        promise11();
        promise12And14();
        promise13();
        promise15To17();
        promise18And19();
        promise20();
        promise21();
        promise22();
        promise23And24();
        promise25();
        promise26();
        promise27();
        System.out.println(passed + " passed, " + failed + " failed");
        if (failed != 0) System.exit(1);
    }

    private static void due(String call, int got, int want) {
        if (got == want) {
            passed++;
        } else {
            failed++;
            System.out.println(call + " answered " + got + ", due is " + want);
        }
    }

    // ---- what the tests say to the program

    private static void write(TrickHouse x, String text) {
        for (int i = 0; i < text.length(); i += 5) {
            int n = Math.min(5, text.length() - i);
            int[] b = new int[5];
            for (int k = 0; k < n; k++) b[k] = text.charAt(i + k);
            x.feed(n, b[0], b[1], b[2], b[3], b[4]);
        }
    }

    private static int say(TrickHouse x, String text) {
        write(x, text);
        return x.act();
    }

    // All are done, each answer one more than the one before.
    private static void sayAll(TrickHouse x, String... texts) {
        int before = 0;
        for (String text : texts) {
            int n = say(x, text);
            due("act() of " + text, n > 0 && (before == 0 || n == before + 1) ? 1 : n, 1);
            before = n;
        }
    }

    private static TrickHouse with(String... texts) {
        TrickHouse x = new TrickHouse();
        for (String text : texts) {
            if (say(x, text) < 0) due("act() of " + text, -1, 0);
        }
        return x;
    }

    // The deal of WHOLE, when so many of its CARDS have been played.
    private static TrickHouse played(int cards) {
        TrickHouse x = with("rule 2", "deal 42", "bid 4 h", "pass", "pass", "pass");
        playOn(x, 0, cards);
        return x;
    }

    private static void playOn(TrickHouse x, int from, int to) {
        for (int k = from; k < to; k++) {
            if (say(x, "play " + WHOLE[k]) < 0) due("play " + WHOLE[k], -1, 0);
        }
    }

    // Who is in turn plays the lowest CARD that may be played, till so many TRICKS are LEFT.
    private static void playLowest(TrickHouse x, int left) {
        for (int k = 0; k < 32 && x.told(13) > left; k++) playLowestOf(x, x.hand(x.told(1), 2));
    }

    private static void playLowestOf(TrickHouse x, int cards) {
        int card = Integer.numberOfTrailingZeros(cards);
        due("the card " + card, say(x, "play " + "cdhs".charAt(card / 8) + card % 8) > 0 ? 1 : 0, 1);
    }

    private static int bits(int... cards) {
        int bits = 0;
        for (int c : cards) bits |= 1 << c;
        return bits;
    }

    private static void standing(TrickHouse x, int... all) {
        for (int what = 0; what < all.length; what++) due("told(" + what + ")", x.told(what), all[what]);
    }

    // ---- the promises

    private static void promise1() {
        TrickHouse x = new TrickHouse();
        standing(x, 0, -1, 0, -1, -1, -1, 0, 0, 0, 0, 0, 0, 0, 8);
        for (int p = 0; p < 4; p++) {
            for (int what = 0; what < 3; what++) due("hand", x.hand(p, what), 0);
        }
        due("trick", x.trick(0, 0), OUTSIDE);
        due("undo", x.undo(), STATE);
        due("back", x.back(), STATE);
        for (int i = 0; i < 4; i++) due("a sheet is missing", x.tells(i, 0), MISSING);
        due("another object's deal", with("deal 3").told(0), 1);
        due("is not this one's", x.told(0), 0);
    }

    private static void promise2() {
        TrickHouse x = new TrickHouse();
        due("0 bytes", x.feed(0, 1, 2, 3, 4, 5), BAD);
        due("6 bytes", x.feed(6, 1, 2, 3, 4, 5), BAD);
        due("least bytes", x.feed(LEAST, 1, 2, 3, 4, 5), BAD);
        due("most bytes", x.feed(MOST, 1, 2, 3, 4, 5), BAD);
        int[] wrong = {-1, 256, LEAST, MOST};
        for (int w : wrong) {
            due("a", x.feed(5, w, 0, 0, 0, 0), BAD);
            due("b not asked", x.feed(1, 0, w, 0, 0, 0), BAD);
            due("c not asked", x.feed(1, 0, 0, w, 0, 0), BAD);
            due("d not asked", x.feed(1, 0, 0, 0, w, 0), BAD);
            due("e not asked", x.feed(1, 0, 0, 0, 0, w), BAD);
        }
        due("5 of them", x.feed(5, 0, 255, 0, 255, 0), 5);
        due("1 of them", x.feed(1, 255, 0, 0, 0, 0), 6);
        for (int k = 2; k <= 7; k++) due("5 more", x.feed(5, 32, 32, 32, 32, 32), 1 + 5 * k);
        due("no room for 5", x.feed(5, 32, 32, 32, 32, 32), FULL);
        due("BAD before FULL", x.feed(5, 32, 32, 32, 32, 256), BAD);
        due("4 more", x.feed(4, 32, 32, 32, 32, 32), 40);
        due("no room for 1", x.feed(1, 32, 32, 32, 32, 32), FULL);
        x.act();
        due("empty again", x.feed(2, 32, 32, 32, 32, 32), 2);
        TrickHouse y = new TrickHouse();
        y.feed(5, 'd', 'e', 'a', 'l', '7');
        due("all five stand in their order", y.act(), 1);
        due("its number", y.log(0, 1), 7);
    }

    private static void promise3Texts() {
        TrickHouse x = new TrickHouse();
        String[] texts = {"", "   ", "$", "jump", "Deal 1", "dealx 1", "deal", "deal ", "deal x", "deal 1234567", "deal 0000001",
            "deal 1 1", "deal 1 x", "deal 1;", "deal -1", "deal\t1", " jump", "bid h 4", "bid 4 x", "bid 4 hh", "bid 4 h 5",
            "bid 4", "bid 4 hpass", "play 3 c", "play n 3", "play cc 3", "playc 3", "play c", "pass 1", "pass pass", "double h",
            "redouble $", "claim", "claim c", "rank", "rule x", "claim 1 2", "dea l 1", "deal pass", "5",
            "real 1", "deax 1", "rbnk 1", "pas", "passs", "redoubl", "doubled"};
        int[] places = {0, 3, 0, 0, 0, 0, 4, 5, 5, 5, 5,
            7, 7, 6, 5, 4, 1, 4, 6, 6, 8,
            5, 6, 5, 5, 5, 0, 6, 5, 5, 7,
            9, 5, 6, 4, 5, 8, 0, 5, 0,
            0, 0, 0, 0, 0, 0, 0};
        due("as many places", texts.length, places.length);
        for (int i = 0; i < texts.length; i++) due("[" + texts[i] + "]", say(x, texts[i]), -100 - places[i]);
        due("a long word", say(x, "aaaaaaaaaaaaaaaaaaaaaaaaaaaaaaaaaaaaaaaa"), -100);
        due("a long number", say(x, "deal11111111111111111111111111111111111"), -104);
        due("too early at 40", say(x, "deal                                    "), -140);
        due("nothing was done", x.told(0), 0);
        due("bytes above 127", x.feed(1, 228, 0, 0, 0, 0), 1);
        due("begin no token", x.act(), -100);
        due("no blanks", say(x, "rank2"), 1);
        due("many blanks", say(x, " \n rule \n 1 \n"), 2);
        due("six digits", say(x, "deal 000999"), 3);
        due("its number", x.log(2, 1), 999);
        due("no blanks in a bid", say(x, "bid4h"), 4);
        due("its suit", x.log(3, 2), 2);
        due("the largest number", say(new TrickHouse(), "deal 999999"), 1);
        due("a refusal empties the tape too", say(x, "deal 1"), STATE);
        due("so the next is read", say(x, "pass"), 5);
        due("a fault comes before the state", say(x, "play c"), -106);
    }

    private static void promise3Bidding() {
        TrickHouse x = new TrickHouse();
        String[] early = {"bid 4 h", "pass", "double", "redouble", "play c 0", "claim 0", "bid 99 h", "play c 9", "claim 9"};
        for (String text : early) due(text + ", no deal", say(x, text), STATE);
        String[] wrong = {"rank 4", "rank 999999", "rule 3"};
        for (String text : wrong) due(text, say(x, text), BAD);
        sayAll(x, "rank 0", "rank 3", "rule 0", "rule 2", "deal 1");
        String[] late = {"deal 1", "rank 1", "rule 1", "rank 9", "play c 0", "claim 0", "double", "redouble"};
        for (String text : late) due(text + ", bidding", say(x, text), STATE);
        due("bid 3", say(x, "bid 3 h"), BAD);
        due("bid 9", say(x, "bid 9 h"), BAD);
        sayAll(x, "bid 4 h");
        due("own side's double", say(x, "redouble"), STATE);
        due("as high", say(x, "bid 4 h"), UNFAIR);
        due("below", say(x, "bid 4 d"), UNFAIR);
        sayAll(x, "double");
        due("twice", say(x, "double"), STATE);
        sayAll(x, "redouble");
        due("redoubled once", say(x, "redouble"), STATE);
        due("doubled when redoubled", say(x, "double"), STATE);
        sayAll(x, "bid 4 s", "pass");
        due("own side's bid", say(x, "double"), STATE);
        due("own side's bid that is not doubled", say(x, "redouble"), STATE);
        sayAll(x, "bid 4 n", "bid 5 c");
        due("a lower number", say(x, "bid 4 n"), UNFAIR);
        sayAll(x, "double", "pass");
        due("the doubler's partner may not redouble", say(x, "redouble"), STATE);
        due("nor double", say(x, "double"), STATE);
        sayAll(x, "pass", "redouble", "pass", "pass");
        due("still bidding", x.told(0), 1);
        sayAll(x, "pass");
        due("three passes ended it", x.told(0), 2);
        due("pass in play", say(x, "pass"), STATE);
        due("bid in play", say(x, "bid 8 n"), STATE);
        due("deal in play", say(x, "deal 2"), STATE);
        TrickHouse y = with("deal 1", "pass", "pass", "pass", "bid 8 n", "pass", "pass");
        due("three passes before the bid do not count", y.told(0), 1);
        due("number 8 n is the last", say(y, "bid 8 n"), UNFAIR);
        TrickHouse z = with("deal 1", "pass", "pass", "pass");
        due("four are needed", z.told(0), 1);
        sayAll(z, "pass");
        due("without a bid the deal has ended", z.told(0), 0);
        due("and ranks may be", say(z, "rank 1"), 6);
    }

    private static void promise3Playing() {
        TrickHouse x = played(0);
        due("rank 8", say(x, "play c 8"), BAD);
        due("not in hand", say(x, "play c 1"), UNFAIR);
        due("a claim with 8 left", say(x, "claim 0"), STATE);
        due("a claim of 9 with 8 left", say(x, "claim 9"), STATE);
        playOn(x, 0, 11);
        // PLAYER 0 has no c; h 4 lies, of h 1 6 7 the stronger must come.
        due("trump below the strongest", say(x, "play h 1"), UNFAIR);
        due("no trump", say(x, "play d 4"), UNFAIR);
        due("trump above", say(x, "play h 7"), 18);
        TrickHouse any = with("rule 0", "deal 42", "bid 4 h", "pass", "pass", "pass");
        playOn(any, 0, 11);
        due("by rule 0 anything", any.hand(0, 2), bits(12, 13, 17, 22, 23, 26));
        TrickHouse some = with("rule 1", "deal 42", "bid 4 h", "pass", "pass", "pass");
        playOn(some, 0, 11);
        due("by rule 1 any trump", some.hand(0, 2), bits(17, 22, 23));
        due("by rule 1 no other", say(some, "play d 4"), UNFAIR);
        TrickHouse low = with("rule 2", "rank 1", "deal 42", "bid 4 h", "pass", "pass", "pass");
        for (String card : new String[] {"c 0", "c 2", "c 7", "c 1", "c 4", "c 3", "h 4"}) sayAll(low, "play " + card);
        due("turned, the stronger is h 1", low.hand(0, 2), bits(17));
        TrickHouse jack = with("rule 2", "rank 3", "deal 42", "bid 4 h", "pass", "pass", "pass");
        playOn(jack, 0, 11);
        due("above the jack there is none: any trump", jack.hand(0, 2), bits(17, 22, 23));
        TrickHouse none = with("rule 2", "deal 42", "bid 4 n", "pass", "pass", "pass");
        playOn(none, 0, 11);
        due("without a trump anything", none.hand(0, 2), bits(12, 13, 17, 22, 23, 26));
        TrickHouse must = with("deal 1", "bid 4 h", "pass", "pass", "pass", "play c 3");
        due("the suit must be followed", must.hand(2, 2), bits(2, 7));
        due("h may not be played then", say(must, "play h 3"), UNFAIR);
        // h is led and is TRUMP: who follows needs not play above it.
        TrickHouse led = with("rule 2", "deal 42", "bid 4 h", "pass", "pass", "pass", "play h 3");
        due("who follows a trump plays any", led.hand(2, 2), bits(16, 18));
    }

    private static void promise3Claims() {
        TrickHouse x = played(20);
        due("a claim of 9", say(x, "claim 9"), BAD);
        due("more than there are", say(x, "claim 8"), UNFAIR);
        due("not proved", say(x, "claim 3"), UNFAIR);
        due("proved", say(x, "claim 2"), 27);
        standing(x, 0, -1, 1, 0, 2, 4, 0, 5, 4, 4, 0, 2, 3, 3);
        due("its score", x.score(0), 40);
        due("the trick that was on is none", x.trick(5, 0), OUTSIDE);
        due("the cards are still there", x.hand(0, 0), bits(13, 17, 26));
        due("a new deal", say(x, "deal 5"), 28);
        due("by the next dealer", x.told(1), 1);
        TrickHouse y = played(21);
        due("player 1 claims less than can be had", say(y, "claim 0"), 28);
        due("the other side has the others", y.told(8), 5);
        due("of player 1's side", y.told(9), 3);
        due("a trick in which a card lies is told", y.trick(5, 1), 13);
        due("it has no winner", y.trick(5, 5), NONE);
        due("its leader", y.trick(5, 0), 0);
        due("the next is none", y.trick(6, 0), OUTSIDE);
        due("film leaves it out", y.film(0), 5);
        due("so does told", y.tells(0, 0), NONE);
        due("undo", y.undo(), 27);
        due("as if it had never been", y.told(8), 2);
        due("playing again", y.told(1), 1);
    }

    private static void promise3Full() {
        TrickHouse x = new TrickHouse();
        for (int k = 1; k <= 90; k++) due("act " + k, say(x, "rank" + k % 4), k);
        due("no more", say(x, "rank 1"), FULL);
        due("before STATE", say(x, "pass"), FULL);
        due("before BAD", say(x, "rank 9"), FULL);
        due("behind a fault", say(x, "rank"), -104);
        due("undone", x.undo(), 89);
        due("one more", say(x, "deal 4"), 90);
        due("the last", x.log(89, 0), 0);
    }

    private static void promise4() {
        TrickHouse x = new TrickHouse();
        due("none", x.undo(), STATE);
        sayAll(x, "rank 2", "rule 1", "deal 42", "bid 4 h", "double", "redouble");
        due("redouble undone", x.undo(), 5);
        standing(x, 1, 2, 0, -1, 2, 4, 1, 0, 0, 0, 2, 1, 0, 8);
        due("double undone", x.undo(), 4);
        due("none doubled", x.told(6), 0);
        due("bid undone", x.undo(), 3);
        standing(x, 1, 0, 0, -1, -1, -1, 0);
        due("deal undone", x.undo(), 2);
        standing(x, 0, -1, 0);
        due("no hands", x.hand(0, 0) | x.hand(3, 0), 0);
        due("nor first ones", x.hand(0, 1) | x.hand(3, 1), 0);
        due("rule undone", x.undo(), 1);
        due("rule", x.told(11), 0);
        due("rank", x.told(10), 2);
        due("rank undone", x.undo(), 0);
        due("rank", x.told(10), 0);
        due("no more", x.undo(), STATE);
        TrickHouse y = played(32);
        due("dealer", y.told(2), 1);
        due("total", y.total(0, 0), 40);
        due("the last card undone", y.undo(), 37);
        due("dealer again", y.told(2), 0);
        due("total again", y.total(0, 0), 0);
        due("no score", y.score(0), 0);
        due("in hand again", y.hand(2, 0), bits(30));
        due("in turn again", y.told(1), 2);
        due("played anew", say(y, "play s 6"), 38);
        due("total anew", y.total(0, 0), 40);
        write(y, "ra");
        y.undo();
        due("the tape stays", y.feed(1, 'n', 0, 0, 0, 0), 3);
    }

    private static void promise5() {
        TrickHouse x = played(2);
        int[][] acts = {{8, 2, -1, -1}, {0, 42, -1, -1}, {1, 4, 2, 0}, {2, -1, -1, 1}, {2, -1, -1, 2}, {2, -1, -1, 3},
            {5, 0, 0, 1}, {5, 2, 0, 2}};
        for (int i = 0; i < acts.length; i++) {
            for (int what = 0; what < 4; what++) due("log " + i + " " + what, x.log(i, what), acts[i][what]);
        }
        due("behind the last", x.log(8, 0), OUTSIDE);
        due("before the first", x.log(-1, 3), OUTSIDE);
        due("least", x.log(LEAST, 0), OUTSIDE);
        due("most", x.log(MOST, 0), OUTSIDE);
        due("what 4", x.log(0, 4), BAD);
        due("what -1", x.log(0, -1), BAD);
        due("BAD first", x.log(99, 4), BAD);
        TrickHouse y = with("rank 1", "deal 9", "bid 8 n", "double", "redouble");
        int[][] others = {{7, 1, -1, -1}, {0, 9, -1, -1}, {1, 8, 4, 0}, {3, -1, -1, 1}, {4, -1, -1, 2}};
        for (int i = 0; i < others.length; i++) {
            for (int what = 0; what < 4; what++) due("log " + i + " " + what, y.log(i, what), others[i][what]);
        }
        TrickHouse z = with("deal 42", "bid 4 h", "pass", "pass", "pass");
        due("a refused act", say(z, "play s 7"), UNFAIR);
        due("is not logged", z.log(5, 0), OUTSIDE);
        TrickHouse claim = played(20);
        say(claim, "claim 1");
        int[] claimed = {6, 1, -1, 0};
        for (int what = 0; what < 4; what++) due("claim's log", claim.log(26, what), claimed[what]);
    }

    private static void printed(TrickHouse x, int i, String text) {
        due("size of " + text, x.print(i, -1), text.length());
        for (int k = 0; k < text.length(); k++) due(text + " at " + k, x.print(i, k), text.charAt(k));
        due("behind " + text, x.print(i, text.length()), OUTSIDE);
    }

    private static void promise6() {
        TrickHouse x = with("rank  1", "\nrule2 ", "deal 000120", "bid 5n", "double", "redouble", "pass", "pass", "pass");
        String[] texts = {"rank 1", "rule 2", "deal 120", "bid 5 n", "double", "redouble", "pass", "pass", "pass"};
        for (int i = 0; i < texts.length; i++) printed(x, i, texts[i]);
        printed(with("deal 999999"), 0, "deal 999999");
        printed(with("deal 0"), 0, "deal 0");
        String[] bids = {"bid 4 c", "bid 4 d", "bid 4 h", "bid 4 s", "bid 8 n"};
        TrickHouse y = with("deal 1", bids[0], bids[1], bids[2], bids[3], bids[4]);
        for (int i = 0; i < bids.length; i++) printed(y, i + 1, bids[i]);
        TrickHouse z = played(1);
        printed(z, 6, "play c 0");
        TrickHouse claim = played(20);
        say(claim, "claim 0");
        printed(claim, 26, "claim 0");
        due("no such act", x.print(9, 0), OUTSIDE);
        due("nor -1", x.print(-1, -1), OUTSIDE);
        due("nor least", x.print(LEAST, 0), OUTSIDE);
        due("nor most", x.print(MOST, -1), OUTSIDE);
        due("byte -2", x.print(0, -2), OUTSIDE);
        due("byte least", x.print(0, LEAST), OUTSIDE);
        due("byte most", x.print(0, MOST), OUTSIDE);
    }

    private static void promise7() {
        TrickHouse x = new TrickHouse();
        due("-1", x.told(-1), BAD);
        due("14", x.told(14), BAD);
        due("least", x.told(LEAST), BAD);
        due("most", x.told(MOST), BAD);
        sayAll(x, "deal 42");
        standing(x, 1, 0, 0, -1, -1, -1, 0, 0, 0, 0, 0, 0, 0, 8);
        sayAll(x, "pass", "bid 4 h", "bid 4 s", "bid 5 h", "double");
        standing(x, 1, 1, 0, -1, 2, 5, 1, 0, 0, 0, 0, 0, 0, 8);
        sayAll(x, "redouble", "pass", "pass");
        standing(x, 1, 0, 0, -1, 2, 5, 2, 0, 0, 0, 0, 0, 2, 8);
        sayAll(x, "bid 5 s", "double", "pass");
        standing(x, 1, 3, 0, -1, 3, 5, 1, 0, 0, 0, 0, 0, 1, 8);
        sayAll(x, "pass", "pass");
        // PLAYER 2 named s first of its SIDE, though 0 has the last BID.
        standing(x, 2, 3, 0, 2, 3, 5, 1, 0, 0, 0, 0, 0, 3, 8);
        TrickHouse y = played(16);
        standing(y, 2, 1, 0, 0, 2, 4, 0, 4, 1, 3, 0, 2, 3, 4);
        playOn(y, 16, 31);
        standing(y, 2, 2, 0, 0, 2, 4, 0, 7, 3, 4, 0, 2, 3, 1);
        playOn(y, 31, 32);
        standing(y, 0, -1, 1, 0, 2, 4, 0, 8, 4, 4, 0, 2, 3, 0);
        sayAll(y, "deal 43");
        standing(y, 1, 1, 1, -1, -1, -1, 0, 0, 0, 0, 0, 2, 0, 8);
        sayAll(y, "pass", "pass", "pass", "pass");
        standing(y, 0, -1, 2, -1, -1, -1, 0, 0, 0, 0, 0, 2, 4, 8);
        sayAll(y, "deal 1", "pass", "pass", "pass", "pass", "deal 1", "pass", "pass", "pass", "pass");
        due("0 deals after 3", y.told(2), 0);
        TrickHouse doubled = with("rule 2", "deal 42", "bid 4 h", "double", "pass", "pass", "pass");
        playOn(doubled, 0, 32);
        standing(doubled, 0, -1, 1, 0, 2, 4, 1);
        sayAll(doubled, "deal 3");
        standing(doubled, 1, 1, 1, -1, -1, -1, 0);
        TrickHouse other = with("deal 1", "bid 4 c", "bid 4 d", "pass", "bid 5 c", "pass", "pass", "pass");
        due("the other side's naming of c does not count", other.told(3), 3);
    }

    private static void promise8() {
        TrickHouse x = with("deal 42");
        int[] hands = {bits(1, 9, 12, 13, 17, 22, 23, 26), bits(0, 4, 5, 6, 15, 19, 24, 29),
            bits(2, 3, 11, 14, 16, 18, 25, 30), bits(7, 8, 10, 20, 21, 27, 28, 31)};
        for (int p = 0; p < 4; p++) {
            due("has", x.hand(p, 0), hands[p]);
            due("had", x.hand(p, 1), hands[p]);
            due("bidding, none may be played", x.hand(p, 2), 0);
        }
        TrickHouse y = played(0);
        for (int p = 0; p < 4; p++) due("who leads may play all", y.hand(p, 2), p == 1 ? hands[1] : 0);
        playOn(y, 0, 1);
        due("has one less", y.hand(1, 0), hands[1] & ~1);
        due("had it", y.hand(1, 1), hands[1]);
        for (int p = 0; p < 4; p++) due("must follow", y.hand(p, 2), p == 2 ? bits(2, 3) : 0);
        playOn(y, 1, 32);
        for (int p = 0; p < 4; p++) {
            due("has none", y.hand(p, 0), 0);
            due("had", y.hand(p, 1), hands[p]);
            due("no deal is on", y.hand(p, 2), 0);
        }
        // By rows of the document: the seed 0's first z is 12345, so 31 changes places with 24.
        TrickHouse zero = with("deal 0");
        due("24 comes last", zero.hand(3, 1) >>> 24 & 1, 1);
        due("four hands of all cards", zero.hand(0, 1) | zero.hand(1, 1) | zero.hand(2, 1) | zero.hand(3, 1), -1);
        int[] wrong = {-1, 4, LEAST, MOST};
        for (int w : wrong) {
            due("no such player", x.hand(w, 0), BAD);
            due("no such what", x.hand(0, w == 4 ? 3 : w), BAD);
        }
    }

    private static void promise9() {
        TrickHouse x = played(0);
        int[] open = {1, -1, -1, -1, -1, -1, -1};
        for (int what = 0; what < 7; what++) due("the one that is on " + what, x.trick(0, what), open[what]);
        due("the next is none", x.trick(1, 0), OUTSIDE);
        playOn(x, 0, 6);
        int[] first = {1, 0, 2, 7, 1, 3, 0}, second = {3, 8, 9, -1, -1, -1, 1};
        for (int what = 0; what < 7; what++) {
            due("first " + what, x.trick(0, what), first[what]);
            due("second " + what, x.trick(1, what), second[what]);
        }
        playOn(x, 6, 32);
        for (int i = 0; i < 8; i++) {
            due("who led " + i, x.trick(i, 0), LEADERS[i]);
            due("who won " + i, x.trick(i, 5), WINNERS[i]);
        }
        due("the last one's cards", x.trick(7, 2), 17);
        due("its suit", x.trick(7, 6), 3);
        due("none behind it", x.trick(8, 0), OUTSIDE);
        due("rankings do not change it", say(x, "rank 1"), 39);
        due("who won", x.trick(0, 5), 3);
        int[] wrong = {-1, 8, LEAST, MOST};
        for (int w : wrong) {
            due("no such trick", x.trick(w, 0), OUTSIDE);
            due("no such what", x.trick(0, w), BAD);
            due("BAD first", x.trick(w, 7), BAD);
        }
        say(x, "deal 1");
        due("a new deal's have not begun", x.trick(0, 0), OUTSIDE);
        TrickHouse y = with("deal 1", "bid 4 c");
        due("bidding, none is on", y.trick(0, 0), OUTSIDE);
    }

    private static void promise10() {
        int[][] rows = {{0, 1, 2, 3, 4, 5, 6, 7}, {7, 6, 5, 4, 3, 2, 1, 0}, {0, 1, 2, 6, 3, 4, 5, 7}, {0, 1, 2, 3, 4, 5, 6, 7}};
        int[] jackOfTrump = {0, 1, 6, 2, 7, 3, 4, 5};
        TrickHouse x = new TrickHouse();
        for (int r = 0; r < 4; r++) {
            if (r > 0) say(x, "rank " + r);
            for (int rank = 0; rank < 8; rank++) {
                due("of d, trump n", x.strength(8 + rank, 4), rows[r][rank]);
                due("of s, trump h", x.strength(24 + rank, 2), rows[r][rank]);
                due("of h, trump h", x.strength(16 + rank, 2), r == 3 ? jackOfTrump[rank] : rows[r][rank]);
            }
        }
        int[] wrong = {-1, LEAST, MOST};
        for (int w : wrong) {
            due("card", x.strength(w, 0), BAD);
            due("trump", x.strength(0, w), BAD);
        }
        due("card 32", x.strength(32, 0), BAD);
        due("trump 5", x.strength(0, 5), BAD);
        due("the last card, trump n", x.strength(31, 4), 7);
        due("the first card, trump c", x.strength(0, 0), 0);
        due("the jack of c, trump c", x.strength(4, 0), 7);
        due("the jack of c, trump d", x.strength(4, 1), 4);
    }

    private static void promise11() {
        TrickHouse x = new TrickHouse();
        due("no deal, none is trump", x.taken(5, 0), UNLIKE);
        due("so all are of another suit", x.taken(5, 1), 5);
        sayAll(x, "deal 1");
        due("no bid", x.taken(23, 0), UNLIKE);
        due("no bid, a 7", x.taken(23, 2), 7);
        sayAll(x, "bid 4 h");
        due("trump", x.taken(20, 0), 4);
        due("not another suit", x.taken(20, 1), UNLIKE);
        due("another suit", x.taken(28, 1), 4);
        due("no trump", x.taken(28, 0), UNLIKE);
        due("no 7", x.taken(28, 2), UNLIKE);
        due("a 7", x.taken(31, 2), 7);
        due("the trump's 7 is none of these", x.taken(23, 2), UNLIKE);
        due("but a trump", x.taken(23, 0), 7);
        sayAll(x, "bid 4 n");
        due("without a trump none is one", x.taken(20, 0), UNLIKE);
        due("but of another suit", x.taken(20, 1), 4);
        due("the last deal's trump counts", played(32).taken(16, 0), 0);
        int[] wrong = {-1, 32, LEAST, MOST};
        for (int w : wrong) {
            due("card", x.taken(w, 0), BAD);
            due("kind", x.taken(0, w == 32 ? 3 : w), BAD);
        }
    }

    private static void promise12And14() {
        TrickHouse x = with("rule 2", "deal 42", "bid 7 h", "double", "pass", "pass", "pass");
        due("none yet", x.score(0), 0);
        playOn(x, 0, 31);
        due("not before the end", x.score(0), 0);
        playOn(x, 31, 32);
        // 4 of 7, doubled: PLAIN -30.
        int[] scores = {-60, -60, -120, -60, -120, -60};
        for (int house = 0; house < 6; house++) {
            due("score " + house, x.score(house), scores[house]);
            due("total of its side " + house, x.total(0, house), scores[house]);
            due("total of the other " + house, x.total(1, house), 0);
        }
        sayAll(x, "deal 1", "pass", "pass", "pass", "pass");
        due("a passed deal has no score", x.score(0), -60);
        due("nor adds to a total", x.total(0, 0), -60);
        sayAll(x, "deal 42", "pass", "bid 4 h", "pass", "pass", "pass");
        // DECLARER 3: the deal is on, nothing is scored.
        due("the last that ended", x.score(0), -60);
        playLowest(x, 0);
        int made = x.told(9);
        due("side 1's", x.score(5), made >= 4 ? 40 + 2 * (made - 4) : 10 * (made - 4));
        due("side 1's total", x.total(1, 5), x.score(5));
        due("side 0's total stays", x.total(0, 0), -60);
        TrickHouse even = with("deal 42", "bid 4 n", "pass", "pass", "pass");
        playLowest(even, 0);
        int got = even.told(8);
        due("EVEN without a trump", even.score(5), (got >= 4 ? 40 + 2 * (got - 4) : 10 * (got - 4)) + 5);
        due("summed so", even.total(0, 5), even.score(5));
        TrickHouse claimed = played(20);
        say(claimed, "claim 1");
        due("a claim's tricks are made", claimed.score(0), -10);
        due("and summed", claimed.total(0, 2), -20);
        int[] wrong = {-1, 6, LEAST, MOST};
        for (int w : wrong) {
            due("house", x.score(w), BAD);
            due("total's house", x.total(0, w), BAD);
            due("total's side", x.total(w == 6 ? 2 : w, 0), BAD);
        }
        TrickHouse twice = played(32);
        for (String text : new String[] {"deal 1", "pass", "pass", "pass", "pass", "deal 1", "pass", "pass", "pass", "pass",
            "deal 1", "pass", "pass", "pass", "pass", "deal 42", "bid 4 h", "pass", "pass", "pass"}) say(twice, text);
        for (int k = 0; k < 20; k++) say(twice, "play " + WHOLE[k]);
        due("a second deal's claim", say(twice, "claim2"), 79);
        due("is summed", twice.total(0, 0), 80);
    }

    private static void promise13() {
        TrickHouse x = new TrickHouse();
        int[][] rows = {
            // house, m, b, t, d, due
            {0, 4, 4, 0, 0, 40}, {0, 8, 4, 0, 0, 48}, {0, 3, 4, 0, 0, -10}, {0, 0, 8, 4, 0, -80}, {0, 5, 4, 0, 1, 84},
            {0, 5, 4, 0, 2, 168}, {0, 0, 8, 4, 2, -320}, {1, 6, 6, 0, 0, 60}, {1, 7, 7, 0, 0, 90}, {1, 8, 8, 0, 0, 100},
            {1, 6, 7, 0, 0, -10}, {1, 8, 7, 0, 1, 184}, {2, 4, 4, 0, 0, 40}, {2, 3, 4, 0, 0, -20}, {2, 3, 4, 0, 2, -80},
            {3, 8, 4, 0, 0, 98}, {3, 8, 7, 0, 0, 142}, {3, 7, 7, 0, 0, 90}, {3, 8, 8, 4, 2, 600}, {3, 2, 4, 4, 0, -20},
            {4, 5, 4, 0, 0, 40}, {4, 4, 4, 0, 0, 40}, {4, 8, 4, 0, 1, 80}, {4, 3, 4, 0, 0, -20}, {5, 4, 4, 4, 0, 45},
            {5, 4, 4, 3, 0, 40}, {5, 3, 4, 4, 0, -5}, {5, 3, 4, 4, 2, -20}, {1, 8, 8, 4, 0, 100}, {4, 8, 8, 4, 0, 80}};
        for (int[] r : rows) due("table " + r[0] + " " + r[1] + " " + r[2], x.table(r[0], r[1], r[2], r[3], r[4]), r[5]);
        int[][] wrong = {{-1, 4, 4, 0, 0}, {6, 4, 4, 0, 0}, {0, -1, 4, 0, 0}, {0, 9, 4, 0, 0}, {0, 4, 3, 0, 0}, {0, 4, 9, 0, 0},
            {0, 4, 4, -1, 0}, {0, 4, 4, 5, 0}, {0, 4, 4, 0, -1}, {0, 4, 4, 0, 3}, {LEAST, 4, 4, 0, 0}, {0, MOST, 4, 0, 0},
            {0, 4, LEAST, 0, 0}, {0, 4, 4, MOST, 0}, {0, 4, 4, 0, LEAST}};
        for (int[] w : wrong) due("table BAD", x.table(w[0], w[1], w[2], w[3], w[4]), BAD);
    }

    private static void promise15To17() {
        TrickHouse x = new TrickHouse();
        due("no deal", x.open(), STATE);
        TrickHouse y = played(19);
        due("4 are left", y.open(), STATE);
        due("4 are left, gains", y.gains(0), STATE);
        due("4 are left, best", y.best(0), STATE);
        due("BAD before STATE", y.gains(32), BAD);
        due("gains -1", y.gains(-1), BAD);
        due("gains least", y.gains(LEAST), BAD);
        due("gains most", y.gains(MOST), BAD);
        due("best -1", y.best(-1), BAD);
        due("best 2", y.best(2), BAD);
        playOn(y, 19, 20);
        due("3 are left", y.open(), 2);
        due("d 5", y.gains(13), 2);
        due("h 1", y.gains(17), 1);
        due("s 2", y.gains(26), 2);
        due("not in hand", y.gains(18), UNFAIR);
        due("best", y.best(0), 13);
        due("how many are worse", y.best(1), 1);
        playOn(y, 20, 23);
        // s 3 4 7 of PLAYER 3: s 3 is the least and gives the most.
        due("player 3's", y.open(), 1);
        due("best", y.best(0), 27);
        due("one is worse", y.best(1), 1);
        due("the trick that is on counts", y.told(13), 3);
        playOn(y, 23, 31);
        due("the last card", y.open(), 1);
        due("gains it", y.gains(30), 1);
        due("is the best", y.best(0), 30);
        due("none is worse", y.best(1), 0);
        due("in thought only", y.hand(2, 0), bits(30));
        playOn(y, 31, 32);
        due("ended", y.open(), STATE);
        due("ended, gains", y.gains(0), STATE);
        due("ended, best", y.best(1), STATE);
        TrickHouse most = with("rule 2", "deal 17", "bid 4 h", "pass", "pass", "pass");
        playLowest(most, 3);
        // c 0 is PLAYER 1's still, and led by none: its bit is the lowest there is.
        TrickHouse low = with("deal 42", "bid 4 h", "pass", "pass", "pass");
        for (String card : new String[] {"d 7", "d 3", "d 0", "d 1", "h 3", "h 0", "h 4", "h 1", "h 5", "h 6", "c 4", "h 2",
            "h 7", "c 5", "d 6", "d 2", "d 4", "s 0", "s 1", "s 3"}) sayAll(low, "play " + card);
        due("player 0 leads", low.told(1), 0);
        due("of c 1, d 5, s 2", low.hand(0, 2), bits(1, 13, 26));
        due("open", low.open(), 1);
        due("the best is d 5", low.best(0), 13);
        due("worse ones", low.best(1), 2);
        sayAll(low, "play d 5");
        due("with c 0", low.hand(1, 2), bits(0, 6, 29));
        due("gains of c 0", low.gains(0), 2);
        due("gains of c 6", low.gains(6), 2);
        due("best of player 1", low.best(0), 0);
        due("open of player 1", low.open(), 2);
        due("all three", most.open(), 3);
        due("by s 0", most.best(0), 24);
        due("two are worse", most.best(1), 2);
        due("h 7 gains 2", most.gains(23), 2);
        due("claimed", say(most, "claim 3"), 27);
        due("all eight", most.told(9), 8);
    }

    private static void promise18And19() {
        TrickHouse x = with("deal 42");
        due("bidding", x.drawn(1), STATE);
        due("bidding", x.chance(1, 1, 0), STATE);
        due("no deal", new TrickHouse().drawn(1), STATE);
        int[] wrong = {0, 21, -1, LEAST, MOST};
        for (int w : wrong) due("m", x.chance(1, w, 0), BAD);
        due("part 2", x.chance(1, 1, 2), BAD);
        due("part -1", x.chance(1, 1, -1), BAD);
        TrickHouse y = played(28);
        // One CARD each is left: every seed draws the same.
        due("side 0 has 4 then", y.drawn(5), 4);
        due("sure", y.chance(5, 20, 0), 1);
        due("in lowest terms", y.chance(5, 20, 1), 1);
        TrickHouse lost = with("rule 2", "deal 42", "bid 5 h", "pass", "pass", "pass");
        playOn(lost, 0, 28);
        due("never", lost.chance(5, 20, 0), 0);
        due("0 of 1", lost.chance(5, 20, 1), 1);
        TrickHouse z = played(0);
        int[] mades = new int[30];
        for (int k = 0; k < 30; k++) {
            mades[k] = z.drawn(MOST - 9 + k);
            due("tricks", mades[k] >= 0 && mades[k] <= 8 ? 1 : 0, 1);
        }
        for (int m = 1; m <= 20; m++) {
            int good = 0;
            for (int k = 0; k < m; k++) if (mades[k] >= 4) good++;
            int above = z.chance(MOST - 9, m, 0), below = z.chance(MOST - 9, m, 1);
            due("above to below as good to m", above * m, good * below);
            for (int d = 2; d <= below; d++) due("lowest terms", above % d == 0 && below % d == 0 ? 1 : 0, 0);
        }
        due("in thought only", z.told(7), 0);
        due("hands stay", z.hand(1, 0), z.hand(1, 1));
        for (int seed = -4; seed < 8; seed++) trulyDrawn(seed, "bid 4 h", 0);
        for (int seed = 90; seed < 98; seed++) trulyDrawn(seed, "pass", 1);
    }

    private static void trulyDrawn(int first, String opening, int side) {
        String[] texts = side == 0 ? new String[] {"rule 1", "deal 42", opening, "pass", "pass", "pass"}
            : new String[] {"rule 1", "deal 42", opening, "bid 4 s", "pass", "pass", "pass"};
        TrickHouse same = with(texts);
        TrickHouse drawn = with(texts);
        due("declarer's side", drawn.told(3), side);
        int seed = first;
        for (int k = 0; k < 32; k++) {
            seed = seed * 1103515245 + 12345;
            int may = drawn.hand(drawn.told(1), 2);
            int at = (seed >>> 9) % Integer.bitCount(may);
            while (at-- > 0) may &= may - 1;
            playLowestOf(drawn, may);
        }
        due("as if truly played", same.drawn(first), drawn.told(8 + side));
        due("ended", drawn.drawn(first), STATE);
    }

    private static void promise20() {
        TrickHouse x = with("rank 1", "rule 1", "deal 42", "bid 4 h", "double");
        int[] phases = {0, 0, 0, 1, 1, 1}, turns = {-1, -1, -1, 0, 1, 2};
        for (int n = 0; n <= 5; n++) {
            due("phase of " + n, x.replay(n, 0), phases[n]);
            due("turn of " + n, x.replay(n, 1), turns[n]);
        }
        due("rank of 0", x.replay(0, 10), 0);
        due("rank of 1", x.replay(1, 10), 1);
        due("doubled of 5", x.replay(5, 6), 1);
        due("n 6", x.replay(6, 0), BAD);
        due("n -1", x.replay(-1, 0), BAD);
        due("n least", x.replay(LEAST, 0), BAD);
        due("n most", x.replay(MOST, 0), BAD);
        int[] wrong = {-1, 14, 19, 32, LEAST, MOST};
        for (int w : wrong) due("what " + w, x.replay(0, w), BAD);
        TrickHouse y = played(32);
        sayAll(y, "rank 3");
        due("left of 38", y.replay(38, 13), 0);
        due("left of 37", y.replay(37, 13), 1);
        due("won of 37", y.replay(37, 9), 4);
        due("dealer of 38", y.replay(38, 2), 1);
        due("dealer of 37", y.replay(37, 2), 0);
        due("total of 37", y.replay(37, 20), 0);
        for (int what = 20; what < 32; what++) {
            due("total " + what, y.replay(38, what), what % 2 == 0 ? y.total(0, (what - 20) / 2) : 0);
        }
        due("EVEN of side 0", y.replay(38, 30), 40);
        TrickHouse sharp = with("rule 2", "deal 42", "bid 7 h", "pass", "pass", "pass");
        playOn(sharp, 0, 32);
        int[] totals = {-30, 0, -30, 0, -60, 0, -30, 0, -60, 0, -30, 0};
        for (int k = 0; k < 12; k++) due("total by house " + k / 2, sharp.replay(38, 20 + k), totals[k]);
        for (int what = 0; what < 14; what++) due("all of it " + what, y.replay(39, what), y.told(what));
        due("in thought only", y.told(10), 3);
        due("and the log stays", y.undo(), 38);
        TrickHouse claim = played(20);
        say(claim, "claim 2");
        due("a claim gone through", claim.replay(27, 8), 4);
        due("its total", claim.replay(27, 20), 40);
    }

    private static void promise21() {
        TrickHouse x = played(20);
        int[] wrong = {-1, 4, LEAST, MOST};
        for (int w : wrong) {
            due("no such sheet", x.tells(w, 0), BAD);
            due("no such what", x.tells(0, w == 4 ? 3 : w), BAD);
        }
        due("what before missing", x.tells(0, 3), BAD);
        due("missing", x.tells(0, 2), MISSING);
        x.sheet(0, 1, 9);
        due("more than 8", x.tells(0, 0), BAD);
        x.sheet(0, 1, 8);
        due("8 of zeros", x.tells(0, 0), 0);
        int[] five = {3, 1, 0, 1, 0};
        x.sheet(1, 1, 5);
        for (int i = 0; i < 5; i++) x.cell(1, i, five[i]);
        due("just so", x.tells(1, 0), NONE);
        // Of the TRICKS c 0 2 7 1 / d 0 1 7 3 / c 4 3 h 4 6 / d 4 h 3 d 6 2 / c 5 h 0 5 7 only h as TRUMP tells it.
        due("by trump h alone", x.tells(1, 1), 1 << 2);
        due("by PLAIN and TEN", x.tells(1, 2), 1 | 4);
        x.sheet(2, 1, 4);
        x.copy(1, 0, 2, 0, 4);
        due("there is more", x.tells(2, 0), 4);
        due("so no trump", x.tells(2, 1), 0);
        due("no ranking", x.tells(2, 2), 0);
        x.sheet(2, 1, 6);
        x.copy(1, 0, 2, 0, 5);
        due("there is none", x.tells(2, 0), 5);
        due("so no trump", x.tells(2, 1), 0);
        due("no ranking", x.tells(2, 2), 0);
        x.cell(1, 0, 1);
        due("the very first is otherwise", x.tells(1, 0), 0);
        due("no trump", x.tells(1, 1), 0);
        due("no ranking", x.tells(1, 2), 0);
        x.cell(1, 0, 3);
        x.cell(1, 2, 2);
        due("the first that is otherwise", x.tells(1, 0), 2);
        due("no trump", x.tells(1, 1), 0);
        x.cell(1, 2, 256);
        due("an int stays what it is", x.tells(1, 0), 2);
        x.cell(1, 2, 0);
        due("so again", x.tells(1, 0), NONE);
        say(x, "claim 0");
        due("what was claimed is not told", x.tells(1, 0), NONE);
        due("trumps by the ranking then", x.tells(1, 1), 1 << 2);
        say(x, "rank 1");
        due("trumps by the ranking as it is now", x.tells(1, 1), 0);
        due("rankings do not hang on it", x.tells(1, 2), 1 | 4);
        TrickHouse y = with("deal 1");
        y.sheet(0, 0, 0);
        due("nothing yet", y.tells(0, 0), NONE);
        due("all trumps", y.tells(0, 1), 31);
        due("all rankings", y.tells(0, 2), 15);
        TrickHouse whole = played(32);
        whole.film(3);
        due("all eight", whole.tells(3, 0), NONE);
        say(whole, "deal 1");
        due("a new deal has none of them", whole.tells(3, 0), 0);
    }

    private static void promise22() {
        TrickHouse x = played(7);
        int[] wrong = {-1, 4, LEAST, MOST};
        for (int w : wrong) due("no such sheet", x.film(w), BAD);
        x.sheet(0, 1, 9);
        due("full ones", x.film(0), 1);
        due("its size is theirs", x.cell(0, 1, 0), OUTSIDE);
        due("so it tells", x.tells(0, 0), NONE);
        x.cell(0, 0, 259);
        due("they are bytes", x.tells(0, 0), NONE);
        x.sheet(1, 0, 1);
        due("of sort 0", x.copy(0, 0, 1, 0, 1), 1);
        TrickHouse y = played(32);
        due("of the last deal", y.film(2), 8);
        for (int i = 0; i < 8; i++) {
            y.cell(2, i, WINNERS[i] + 1);
            due("item " + i, y.tells(2, 0), i);
            y.cell(2, i, WINNERS[i]);
            due("item " + i + " again", y.tells(2, 0), NONE);
        }
        due("none at first", new TrickHouse().film(0), 0);
        TrickHouse z = new TrickHouse();
        z.film(1);
        due("a row of none is not missing", z.tells(1, 0), NONE);
    }

    private static void promise23And24() {
        TrickHouse x = new TrickHouse();
        due("none", x.back(), STATE);
        due("of nothing", x.image(), 0);
        sayAll(x, "rank 2", "deal 42");
        due("back to nothing", x.back(), 0);
        standing(x, 0, -1, 0, -1, -1, -1, 0, 0, 0, 0, 0, 0, 0, 8);
        due("nothing to undo", x.undo(), STATE);
        TrickHouse y = played(20);
        due("26 acts", y.image(), 26);
        playOn(y, 20, 32);
        sayAll(y, "rank 3", "deal 5", "bid 8 n");
        due("another deal's total", y.total(0, 0), 40);
        y.sheet(0, 1, 2);
        write(y, "ru");
        due("back", y.back(), 26);
        standing(y, 2, 0, 0, 0, 2, 4, 0, 5, 2, 3, 0, 2, 3, 3);
        due("no total", y.total(0, 0), 0);
        due("hand", y.hand(0, 0), bits(13, 17, 26));
        due("the log", y.log(25, 1), 7);
        due("no longer", y.log(26, 0), OUTSIDE);
        due("sheets stay", y.cell(0, 1, 0), 1);
        due("the tape stays", y.feed(1, 'l', 0, 0, 0, 0), 3);
        y.act();
        due("undo goes on from there", y.undo(), 25);
        for (int k = 0; k < 3; k++) y.undo();
        due("back once more", y.back(), 26);
        playOn(y, 20, 22);
        due("a new image", y.image(), 28);
        for (int k = 0; k < 28; k++) y.undo();
        sayAll(y, "deal 7", "bid 5 n", "double", "pass", "pass", "pass");
        playLowest(y, 7);
        due("laid back over other acts", y.back(), 28);
        int[][] acts = {{8, 2, -1, -1}, {0, 42, -1, -1}, {1, 4, 2, 0}, {2, -1, -1, 1}, {2, -1, -1, 2}, {2, -1, -1, 3},
            {5, 0, 0, 1}};
        for (int i = 0; i < acts.length; i++) {
            for (int what = 0; what < 4; what++) due("log of it " + i + " " + what, y.log(i, what), acts[i][what]);
        }
        playOn(y, 22, 24);
        due("is the one that counts", y.back(), 28);
        due("its turn", y.told(1), 2);
    }

    private static void promise25() {
        TrickHouse x = new TrickHouse();
        int[] wrong = {-1, 4, LEAST, MOST};
        for (int w : wrong) {
            due("no such sheet", x.sheet(w, 0, 1), BAD);
            due("no such sheet to take away", x.sheet(w, -1, 1), BAD);
        }
        due("sort 2", x.sheet(0, 2, 1), BAD);
        due("sort -2", x.sheet(0, -2, 1), BAD);
        due("41", x.sheet(0, 0, 41), BAD);
        due("most", x.sheet(0, 1, MOST), BAD);
        due("-1", x.sheet(0, 0, -1), BELOW_ZERO);
        due("least", x.sheet(0, 1, LEAST), BELOW_ZERO);
        due("sort before size", x.sheet(0, 2, -1), BAD);
        due("still missing", x.cell(0, 0, 0), MISSING);
        due("40 bytes", x.sheet(0, 0, 40), 1);
        due("the last", x.cell(0, 39, 1), 1);
        due("no more", x.cell(0, 40, 1), OUTSIDE);
        due("a refusal leaves it", x.sheet(0, 0, -1), BELOW_ZERO);
        due("as it was", x.cell(0, 39, 1), 1);
        due("missing again, n does not matter", x.sheet(0, -1, -5), 1);
        due("it is", x.cell(0, 0, 1), MISSING);
        due("missing twice, n of 99", x.sheet(0, -1, 99), 1);
        TrickHouse y = played(12);
        int[] three = {3, 1, 0};
        y.sheet(3, 1, 3);
        for (int i = 0; i < 3; i++) y.cell(3, i, three[i]);
        due("told", y.tells(3, 0), NONE);
        y.sheet(3, 1, 3);
        due("all 0 anew", y.tells(3, 0), 0);
        y.cell(3, 0, 3);
        y.cell(3, 1, 1);
        due("the third is 0", y.tells(3, 0), NONE);
    }

    private static void promise26() {
        TrickHouse x = played(4);
        int[] wrong = {-1, 4, LEAST, MOST};
        for (int w : wrong) due("no such sheet", x.cell(w, 0, 0), BAD);
        due("missing", x.cell(0, 0, 0), MISSING);
        due("missing before outside", x.cell(0, -1, 0), MISSING);
        x.sheet(0, 0, 1);
        x.sheet(1, 1, 1);
        int[] outside = {-1, 1, LEAST, MOST};
        for (int w : outside) due("outside", x.cell(0, w, 0), OUTSIDE);
        due("3", x.cell(0, 0, 3), 1);
        due("is told", x.tells(0, 0), NONE);
        due("-253", x.cell(0, 0, -253), 1);
        due("is 3 in a byte", x.tells(0, 0), NONE);
        due("-253 as an int", x.cell(1, 0, -253), 1);
        due("is none", x.tells(1, 0), 0);
        due("3 as an int", x.cell(1, 0, 3), 1);
        due("is told", x.tells(1, 0), NONE);
    }

    private static void promise27() {
        TrickHouse x = played(20);
        int[] wrong = {-1, 4, LEAST, MOST};
        for (int w : wrong) {
            due("no such sheet", x.copy(w, 0, 0, 0, 0), BAD);
            due("no such other", x.copy(0, 0, w, 0, 0), BAD);
        }
        x.sheet(0, 0, 7);
        due("the other is missing", x.copy(0, 0, 1, 0, 1), MISSING);
        due("the first is missing", x.copy(1, 0, 0, 0, 1), MISSING);
        x.sheet(1, 1, 5);
        due("unlike", x.copy(0, 0, 1, 0, 1), UNLIKE);
        due("unlike before outside", x.copy(0, 0, 1, 0, -1), UNLIKE);
        x.sheet(1, 0, 5);
        int[][] outside = {{-1, 0, 1}, {0, -1, 1}, {0, 0, -1}, {7, 0, 1}, {0, 5, 1}, {0, 0, 6}, {3, 0, 5}, {0, 1, 5},
            {LEAST, 0, 1}, {0, MOST, 1}, {MOST, 0, MOST}, {0, 0, LEAST}, {1, 0, MOST}, {8, 0, 0}, {0, 6, 0}};
        for (int[] o : outside) due("outside " + o[0] + " " + o[1] + " " + o[2], x.copy(0, o[0], 1, o[1], o[2]), OUTSIDE);
        due("none at the end", x.copy(0, 7, 1, 5, 0), 0);
        int[] row = {9, 9, 3, 1, 0, 1, 0};
        for (int i = 0; i < 7; i++) x.cell(0, i, row[i]);
        due("five of them", x.copy(0, 2, 1, 0, 5), 5);
        due("are told", x.tells(1, 0), NONE);
        due("onto itself, forwards", x.copy(0, 2, 0, 0, 5), 5);
        x.sheet(1, 0, 5);
        x.copy(0, 0, 1, 0, 5);
        due("as they were", x.tells(1, 0), NONE);
        due("onto itself, backwards", x.copy(0, 0, 0, 2, 5), 5);
        x.sheet(1, 0, 5);
        x.copy(0, 2, 1, 0, 5);
        due("as they were then", x.tells(1, 0), NONE);
    }
}
