import java.util.ArrayList;
import java.util.List;
import java.util.function.Supplier;
import java.util.function.ToIntFunction;

/**
 * What the tests of the document's edges share. Each test names the part and the sentence of ../shared/DOC.md that it
 * holds by of(..); SentencesTest sees to it that the sentence stands there, and that none is left out.
 */
abstract class Edges {
    static final int NONE = -1, BAD = -2, STATE = -3, FULL = -4, UNFAIR = -6;
    static final int MISSING = -11, OUTSIDE = -12, UNLIKE = -13, BELOW_ZERO = -14, FAULT = -100;
    static final int LEAST = Integer.MIN_VALUE, MOST = Integer.MAX_VALUE;
    static final int ALL_CARDS = -1;

    // A whole deal of seed 42 by RULE 2, h being TRUMP, DECLARER 0: MADE is 4.
    static final String[] WHOLE = ("c0 c2 c7 c1 d0 d1 d7 d3 c4 c3 h4 h6 d4 h3 d6 d2 "
        + "c5 h0 h5 h7 d5 c6 h2 s3 s1 s4 s2 s0 s7 h1 s5 s6").split(" ");
    static final int[] LEADERS = {1, 3, 1, 0, 1, 0, 2, 3};
    static final int[] WINNERS = {3, 1, 0, 1, 0, 2, 3, 0};

    private static String part = "", sentence = "";
    private static int sentences, passed, failed, passedBefore;

    // ---- which sentence is held

    static void of(String newPart, String newSentence) {
        endSentence();
        part = newPart;
        sentence = newSentence;
        sentences++;
    }

    private static void endSentence() {
        if (sentences > 0 && passed + failed == passedBefore) fail("no test holds it");
        passedBefore = passed + failed;
    }

    static void finish() {
        endSentence();
        System.out.println(sentences + " sentences: " + passed + " passed, " + failed + " failed");
        if (failed != 0) System.exit(1);
    }

    private static void fail(String why) {
        failed++;
        System.out.println(part + ", \"" + sentence + "\": " + why);
    }

    static void due(String call, int got, int want) {
        if (got == want) passed++;
        else fail(call + " answered " + got + ", due is " + want);
    }

    /** What is told, from told(0) on. */
    static void standing(String when, House x, int... all) {
        for (int what = 0; what < all.length; what++) due(when + ": told(" + what + ")", x.told(what), all[what]);
    }

    // ---- refused calls, in twins: of two equal houses one is asked, and then they must still be equal

    @SafeVarargs
    static void refused(String call, int refusal, ToIntFunction<House> asks, Supplier<House>... states) {
        for (Supplier<House> state : states) {
            House asked = state.get();
            due(call, asks.applyAsInt(asked), refusal);
            unchanged(call, asked, state.get());
        }
    }

    /** A refused ACT: THE TAPE is empty then, as that of the states is. */
    @SafeVarargs
    static void refusedAct(String text, int refusal, Supplier<House>... states) {
        refused("act() of [" + text + "]", refusal, x -> x.say(text), states);
    }

    static void unchanged(String call, House asked, House unasked) {
        List<String> is = seen(asked), was = seen(unasked);
        for (int i = 0; i < was.size(); i++) {
            if (i < is.size() && is.get(i).equals(was.get(i))) continue;
            fail(call + " changed " + was.get(i) + " to " + (i < is.size() ? is.get(i) : "nothing"));
            return;
        }
        if (is.size() > was.size()) fail(call + " made new " + is.get(was.size()));
        else passed++;
    }

    /** All that can be seen of a house. It is spent then: what can't be seen otherwise is made to act. */
    private static List<String> seen(House x) {
        List<String> all = new ArrayList<>();
        seeStanding(x, all);
        for (int p = 0; p < 4; p++) {
            for (int what = 0; what < 3; what++) all.add("hand(" + p + ", " + what + ") = " + x.hand(p, what));
        }
        for (int i = 0; i < 8; i++) {
            for (int what = 0; what < 7; what++) all.add("trick(" + i + ", " + what + ") = " + x.trick(i, what));
        }
        for (int house = 0; house < 6; house++) {
            all.add("score(" + house + ") = " + x.score(house));
            for (int side = 0; side < 2; side++) all.add("total(" + side + ", " + house + ") = " + x.total(side, house));
        }
        all.add("open() = " + x.open() + ", best(0) = " + x.best(0) + ", drawn(7) = " + x.drawn(7));
        seeLog(x, all);
        seeSheets(x, all);
        all.add("the tape's size and a blank = " + x.feed(1, 32, 0, 0, 0, 0));
        all.add("act() of the tape = " + x.act());
        seeStanding(x, all);
        all.add("back() = " + x.back());
        seeStanding(x, all);
        return all;
    }

    private static void seeStanding(House x, List<String> all) {
        for (int what = 0; what < 14; what++) all.add("told(" + what + ") = " + x.told(what));
    }

    // Of each ACT one thing, of another kind for the next; of the last one all.
    private static void seeLog(House x, List<String> all) {
        int i = 0;
        while (true) {
            int thing = x.log(i, i % 4);
            all.add("log(" + i + ", " + i % 4 + ") = " + thing);
            if (thing == OUTSIDE) break;
            i++;
        }
        for (int what = 0; what < 4; what++) all.add("log(" + (i - 1) + ", " + what + ") = " + x.log(i - 1, what));
    }

    private static void seeSheets(House x, List<String> all) {
        for (int s = 0; s < 4; s++) {
            int least = 0, most = x.copy(s, 0, s, 0, 0) < 0 ? 0 : 40;
            while (least < most) {
                int middle = (least + most + 1) / 2;
                if (x.copy(s, 0, s, 0, middle) == middle) least = middle;
                else most = middle - 1;
            }
            all.add("size of sheet " + s + " = " + least);
            for (int what = 0; what < 3; what++) all.add("tells(" + s + ", " + what + ") = " + x.tells(s, what));
            for (int t = 0; t < s; t++) all.add("copy(" + s + ", 0, " + t + ", 0, 0) = " + x.copy(s, 0, t, 0, 0));
        }
    }

    // ---- states

    static House fresh() {
        return new House();
    }

    /** BIDDING; nothing is bid, PLAYER 0 is in turn. */
    static House dealt() {
        return new House().does("rank 3", "rule 1", "deal 42");
    }

    /** BIDDING; 5 h of PLAYER 0 is DOUBLED, PLAYER 2 is in turn. */
    static House bidding() {
        return dealt().does("bid 5 h", "double");
    }

    /** The deal of WHOLE, so many of its CARDS played. */
    static House playing(int cards) {
        House x = new House().does("rule 2", "deal 42", "bid 4 h", "pass", "pass", "pass");
        for (int k = 0; k < cards; k++) x.does("play " + WHOLE[k]);
        return x;
    }

    static House led() {
        return playing(21);
    }

    static House ended() {
        return playing(32);
    }

    static House claimed() {
        return playing(20).does("claim 2");
    }

    static House passedOut() {
        return new House().does("deal 7", "pass", "pass", "pass", "pass");
    }

    /** A second deal is on, there are TOTALS, an IMAGE that is another than THE LOG, SHEETS of both sorts and none. */
    static House rich() {
        House x = ended().does("rank 3", "deal 5", "bid 5 s", "double", "pass", "pass", "pass");
        x.image();
        x.plays("c6 c1 c0 c5 c7");
        sheets(x);
        return x;
    }

    /** SHEET 0: what film() tells; 1: 3 ints, 2 1 0; 2: 40 bytes; 3 is missing. */
    static void sheets(House x) {
        x.film(0);
        x.sheet(1, 1, 3);
        x.cell(1, 0, 2);
        x.cell(1, 1, 1);
        x.sheet(2, 0, 40);
    }

    /** As many ACTS as THE LOG takes. */
    static House fullLog() {
        House x = new House();
        for (int k = 0; k < 90; k++) x.does("rank" + k % 4);
        return x;
    }

    /** BIDDING has ended with this BID of a PLAYER, those ahead of them having passed. */
    static House contract(int player, String bid, String... before) {
        House x = new House().does(before).does("deal 42");
        for (int p = 0; p < player; p++) x.does("pass");
        return x.does(bid, "pass", "pass", "pass");
    }

    /** Who is in turn plays the least CARD that they may, till so few TRICKS are LEFT. */
    static House playLeast(House x, int left) {
        while (x.told(13) > left) {
            int card = Integer.numberOfTrailingZeros(x.hand(x.told(1), 2));
            x.does("play " + "cdhs".charAt(card / 8) + card % 8);
        }
        return x;
    }

    /** A house in which another text than an empty one is on THE TAPE. */
    static Supplier<House> withTape(Supplier<House> state, String text) {
        return () -> {
            House x = state.get();
            x.write(text);
            return x;
        };
    }

    static Supplier<House> after(String... acts) {
        return () -> new House().does(acts);
    }

    static int bits(int... cards) {
        int bits = 0;
        for (int card : cards) bits |= 1 << card;
        return bits;
    }

    /** CARDS as WHOLE tells them, as bits. */
    static int bits(String cards) {
        int bits = 0;
        for (String card : cards.split(" ")) bits |= 1 << card(card);
        return bits;
    }

    static int card(String card) {
        return 8 * "cdhs".indexOf(card.charAt(0)) + card.charAt(1) - '0';
    }
}
