import java.util.ArrayList;
import java.util.List;

/** Whole runs, chosen by a seed, of the program and of TrickHouseOracle, each answer held against the other's. */
public final class OracleTest {
    private static final int MOST_CALLS = 512;
    private static final int RUNS = 400;

    private int passed, failed;
    private long z;

    private TrickHouse x;
    private TrickHouseOracle o;
    private List<TrickHouseOracle.Act> imaged;
    private int calls;
    private String story;

    public static void main(String[] args) {
        OracleTest test = new OracleTest();
        for (int run = 0; run < RUNS; run++) test.run(run);
        System.out.println(test.passed + " passed, " + test.failed + " failed");
        if (test.failed != 0) System.exit(1);
    }

    private int any(int n) {
        z = z * 6364136223846793005L + 1442695040888963407L;
        return (int) ((z >>> 33) % n);
    }

    private void due(String call, int got, int want) {
        calls++;
        if (got == want) {
            passed++;
            return;
        }
        failed++;
        if (failed < 30) System.out.println(story + "\n  " + call + " answered " + got + ", due is " + want);
    }

    private void run(int number) {
        z = 7919L * number + 13;
        x = new TrickHouse();
        o = new TrickHouseOracle();
        imaged = null;
        calls = 0;
        story = "run " + number + ":";
        int looksFrom = 40 + any(300);
        while (calls < MOST_CALLS - 150) {
            if (any(25) == 0) undoOrImage();
            else oneAct();
            if (calls > looksFrom) {
                look();
                looksFrom = calls + 60;
            }
        }
        look();
        if (calls > MOST_CALLS) due("the calls of one object", calls, MOST_CALLS);
    }

    private void undoOrImage() {
        int which = any(4);
        if (which == 0) {
            story += " image";
            imaged = new ArrayList<>(o.log);
            due("image()", x.image(), o.log.size());
        } else if (which == 1 && any(2) == 0) {
            story += " back";
            due("back()", x.back(), imaged == null ? -3 : imaged.size());
            if (imaged != null) o = TrickHouseOracle.after(imaged);
        } else {
            story += " undo";
            int n = o.log.size();
            due("undo()", x.undo(), n == 0 ? -3 : n - 1);
            if (n > 0) o = TrickHouseOracle.after(new ArrayList<>(o.log.subList(0, n - 1)));
        }
    }

    private void oneAct() {
        if (any(30) == 0) {
            say(any(9), any(10), any(5));
        } else if (o.phase == 0) {
            int which = any(6);
            if (which == 0) say(7, any(5), -1);
            else if (which == 1) say(8, any(4), -1);
            else say(0, any(1000000), -1);
        } else if (o.phase == 1) {
            bidding();
        } else if (o.left() <= 3 && any(8) == 0) {
            say(6, any(5), -1);
        } else {
            playing();
        }
    }

    private void bidding() {
        int which = any(10);
        if (which < 3) {
            boolean first = o.number == -1;
            say(1, first ? 4 + any(2) : o.number + any(2), any(5));
        } else if (which < 8) {
            say(2, -1, -1);
        } else {
            say(which == 8 ? 3 : 4, -1, -1);
        }
    }

    private void playing() {
        List<Integer> from = any(10) == 0 ? o.hands.get(o.turn) : o.mayPlay();
        int card = from.get(any(from.size()));
        say(5, card % 8, card / 8);
    }

    private void say(int word, int number, int suit) {
        boolean hasNumber = word != 2 && word != 3 && word != 4;
        boolean hasSuit = word == 1 || word == 5;
        int n = hasNumber ? Math.max(number, 0) : -1;
        int s = hasSuit ? (word == 5 ? suit & 3 : suit) : -1;
        String numberText = n < 0 ? "" : "" + n;
        String suitText = s < 0 ? "" : "" + TrickHouseOracle.SUITS.charAt(s);
        String text = TrickHouseOracle.WORDS[word]
            + (word == 5 ? " " + suitText + any3(numberText) : any3(numberText) + (hasSuit ? any3(suitText) : ""));
        if (any(9) == 0) text = "\n" + text + " ";
        story += " [" + text.replace('\n', '|') + "]";
        for (int i = 0; i < text.length(); i += 5) {
            int rest = Math.min(5, text.length() - i);
            int[] b = new int[5];
            for (int k = 0; k < rest; k++) b[k] = text.charAt(i + k);
            due("feed", x.feed(rest, b[0], b[1], b[2], b[3], b[4]), i + rest);
        }
        int want = o.act(word, n, s);
        due("act() of " + text, x.act(), want);
    }

    // A TOKEN with blanks before it, or none: the TOKENS around it are of other kinds.
    private String any3(String token) {
        if (token.isEmpty()) return "";
        int which = any(6);
        return (which == 0 ? "" : which == 1 ? " \n" : " ") + token;
    }

    private void look() {
        for (int what = 0; what < 14; what++) due("told " + what, x.told(what), o.told(what));
        for (int p = 0; p < 4; p++) {
            due("hand now " + p, x.hand(p, 0), TrickHouseOracle.bits(o.hands.get(p)));
            due("hand first " + p, x.hand(p, 1), TrickHouseOracle.bits(o.dealt.get(p)));
            boolean may = o.phase == 2 && p == o.turn;
            due("hand may " + p, x.hand(p, 2), may ? TrickHouseOracle.bits(o.mayPlay()) : 0);
        }
        int some = any(9) - 1;
        for (int what = 0; what < 7; what++) {
            due("trick " + some + " " + what, x.trick(some, what), o.trick(some, what));
            int last = o.winners.size();
            due("trick " + last + " " + what, x.trick(last, what), o.trick(last, what));
        }
        lookAtCards();
        int house = any(6);
        due("score", x.score(house), o.score(house));
        due("total 0", x.total(0, house), o.totals[0][house]);
        due("total 1", x.total(1, house), o.totals[1][house]);
        lookAtLines();
        lookAtLog();
        lookAtSheets();
    }

    private void lookAtCards() {
        int card = any(32), t = any(5);
        due("strength", x.strength(card, t), TrickHouseOracle.strength(card, t, o.ranking));
        boolean isTrump = card / 8 == o.trump;
        due("taken 0", x.taken(card, 0), isTrump ? card % 8 : -13);
        due("taken 1", x.taken(card, 1), isTrump ? -13 : card % 8);
        due("taken 2", x.taken(card, 2), !isTrump && card % 8 == 7 ? 7 : -13);
    }

    private void lookAtLines() {
        boolean near = o.phase == 2 && o.left() <= 3;
        due("open", x.open(), near ? o.open() : -3);
        int most = -1, bestCard = -3, less = 0, count = 0;
        List<Integer> may = near ? o.mayPlay() : new ArrayList<>();
        for (int c : may) {
            int gain = o.gains(c);
            due("gains " + c, x.gains(c), gain);
            if (gain > most) {
                most = gain;
                bestCard = c;
                less = count;
            } else if (gain < most) less++;
            count++;
        }
        due("best 0", x.best(0), bestCard);
        due("best 1", x.best(1), near ? less : -3);
        int other = any(32);
        if (!may.contains(other)) due("gains " + other, x.gains(other), near ? -6 : -3);
        int seed = any(2000) - 1000, m = 1 + any(20), good = 0;
        due("drawn " + seed, x.drawn(seed), o.phase == 2 ? o.drawn(seed) : -3);
        if (o.phase != 2) {
            due("chance", x.chance(seed, m, 0), -3);
            return;
        }
        for (int k = 0; k < m; k++) if (o.drawn(seed + k) >= o.number) good++;
        int d = m;
        while (good % d != 0 || m % d != 0) d--;
        due("chance above", x.chance(seed, m, 0), good / d);
        due("chance below", x.chance(seed, m, 1), m / d);
    }

    private void lookAtLog() {
        int n = any(o.log.size() + 1);
        TrickHouseOracle before = TrickHouseOracle.after(new ArrayList<>(o.log.subList(0, n)));
        int what = any(14);
        due("replay " + n + " " + what, x.replay(n, what), before.told(what));
        int of = any(12);
        due("replay total", x.replay(n, 20 + of), before.totals[of % 2][of / 2]);
        if (n == o.log.size()) return;
        TrickHouseOracle.Act act = o.log.get(n);
        String text = TrickHouseOracle.text(act);
        int k = any(text.length());
        due("print size", x.print(n, -1), text.length());
        due("print " + k, x.print(n, k), text.charAt(k));
        due("log 0", x.log(n, 0), act.word());
        due("log 1", x.log(n, 1), act.number());
        due("log 2", x.log(n, 2), act.suit());
        due("log 3", x.log(n, 3), act.player());
    }

    private void lookAtSheets() {
        int full = o.winners.size();
        due("film", x.film(2), full);
        due("tells 0", x.tells(2, 0), -1);
        due("tells 1", x.tells(2, 1), o.trumpsThatFit());
        due("tells 2", x.tells(2, 2), o.rankingsThatFit());
        if (full == 0) return;
        int i = any(full);
        due("cell", x.cell(2, i, 9), 1);
        due("tells 0 of another", x.tells(2, 0), i);
        due("tells 1 of another", x.tells(2, 1), 0);
    }
}
