import java.util.ArrayList;
import java.util.List;

/**
 * The document told a second time, slowly and with lists, so that whole runs of the program can be held
 * against it. It shares no code with the program; what it plays on in thought it copies.
 */
final class TrickHouseOracle {
    static final String[] WORDS = {"deal", "bid", "pass", "double", "redouble", "play", "claim", "rank", "rule"};
    static final String SUITS = "cdhsn";

    /** An ACT that has been read, with who did it. */
    record Act(int word, int number, int suit, int player) { }

    final List<Act> log = new ArrayList<>();
    int phase, turn, dealer, ranking, rule;
    int declarer = -1, trump = -1, number = -1, bidder = -1, doubles, passes;
    List<List<Integer>> dealt = fourEmpty();
    List<List<Integer>> hands = fourEmpty();
    List<List<Integer>> tricks = new ArrayList<>();
    List<Integer> leaders = new ArrayList<>();
    List<Integer> winners = new ArrayList<>();
    List<int[]> named = new ArrayList<>();
    int[] won = new int[2];
    int[] lastScored;
    int[][] totals = new int[2][6];

    private static List<List<Integer>> fourEmpty() {
        List<List<Integer>> all = new ArrayList<>();
        for (int p = 0; p < 4; p++) all.add(new ArrayList<>());
        return all;
    }

    static TrickHouseOracle after(List<Act> acts) {
        TrickHouseOracle made = new TrickHouseOracle();
        for (Act act : acts) {
            made.log.add(act);
            made.perform(act.word, act.number, act.suit);
        }
        return made;
    }

    // What act() answers to an ACT that is well written.
    int act(int word, int n, int suit) {
        if (log.size() >= 90) return -4;
        if (!inTime(word)) return -3;
        if (word == 1 && (n < 4 || n > 8)) return -2;
        if (word == 5 && n > 7) return -2;
        if (word == 6 && n > 8) return -2;
        if (word == 7 && n > 3) return -2;
        if (word == 8 && n > 2) return -2;
        if (word == 1 && number != -1 && (n < number || n == number && suit <= trump)) return -6;
        if (word == 5 && !mayPlay().contains(suit * 8 + n)) return -6;
        if (word == 6 && n > open()) return -6;
        boolean byPlayer = word != 0 && word != 7 && word != 8;
        log.add(new Act(word, n, suit, byPlayer ? turn : -1));
        perform(word, n, suit);
        return log.size();
    }

    boolean inTime(int word) {
        switch (word) {
            case 0: case 7: case 8: return phase == 0;
            case 1: case 2: return phase == 1;
            case 3: return phase == 1 && number != -1 && bidder % 2 != turn % 2 && doubles == 0;
            case 4: return phase == 1 && number != -1 && bidder % 2 == turn % 2 && doubles == 1;
            case 5: return phase == 2;
            default: return phase == 2 && left() <= 3;
        }
    }

    private void perform(int word, int n, int suit) {
        switch (word) {
            case 0: deal(n); break;
            case 1:
                number = n; trump = suit; bidder = turn; doubles = 0; passes = 0;
                named.add(new int[] {turn, suit});
                turn = (turn + 1) % 4;
                break;
            case 2: pass(); break;
            case 3: doubles = 1; passes = 0; turn = (turn + 1) % 4; break;
            case 4: doubles = 2; passes = 0; turn = (turn + 1) % 4; break;
            case 5:
                lay(suit * 8 + n);
                if (winners.size() == 8) endWithScore();
                break;
            case 6:
                won[turn % 2] += n;
                won[1 - turn % 2] += left() - n;
                endWithScore();
                break;
            case 7: ranking = n; break;
            default: rule = n; break;
        }
    }

    private void deal(int seed) {
        phase = 1; turn = dealer; declarer = -1; trump = -1; number = -1; bidder = -1; doubles = 0; passes = 0;
        tricks = new ArrayList<>(); leaders = new ArrayList<>(); winners = new ArrayList<>();
        named = new ArrayList<>(); won = new int[2];
        List<Integer> row = new ArrayList<>();
        for (int c = 0; c < 32; c++) row.add(c);
        int z = seed;
        for (int i = 31; i >= 1; i--) {
            z = z * 1103515245 + 12345;
            java.util.Collections.swap(row, i, (z >>> 9) % (i + 1));
        }
        dealt = fourEmpty(); hands = fourEmpty();
        for (int c = 0; c < 32; c++) {
            dealt.get(c / 8).add(row.get(c));
            hands.get(c / 8).add(row.get(c));
        }
    }

    private void pass() {
        passes++;
        turn = (turn + 1) % 4;
        if (number != -1 && passes == 3) {
            for (int[] who : named) {
                if (declarer == -1 && who[0] % 2 == bidder % 2 && who[1] == trump) declarer = who[0];
            }
            phase = 2;
            turn = (declarer + 1) % 4;
        } else if (number == -1 && passes == 4) {
            phase = 0;
            dealer = (dealer + 1) % 4;
        }
    }

    private void endWithScore() {
        phase = 0;
        dealer = (dealer + 1) % 4;
        lastScored = new int[] {won[declarer % 2], number, trump, doubles};
        for (int house = 0; house < 6; house++) {
            totals[declarer % 2][house] += table(house, won[declarer % 2], number, trump, doubles);
        }
    }

    static int table(int house, int m, int b, int t, int d) {
        int times = new int[] {1, 2, 4}[d];
        return times * single(house, m, b, t);
    }

    private static int single(int house, int m, int b, int t) {
        switch (house) {
            case 0: return m >= b ? 10 * b + 2 * (m - b) : 10 * (m - b);
            case 1: return single(0, m, b, t) + (b >= 7 && m >= b ? 20 : 0);
            case 2: return single(0, m, b, t) < 0 ? 2 * single(0, m, b, t) : single(0, m, b, t);
            case 3: return single(1, m, b, t) + (m == 8 ? 50 : 0);
            case 4: return single(2, m, b, t) - (m > b ? 2 * (m - b) : 0);
            default: return single(0, m, b, t) + (t == 4 ? 5 : 0);
        }
    }

    int score(int house) {
        return lastScored == null ? 0 : table(house, lastScored[0], lastScored[1], lastScored[2], lastScored[3]);
    }

    int left() {
        return 8 - winners.size();
    }

    private List<Integer> lying() {
        if (tricks.isEmpty() || tricks.get(tricks.size() - 1).size() == 4) return new ArrayList<>();
        return tricks.get(tricks.size() - 1);
    }

    // Twice the height at which a RANK stands, that TEN's 6.5 be whole.
    static int height(int rank, boolean ofTrump, int ranking) {
        if (ranking == 1) return 2 * (7 - rank);
        if (ranking == 2 && rank == 3) return 13;
        if (ranking == 3 && ofTrump && rank == 4) return 100;
        if (ranking == 3 && ofTrump && rank == 2) return 99;
        return 2 * rank;
    }

    static int strength(int card, int t, int ranking) {
        int weaker = 0;
        for (int r = 0; r < 8; r++) {
            if (height(r, card / 8 == t, ranking) < height(card % 8, card / 8 == t, ranking)) weaker++;
        }
        return weaker;
    }

    List<Integer> mayPlay() {
        List<Integer> hand = new ArrayList<>(hands.get(turn));
        java.util.Collections.sort(hand);
        List<Integer> lying = lying();
        if (lying.isEmpty()) return hand;
        List<Integer> following = ofSuit(hand, lying.get(0) / 8);
        if (!following.isEmpty()) return following;
        List<Integer> trumps = ofSuit(hand, trump);
        if (rule == 0 || trumps.isEmpty()) return hand;
        if (rule == 1) return trumps;
        List<Integer> beating = new ArrayList<>();
        for (int mine : trumps) {
            boolean beatsAll = true;
            for (int other : ofSuit(lying, trump)) {
                if (height(other % 8, true, ranking) > height(mine % 8, true, ranking)) beatsAll = false;
            }
            if (beatsAll) beating.add(mine);
        }
        return beating.isEmpty() ? trumps : beating;
    }

    private static List<Integer> ofSuit(List<Integer> cards, int suit) {
        List<Integer> found = new ArrayList<>();
        for (int c : cards) if (c / 8 == suit) found.add(c);
        return found;
    }

    void lay(int card) {
        if (lying().isEmpty()) {
            tricks.add(new ArrayList<>());
            leaders.add(turn);
        }
        List<Integer> trick = tricks.get(tricks.size() - 1);
        trick.add(card);
        hands.get(turn).remove(Integer.valueOf(card));
        turn = (turn + 1) % 4;
        if (trick.size() == 4) {
            turn = winner(tricks.size() - 1, trump, ranking);
            winners.add(turn);
            won[turn % 2]++;
        }
    }

    int winner(int i, int t, int r) {
        List<Integer> trick = tricks.get(i);
        List<Integer> inRace = ofSuit(trick, t);
        if (inRace.isEmpty()) inRace = ofSuit(trick, trick.get(0) / 8);
        int top = inRace.get(0);
        for (int c : inRace) {
            if (height(c % 8, c / 8 == t, r) > height(top % 8, top / 8 == t, r)) top = c;
        }
        return (leaders.get(i) + trick.indexOf(top)) % 4;
    }

    // ---- in thought

    TrickHouseOracle inThought() {
        TrickHouseOracle made = new TrickHouseOracle();
        made.phase = phase; made.turn = turn; made.ranking = ranking; made.rule = rule;
        made.declarer = declarer; made.trump = trump; made.number = number;
        made.hands = fourEmpty();
        for (int p = 0; p < 4; p++) made.hands.get(p).addAll(hands.get(p));
        for (List<Integer> trick : tricks) made.tricks.add(new ArrayList<>(trick));
        made.leaders.addAll(leaders);
        made.winners.addAll(winners);
        made.won = won.clone();
        return made;
    }

    // TRICKS that SIDE 0 takes of those LEFT.
    private int firstSideTakes() {
        if (left() == 0) return 0;
        int sought = -1;
        for (int card : mayPlay()) {
            TrickHouseOracle next = inThought();
            next.lay(card);
            int takes = next.won[0] - won[0] + next.firstSideTakes();
            if (sought == -1) sought = takes;
            sought = turn % 2 == 0 ? Math.max(sought, takes) : Math.min(sought, takes);
        }
        return sought;
    }

    int open() {
        return turn % 2 == 0 ? firstSideTakes() : left() - firstSideTakes();
    }

    int gains(int card) {
        TrickHouseOracle next = inThought();
        next.lay(card);
        int first = next.won[0] - won[0] + next.firstSideTakes();
        return turn % 2 == 0 ? first : left() - first;
    }

    int drawn(int seed) {
        TrickHouseOracle play = inThought();
        int z = seed;
        while (play.left() > 0) {
            z = z * 1103515245 + 12345;
            List<Integer> may = play.mayPlay();
            play.lay(may.get((z >>> 9) % may.size()));
        }
        return play.won[declarer % 2];
    }

    // ---- as the program tells it

    int told(int what) {
        int[] all = {phase, phase == 0 ? -1 : turn, dealer, declarer, trump, number, doubles, winners.size(),
            won[0], won[1], ranking, rule, passes, left()};
        return what >= 0 && what < all.length ? all[what] : -2;
    }

    static int bits(List<Integer> cards) {
        int bits = 0;
        for (int c : cards) bits |= 1 << c;
        return bits;
    }

    int trick(int i, int what) {
        boolean exists = i >= 0 && (i < tricks.size() || phase == 2 && i == winners.size());
        if (what < 0 || what > 6) return -2;
        if (!exists) return -12;
        boolean begun = i < tricks.size();
        if (what == 0) return begun ? leaders.get(i) : turn;
        if (what == 5) return i < winners.size() ? winners.get(i) : -1;
        if (what == 6) return begun ? tricks.get(i).get(0) / 8 : -1;
        return begun && what - 1 < tricks.get(i).size() ? tricks.get(i).get(what - 1) : -1;
    }

    int trumpsThatFit() {
        int bits = 0;
        for (int t = 0; t < 5; t++) if (winnersBy(t, ranking).equals(winners)) bits |= 1 << t;
        return bits;
    }

    int rankingsThatFit() {
        int bits = 0;
        for (int r = 0; r < 4; r++) if (winnersBy(trump == -1 ? 4 : trump, r).equals(winners)) bits |= 1 << r;
        return bits;
    }

    private List<Integer> winnersBy(int t, int r) {
        List<Integer> all = new ArrayList<>();
        for (int i = 0; i < winners.size(); i++) all.add(winner(i, t, r));
        return all;
    }

    static String text(Act act) {
        String suit = act.suit < 0 ? "" : " " + SUITS.charAt(act.suit);
        String number = act.number < 0 ? "" : " " + act.number;
        return WORDS[act.word] + (act.word == 5 ? suit + number : number + suit);
    }
}
