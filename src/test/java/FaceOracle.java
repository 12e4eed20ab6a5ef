import java.util.ArrayList;
import java.util.Arrays;
import java.util.List;
import java.util.regex.Matcher;
import java.util.regex.Pattern;

/** The whole face told a second time: THE TAPE, SHEETS, THE IMAGE and what is refused, around TrickHouseOracle's DEALS. */
final class FaceOracle {
    private static final int NONE = -1, BAD = -2, STATE = -3, FULL = -4, UNFAIR = -6;
    private static final int MISSING = -11, OUTSIDE = -12, UNLIKE = -13, BELOW_ZERO = -14;
    private static final Pattern TOKEN = Pattern.compile("[ \n]*([a-z]+|[0-9]+|[^a-z0-9 \n]|$)", Pattern.DOTALL);
    // What follows each WORD: N a NUMBER, T a TRUMP, S a SUIT that is played.
    private static final String[] SHAPES = {"N", "NT", "", "", "", "SN", "N", "N", "N"};

    private final StringBuilder tape = new StringBuilder();
    private final int[][] sheets = new int[4][];
    private final int[] sorts = {-1, -1, -1, -1};
    private TrickHouseOracle game = new TrickHouseOracle();
    private List<TrickHouseOracle.Act> image;

    private static boolean in(int v, int least, int most) {
        return least <= v && v <= most;
    }

    int feed(int n, int... bytes) {
        if (!in(n, 1, 5)) return BAD;
        for (int b : bytes) if (!in(b, 0, 255)) return BAD;
        if (tape.length() + n > 40) return FULL;
        for (int k = 0; k < n; k++) tape.append((char) bytes[k]);
        return tape.length();
    }

    int act() {
        String text = tape.toString();
        tape.setLength(0);
        Matcher token = TOKEN.matcher(text);
        int word = token.lookingAt() ? Arrays.asList(TrickHouseOracle.WORDS).indexOf(token.group(1)) : NONE;
        if (word < 0) return -100 - token.start(1);
        int number = NONE, suit = NONE, from = token.end();
        for (char shape : SHAPES[word].toCharArray()) {
            token.region(from, text.length());
            token.lookingAt();
            String what = token.group(1);
            from = token.end();
            boolean fits = shape == 'N' ? what.matches("[0-9]{1,6}") : what.matches(shape == 'T' ? "[cdhsn]" : "[cdhs]");
            if (!fits) return -100 - token.start(1);
            if (shape == 'N') number = Integer.parseInt(what);
            else suit = TrickHouseOracle.SUITS.indexOf(what);
        }
        token.region(from, text.length());
        token.lookingAt();
        return token.group(1).isEmpty() ? game.act(word, number, suit) : -100 - token.start(1);
    }

    private int goTo(List<TrickHouseOracle.Act> acts) {
        game = TrickHouseOracle.after(new ArrayList<>(acts));
        return acts.size();
    }

    int undo() {
        return game.log.isEmpty() ? STATE : goTo(game.log.subList(0, game.log.size() - 1));
    }

    int log(int i, int what) {
        if (!in(what, 0, 3)) return BAD;
        if (!in(i, 0, game.log.size() - 1)) return OUTSIDE;
        TrickHouseOracle.Act act = game.log.get(i);
        return new int[] {act.word(), act.number(), act.suit(), act.player()}[what];
    }

    int print(int i, int k) {
        if (!in(i, 0, game.log.size() - 1)) return OUTSIDE;
        String text = TrickHouseOracle.text(game.log.get(i));
        if (k == -1) return text.length();
        return in(k, 0, text.length() - 1) ? text.charAt(k) : OUTSIDE;
    }

    int told(int what) { return game.told(what); }

    int hand(int player, int what) {
        if (!in(player, 0, 3) || !in(what, 0, 2)) return BAD;
        if (what == 2) return game.phase == 2 && game.turn == player ? TrickHouseOracle.bits(game.mayPlay()) : 0;
        return TrickHouseOracle.bits((what == 0 ? game.hands : game.dealt).get(player));
    }

    int trick(int i, int what) { return game.trick(i, what); }

    int strength(int card, int t) {
        return in(card, 0, 31) && in(t, 0, 4) ? TrickHouseOracle.strength(card, t, game.ranking) : BAD;
    }

    int taken(int card, int kind) {
        if (!in(card, 0, 31) || !in(kind, 0, 2)) return BAD;
        boolean isTrump = card / 8 == game.trump;
        if (kind == 0 ? !isTrump : isTrump) return UNLIKE;
        return kind == 2 && card % 8 != 7 ? UNLIKE : card % 8;
    }

    int score(int house) { return in(house, 0, 5) ? game.score(house) : BAD; }

    int table(int house, int m, int b, int t, int d) {
        boolean good = in(house, 0, 5) && in(m, 0, 8) && in(b, 4, 8) && in(t, 0, 4) && in(d, 0, 2);
        return good ? TrickHouseOracle.table(house, m, b, t, d) : BAD;
    }

    int total(int side, int house) { return in(side, 0, 1) && in(house, 0, 5) ? game.totals[side][house] : BAD; }

    private boolean isNear() { return game.phase == 2 && game.left() <= 3; }

    int open() { return isNear() ? game.open() : STATE; }

    int gains(int card) {
        if (!in(card, 0, 31)) return BAD;
        if (!isNear()) return STATE;
        return game.mayPlay().contains(card) ? game.gains(card) : UNFAIR;
    }

    int best(int what) {
        if (!in(what, 0, 1)) return BAD;
        if (!isNear()) return STATE;
        int most = -1, card = NONE, less = 0;
        for (int c : game.mayPlay()) most = Math.max(most, game.gains(c));
        for (int c : game.mayPlay()) {
            if (game.gains(c) < most) less++;
            else if (card == NONE) card = c;
        }
        return what == 0 ? card : less;
    }

    int drawn(int seed) { return game.phase == 2 ? game.drawn(seed) : STATE; }

    int chance(int seed, int m, int part) {
        if (!in(m, 1, 20) || !in(part, 0, 1)) return BAD;
        if (game.phase != 2) return STATE;
        int good = 0, d = m;
        for (int k = 0; k < m; k++) if (game.drawn(seed + k) >= game.number) good++;
        while (good % d != 0 || m % d != 0) d--;
        return (part == 0 ? good : m) / d;
    }

    int replay(int n, int what) {
        if (!in(n, 0, game.log.size()) || !in(what, 0, 13) && !in(what, 20, 31)) return BAD;
        TrickHouseOracle then = TrickHouseOracle.after(new ArrayList<>(game.log.subList(0, n)));
        return what < 20 ? then.told(what) : then.totals[what % 2][what / 2 - 10];
    }

    int tells(int sheet, int what) {
        if (!in(sheet, 0, 3) || !in(what, 0, 2)) return BAD;
        int[] row = sheets[sheet];
        if (row == null) return MISSING;
        if (row.length > 8) return BAD;
        int full = game.winners.size(), bits = 0;
        if (what == 0) {
            for (int i = 0; i < Math.max(full, row.length); i++) {
                if (i >= full || i >= row.length || row[i] != game.winners.get(i)) return i;
            }
            return NONE;
        }
        for (int k = 0; k < (what == 1 ? 5 : 4); k++) {
            boolean fits = row.length == full;
            for (int i = 0; i < full && fits; i++) {
                fits = row[i] == (what == 1 ? game.winner(i, k, game.ranking) : game.winner(i, game.trump, k));
            }
            if (fits) bits |= 1 << k;
        }
        return bits;
    }

    int film(int sheet) {
        if (!in(sheet, 0, 3)) return BAD;
        sheets[sheet] = game.winners.stream().mapToInt(w -> w).toArray();
        sorts[sheet] = 0;
        return game.winners.size();
    }

    int image() {
        image = new ArrayList<>(game.log);
        return image.size();
    }

    int back() { return image == null ? STATE : goTo(image); }

    int sheet(int sheet, int sort, int n) {
        if (!in(sheet, 0, 3) || !in(sort, -1, 1)) return BAD;
        if (sort != -1 && n > 40) return BAD;
        if (sort != -1 && n < 0) return BELOW_ZERO;
        sheets[sheet] = sort == -1 ? null : new int[n];
        sorts[sheet] = sort;
        return 1;
    }

    int cell(int sheet, int i, int v) {
        if (!in(sheet, 0, 3)) return BAD;
        if (sheets[sheet] == null) return MISSING;
        if (!in(i, 0, sheets[sheet].length - 1)) return OUTSIDE;
        sheets[sheet][i] = sorts[sheet] == 0 ? v & 255 : v;
        return 1;
    }

    int copy(int sheet, int i, int other, int j, int n) {
        if (!in(sheet, 0, 3) || !in(other, 0, 3)) return BAD;
        if (sheets[sheet] == null || sheets[other] == null) return MISSING;
        if (sorts[sheet] != sorts[other]) return UNLIKE;
        int[] from = sheets[sheet].clone(), to = sheets[other];
        if (i < 0 || j < 0 || n < 0 || (long) i + n > from.length || (long) j + n > to.length) return OUTSIDE;
        for (int k = 0; k < n; k++) to[j + k] = from[i + k];
        return n;
    }

    // ---- what a test may want to say next, so that DEALS go on

    /** An ACT that can be done now, or nearly: k chooses. */
    String likely(int k) {
        if (game.phase == 0) return k % 4 == 0 ? "rank " + k % 5 : k % 4 == 1 ? "rule " + k % 7 % 4 : "deal " + k % 1000000;
        if (game.phase == 1) {
            if (k % 3 == 0) return "bid " + Math.max(4, game.number + k / 3 % 2) + " " + TrickHouseOracle.SUITS.charAt(k / 6 % 5);
            return k % 7 == 0 ? "double" : k % 11 == 0 ? "redouble" : "pass";
        }
        if (game.left() <= 3 && k % 9 == 0) return "claim " + k / 9 % 5;
        List<Integer> from = k % 8 == 0 ? game.hands.get(game.turn) : game.mayPlay();
        int card = from.get(k / 8 % from.size());
        return "play " + TrickHouseOracle.SUITS.charAt(card / 8) + " " + card % 8;
    }
}
