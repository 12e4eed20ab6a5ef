public final class TrickHouse {
    public static final int NONE = -1, BAD = -2, STATE = -3, FULL = -4, UNFAIR = -6;

    private static final int MISSING = -11, OUTSIDE = -12, UNLIKE = -13, BELOW_ZERO = -14;
    private static final int FAULT_BASE = -100;
    private static final int GRANTED = 0;

    private static final int IDLE = 0, BIDDING = 1, PLAYING = 2;
    private static final int DEAL = 0, BID = 1, PASS = 2, DOUBLE = 3, REDOUBLE = 4;
    private static final int PLAY = 5, CLAIM = 6, RANK = 7, RULE = 8, WORDS = 9;

    private static final int PLAYERS = 4, CARDS = 32, SUITS = 4, NO_TRUMP = 4, TRUMPS = 5;
    private static final int RANKS = 8, RANKINGS = 4, RULES = 3, TRICKS = 8, HOUSES = 6;
    private static final int LEAST_BID = 4, MOST_BID = 8;
    private static final int TAPE_SIZE = 40, NUMBER_SIZE = 6, LOG_SIZE = 90;
    private static final int NEAR_END = 3, MOST_LINES_DEPTH = 12, MOST_SEEDS = 20;
    private static final int SHEETS = 4, SHEET_SIZE = 40, BYTES = 0, INTS = 1;
    private static final int TOLD_KINDS = 14, FIRST_TOTAL = 20, LAST_TOTAL = 31;

    private final Tape tape = new Tape();
    private final ActLog acts = new ActLog();
    private final ActLog imaged = new ActLog();
    private final Table real = new Table();
    // Whatever is only thought of is played here, so the real table is never touched by a question.
    private final Table thought = new Table();
    private final Sheet[] sheets = new Sheet[SHEETS];
    private final StringBuilder line = new StringBuilder();
    private boolean hasImage;

    public TrickHouse() {
        for (int i = 0; i < SHEETS; i++) {
            sheets[i] = new Sheet();
        }
    }

    // ---- acts

    public int feed(int n, int a, int b, int c, int d, int e) {
        if (n < 1 || n > 5) {
            return BAD;
        }
        if (!isByte(a) || !isByte(b) || !isByte(c) || !isByte(d) || !isByte(e)) {
            return BAD;
        }
        if (tape.size + n > TAPE_SIZE) {
            return FULL;
        }
        for (int k = 0; k < n; k++) {
            tape.add(k == 0 ? a : k == 1 ? b : k == 2 ? c : k == 3 ? d : e);
        }
        return tape.size;
    }

    public int act() {
        tape.read();
        tape.size = 0;
        if (tape.fault != NONE) {
            return FAULT_BASE - tape.fault;
        }
        int refusal = refusalOf(tape.word, tape.number);
        if (refusal != GRANTED) {
            return refusal;
        }
        if (!isFair(tape.word, tape.number, tape.suit)) {
            return UNFAIR;
        }
        acts.add(tape.word, tape.number, tape.suit, real.inTurn());
        real.perform(tape.word, tape.number, tape.suit);
        return acts.count;
    }

    public int undo() {
        if (acts.count == 0) {
            return STATE;
        }
        acts.count--;
        goThrough(real, acts.count);
        return acts.count;
    }

    public int log(int i, int what) {
        if (what < 0 || what > 3) {
            return BAD;
        }
        if (i < 0 || i >= acts.count) {
            return OUTSIDE;
        }
        switch (what) {
            case 0:
                return at(acts.words, i);
            case 1:
                return at(acts.numbers, i);
            case 2:
                return at(acts.suits, i);
            default:
                return at(acts.players, i);
        }
    }

    public int print(int i, int k) {
        if (i < 0 || i >= acts.count) {
            return OUTSIDE;
        }
        writeLine(at(acts.words, i), at(acts.numbers, i), at(acts.suits, i));
        if (k == -1) {
            return line.length();
        }
        if (k < 0 || k >= line.length()) {
            return OUTSIDE;
        }
        return line.charAt(k);
    }

    // ---- what there is

    public int told(int what) {
        return real.standing(what);
    }

    public int hand(int player, int what) {
        if (player < 0 || player >= PLAYERS || what < 0 || what > 2) {
            return BAD;
        }
        if (what == 0) {
            return at(real.play.hands, player);
        }
        if (what == 1) {
            return at(real.play.dealt, player);
        }
        return real.phase == PLAYING && real.play.turn == player ? real.play.allowed() : 0;
    }

    public int trick(int i, int what) {
        if (what < 0 || what > 6) {
            return BAD;
        }
        if (i < 0 || i >= TRICKS) {
            return OUTSIDE;
        }
        boolean begun = real.play.count > 4 * i;
        boolean isOn = real.phase == PLAYING && real.play.full() == i;
        if (!begun && !isOn) {
            return OUTSIDE;
        }
        switch (what) {
            case 0:
                return begun ? at(real.play.leaders, i) : real.play.turn;
            case 5:
                return i < real.play.full() ? at(real.play.winners, i) : NONE;
            case 6:
                return begun ? at(real.play.played, 4 * i) / RANKS : NONE;
            default:
                return real.play.cardAt(4 * i + what - 1);
        }
    }

    public int strength(int card, int t) {
        if (!isCard(card) || t < 0 || t >= TRUMPS) {
            return BAD;
        }
        return strengthOf(card, t, real.ranking);
    }

    public int taken(int card, int kind) {
        if (!isCard(card) || kind < 0 || kind > 2) {
            return BAD;
        }
        int rank = card % RANKS;
        boolean isTrump = card / RANKS == real.bids.trump;
        boolean isOfKind = kind == 0 ? isTrump : !isTrump && (kind == 1 || rank == RANKS - 1);
        return isOfKind ? rank : UNLIKE;
    }

    // ---- scores

    public int score(int house) {
        if (!isHouse(house)) {
            return BAD;
        }
        Scores scores = real.scores;
        if (!scores.any) {
            return 0;
        }
        return scoreBy(house, scores.made, scores.number, scores.trump, scores.doubles);
    }

    public int table(int house, int m, int b, int t, int d) {
        if (!isHouse(house) || m < 0 || m > TRICKS || b < LEAST_BID || b > MOST_BID) {
            return BAD;
        }
        if (t < 0 || t >= TRUMPS || d < 0 || d > 2) {
            return BAD;
        }
        return scoreBy(house, m, b, t, d);
    }

    public int total(int side, int house) {
        if (side < 0 || side > 1 || !isHouse(house)) {
            return BAD;
        }
        return real.scores.totalOf(side, house);
    }

    // ---- by all lines

    public int open() {
        return real.isNearEnd() ? openNow() : STATE;
    }

    public int gains(int card) {
        if (!isCard(card)) {
            return BAD;
        }
        if (!real.isNearEnd()) {
            return STATE;
        }
        return (real.play.allowed() & bitOf(card)) == 0 ? UNFAIR : gainsOf(card);
    }

    public int best(int what) {
        if (what < 0 || what > 1) {
            return BAD;
        }
        if (!real.isNearEnd()) {
            return STATE;
        }
        int cards = real.play.allowed();
        int bestCard = NONE;
        int most = -1;
        int less = 0;
        int seen = 0;
        for (int left = Integer.bitCount(cards); left > 0; left--) {
            int card = lowestCard(cards);
            cards &= cards - 1;
            int gain = gainsOf(card);
            if (gain > most) {
                most = gain;
                bestCard = card;
                less = seen;
            } else if (gain < most) {
                less++;
            }
            seen++;
        }
        return what == 0 ? bestCard : less;
    }

    // ---- by seeds, gone through

    public int drawn(int seed) {
        return real.phase == PLAYING ? drawnMade(seed) : STATE;
    }

    public int chance(int seed, int m, int part) {
        if (m < 1 || m > MOST_SEEDS || part < 0 || part > 1) {
            return BAD;
        }
        if (real.phase != PLAYING) {
            return STATE;
        }
        int good = 0;
        for (int k = 0; k < m; k++) {
            if (drawnMade(seed + k) >= real.bids.number) {
                good++;
            }
        }
        return inLowestTerms(part == 0 ? good : m, good, m);
    }

    public int replay(int n, int what) {
        boolean ofTotals = what >= FIRST_TOTAL && what <= LAST_TOTAL;
        if (n < 0 || n > acts.count) {
            return BAD;
        }
        if (!ofTotals && (what < 0 || what >= TOLD_KINDS)) {
            return BAD;
        }
        goThrough(thought, n);
        if (ofTotals) {
            return thought.scores.totalOf((what - FIRST_TOTAL) % 2, (what - FIRST_TOTAL) / 2);
        }
        return thought.standing(what);
    }

    // ---- what was told

    public int tells(int sheet, int what) {
        Sheet teller = sheetAt(sheet);
        if (teller == null || what < 0 || what > 2) {
            return BAD;
        }
        if (teller.isMissing()) {
            return MISSING;
        }
        if (teller.size > TRICKS) {
            return BAD;
        }
        switch (what) {
            case 0:
                return firstOtherwise(teller);
            case 1:
                return trumpsThatFit(teller);
            default:
                return rankingsThatFit(teller);
        }
    }

    public int film(int sheet) {
        Sheet filmed = sheetAt(sheet);
        if (filmed == null) {
            return BAD;
        }
        int full = real.play.full();
        filmed.become(BYTES, full);
        for (int i = 0; i < full; i++) {
            set(filmed.items, i, at(real.play.winners, i));
        }
        return full;
    }

    public int image() {
        imaged.become(acts);
        hasImage = true;
        return imaged.count;
    }

    public int back() {
        if (!hasImage) {
            return STATE;
        }
        acts.become(imaged);
        goThrough(real, acts.count);
        return acts.count;
    }

    // ---- the host

    public int sheet(int sheet, int sort, int n) {
        Sheet made = sheetAt(sheet);
        if (made == null || sort < NONE || sort > INTS) {
            return BAD;
        }
        if (sort == NONE) {
            made.become(NONE, 0);
            return 1;
        }
        if (n > SHEET_SIZE) {
            return BAD;
        }
        if (n < 0) {
            return BELOW_ZERO;
        }
        made.become(sort, n);
        return 1;
    }

    public int cell(int sheet, int i, int v) {
        Sheet changed = sheetAt(sheet);
        if (changed == null) {
            return BAD;
        }
        if (changed.isMissing()) {
            return MISSING;
        }
        if (i < 0 || i >= changed.size) {
            return OUTSIDE;
        }
        set(changed.items, i, changed.sort == BYTES ? v & 255 : v);
        return 1;
    }

    public int copy(int sheet, int i, int other, int j, int n) {
        Sheet from = sheetAt(sheet);
        Sheet to = sheetAt(other);
        if (from == null || to == null) {
            return BAD;
        }
        if (from.isMissing() || to.isMissing()) {
            return MISSING;
        }
        if (from.sort != to.sort) {
            return UNLIKE;
        }
        if (!from.holds(i, n) || !to.holds(j, n)) {
            return OUTSIDE;
        }
        System.arraycopy(from.items, i, to.items, j, n);
        return n;
    }

    // ---- acts: whether they may be, and how they are told

    private int refusalOf(int word, int number) {
        if (acts.count >= LOG_SIZE) {
            return FULL;
        }
        if (!real.isTimeFor(word)) {
            return STATE;
        }
        return fitsWord(word, number) ? GRANTED : BAD;
    }

    private static boolean fitsWord(int word, int number) {
        switch (word) {
            case BID:
                return number >= LEAST_BID && number <= MOST_BID;
            case PLAY:
                return number >= 0 && number < RANKS;
            case CLAIM:
                return number >= 0 && number <= TRICKS;
            case RANK:
                return number >= 0 && number < RANKINGS;
            case RULE:
                return number >= 0 && number < RULES;
            default:
                return true;
        }
    }

    private boolean isFair(int word, int number, int suit) {
        switch (word) {
            case BID:
                return real.bids.isAbove(number, suit);
            case PLAY:
                return (real.play.allowed() & bitOf(suit * RANKS + number)) != 0;
            case CLAIM:
                return number <= openNow();
            default:
                return true;
        }
    }

    private void goThrough(Table table, int n) {
        table.clear();
        for (int i = 0; i < n; i++) {
            table.perform(at(acts.words, i), at(acts.numbers, i), at(acts.suits, i));
        }
    }

    private void writeLine(int word, int number, int suit) {
        line.setLength(0);
        line.append(wordText(word));
        if (word == PLAY) {
            line.append(' ');
            line.append(suitLetter(suit));
        }
        if (number != NONE) {
            line.append(' ');
            line.append(number);
        }
        if (word == BID) {
            line.append(' ');
            line.append(suitLetter(suit));
        }
    }

    private static String wordText(int word) {
        switch (word) {
            case DEAL:
                return "deal";
            case BID:
                return "bid";
            case PASS:
                return "pass";
            case DOUBLE:
                return "double";
            case REDOUBLE:
                return "redouble";
            case PLAY:
                return "play";
            case CLAIM:
                return "claim";
            case RANK:
                return "rank";
            case RULE:
                return "rule";
            default:
                return "";
        }
    }

    private static char suitLetter(int suit) {
        switch (suit) {
            case 0:
                return 'c';
            case 1:
                return 'd';
            case 2:
                return 'h';
            case 3:
                return 's';
            default:
                return 'n';
        }
    }

    // ---- lines and draws, in thought

    private int openNow() {
        int side = real.play.turn & 1;
        thought.play.become(real.play);
        return mostMade(thought.play, side, 0) - at(real.play.won, side);
    }

    private int gainsOf(int card) {
        int side = real.play.turn & 1;
        thought.play.become(real.play);
        thought.play.lay(card);
        return mostMade(thought.play, side, 1) - at(real.play.won, side);
    }

    // How many TRICKS a SIDE has at the end, its own players choosing the most, the others the least.
    private static int mostMade(Play play, int side, int depth) {
        int cards = play.allowed();
        int wonNow = at(play.won, side);
        if (cards == 0 || depth >= MOST_LINES_DEPTH) {
            return wonNow;
        }
        boolean ours = (play.turn & 1) == side;
        int most = wonNow + play.left();
        int reached = ours ? wonNow : most;
        // A line that brings all there is to be had leaves nothing for the other lines to better.
        int goal = ours ? most : wonNow;
        for (int k = Integer.bitCount(cards); k > 0 && reached != goal; k--) {
            int card = lowestCard(cards);
            cards &= cards - 1;
            play.lay(card);
            int made = mostMade(play, side, depth + 1);
            play.lift();
            reached = ours ? Math.max(reached, made) : Math.min(reached, made);
        }
        return reached;
    }

    private int drawnMade(int seed) {
        Play play = thought.play;
        play.become(real.play);
        int z = seed;
        for (int k = 0; k < CARDS; k++) {
            int cards = play.allowed();
            int choices = Integer.bitCount(cards);
            if (choices == 0) {
                break;
            }
            z = nextSeed(z);
            play.lay(cardByNumber(cards, (z >>> 9) % choices));
        }
        return at(play.won, real.bids.declarer & 1);
    }

    private static int inLowestTerms(int value, int above, int below) {
        for (int d = below; d > 1; d--) {
            if (above % d == 0 && below % d == 0) {
                return value / d;
            }
        }
        return value;
    }

    // ---- what a sheet tells

    private int firstOtherwise(Sheet teller) {
        int full = real.play.full();
        int both = Math.min(full, teller.size);
        for (int i = 0; i < both; i++) {
            if (at(teller.items, i) != at(real.play.winners, i)) {
                return i;
            }
        }
        return full == teller.size ? NONE : both;
    }

    private int trumpsThatFit(Sheet teller) {
        int bits = 0;
        for (int t = 0; t < TRUMPS; t++) {
            if (wouldBeSo(teller, t, real.ranking)) {
                bits |= 1 << t;
            }
        }
        return bits;
    }

    private int rankingsThatFit(Sheet teller) {
        int trump = real.bids.number == NONE ? NO_TRUMP : real.bids.trump;
        int bits = 0;
        for (int r = 0; r < RANKINGS; r++) {
            if (wouldBeSo(teller, trump, r)) {
                bits |= 1 << r;
            }
        }
        return bits;
    }

    private boolean wouldBeSo(Sheet teller, int trump, int ranking) {
        if (teller.size != real.play.full()) {
            return false;
        }
        for (int i = 0; i < teller.size; i++) {
            if (at(teller.items, i) != real.play.winnerOf(i, trump, ranking)) {
                return false;
            }
        }
        return true;
    }

    // ---- small things that all use

    private static int at(int[] row, int i) {
        return i >= 0 && i < row.length ? row[i] : 0;
    }

    private static void set(int[] row, int i, int v) {
        if (i >= 0 && i < row.length) {
            row[i] = v;
        }
    }

    private static void fill(int[] row, int v) {
        for (int i = 0; i < row.length; i++) {
            row[i] = v;
        }
    }

    private static void take(int[] from, int[] to) {
        System.arraycopy(from, 0, to, 0, Math.min(from.length, to.length));
    }

    private Sheet sheetAt(int sheet) {
        return sheet >= 0 && sheet < sheets.length ? sheets[sheet] : null;
    }

    private static boolean isByte(int v) {
        return v >= 0 && v <= 255;
    }

    private static boolean isCard(int card) {
        return card >= 0 && card < CARDS;
    }

    private static boolean isHouse(int house) {
        return house >= 0 && house < HOUSES;
    }

    private static int nextSeed(int z) {
        return z * 1103515245 + 12345;
    }

    private static int bitOf(int card) {
        return card >= 0 && card < CARDS ? 1 << card : 0;
    }

    private static int bitsOfSuit(int suit) {
        return suit >= 0 && suit < SUITS ? 255 << RANKS * suit : 0;
    }

    private static int lowestCard(int cards) {
        return cards == 0 ? NONE : Integer.bitCount((cards & -cards) - 1);
    }

    private static int cardByNumber(int cards, int number) {
        int rest = cards;
        for (int k = 0; k < number; k++) {
            rest &= rest - 1;
        }
        return lowestCard(rest);
    }

    private static int strengthOf(int card, int trump, int ranking) {
        int rank = card % RANKS;
        if (ranking == 1) {
            return RANKS - 1 - rank;
        }
        if (ranking == 2 && rank >= 3 && rank < RANKS - 1) {
            return rank == 3 ? 6 : rank - 1;
        }
        if (ranking == 3 && card / RANKS == trump) {
            if (rank == 4) {
                return RANKS - 1;
            }
            return rank == 2 ? RANKS - 2 : rank - (rank > 2 ? 1 : 0) - (rank > 4 ? 1 : 0);
        }
        return rank;
    }

    private static int scoreBy(int house, int m, int b, int t, int d) {
        int plain = m >= b ? 10 * b + 2 * (m - b) : 10 * (m - b);
        int bold = plain + (b >= 7 && m >= b ? 20 : 0);
        int sharp = plain < 0 ? 2 * plain : plain;
        int times = d == 2 ? 4 : d == 1 ? 2 : 1;
        switch (house) {
            case 0:
                return times * plain;
            case 1:
                return times * bold;
            case 2:
                return times * sharp;
            case 3:
                return times * (bold + (m == TRICKS ? 50 : 0));
            case 4:
                return times * (sharp - (m > b ? 2 * (m - b) : 0));
            default:
                return times * (plain + (t == NO_TRUMP ? 5 : 0));
        }
    }

    /** THE TAPE, and the ACT that was last read from it. */
    private static final class Tape {
        final int[] bytes = new int[TAPE_SIZE];
        int size;
        int place;
        int fault;
        int word;
        int number;
        int suit;

        void add(int v) {
            set(bytes, size, v);
            size++;
        }

        void read() {
            place = 0;
            fault = NONE;
            number = NONE;
            suit = NONE;
            readWord();
            switch (word) {
                case DEAL:
                case CLAIM:
                case RANK:
                case RULE:
                    readNumber();
                    break;
                case BID:
                    readNumber();
                    readSuit(NO_TRUMP);
                    break;
                case PLAY:
                    readSuit(SUITS - 1);
                    readNumber();
                    break;
                default:
                    break;
            }
            readEnd();
        }

        private void readWord() {
            skipBlanks();
            int from = place;
            skipLetters();
            word = NONE;
            for (int w = 0; w < WORDS && word == NONE; w++) {
                if (isText(wordText(w), from)) {
                    word = w;
                }
            }
            if (word == NONE) {
                fault = from;
            }
        }

        private void readNumber() {
            if (fault != NONE) {
                return;
            }
            skipBlanks();
            int from = place;
            number = 0;
            while (place < size && isBetween('0', '9')) {
                // The digits of one that is too long would run over an int; it is refused below anyway.
                number = place - from < NUMBER_SIZE ? number * 10 + at(bytes, place) - '0' : number;
                place++;
            }
            if (place == from || place - from > NUMBER_SIZE) {
                fault = from;
            }
        }

        private void readSuit(int most) {
            if (fault != NONE) {
                return;
            }
            skipBlanks();
            int from = place;
            skipLetters();
            for (int s = 0; s <= most; s++) {
                if (place - from == 1 && at(bytes, from) == suitLetter(s)) {
                    suit = s;
                }
            }
            if (suit == NONE) {
                fault = from;
            }
        }

        private void readEnd() {
            skipBlanks();
            if (fault == NONE && place < size) {
                fault = place;
            }
        }

        private void skipBlanks() {
            while (place < size && (at(bytes, place) == 32 || at(bytes, place) == 10)) {
                place++;
            }
        }

        private void skipLetters() {
            while (place < size && isBetween('a', 'z')) {
                place++;
            }
        }

        private boolean isBetween(char least, char most) {
            int v = at(bytes, place);
            return v >= least && v <= most;
        }

        private boolean isText(String text, int from) {
            if (place - from != text.length()) {
                return false;
            }
            for (int k = 0; k < text.length(); k++) {
                if (at(bytes, from + k) != text.charAt(k)) {
                    return false;
                }
            }
            return true;
        }
    }

    /** ACTS in the order in which they were done. */
    private static final class ActLog {
        final int[] words = new int[LOG_SIZE];
        final int[] numbers = new int[LOG_SIZE];
        final int[] suits = new int[LOG_SIZE];
        final int[] players = new int[LOG_SIZE];
        int count;

        void add(int word, int number, int suit, int player) {
            if (count >= LOG_SIZE) {
                return;
            }
            set(words, count, word);
            set(numbers, count, number);
            set(suits, count, suit);
            set(players, count, player);
            count++;
        }

        void become(ActLog other) {
            take(other.words, words);
            take(other.numbers, numbers);
            take(other.suits, suits);
            take(other.players, players);
            count = other.count;
        }
    }

    /** BIDDING of one DEAL. */
    private static final class Bids {
        final int[] firstNamers = new int[2 * TRUMPS];
        int turn;
        int number;
        int trump;
        int side;
        int doubles;
        int passes;
        int declarer;

        void begin(int dealer) {
            fill(firstNamers, NONE);
            turn = dealer;
            number = NONE;
            trump = NONE;
            side = NONE;
            doubles = 0;
            passes = 0;
            declarer = NONE;
        }

        boolean isAbove(int newNumber, int newTrump) {
            return newNumber > number || newNumber == number && newTrump > trump;
        }

        boolean mayDouble() {
            return number != NONE && side != (turn & 1) && doubles == 0;
        }

        boolean mayRedouble() {
            return number != NONE && side == (turn & 1) && doubles == 1;
        }

        void bid(int newNumber, int newTrump) {
            number = newNumber;
            trump = newTrump;
            side = turn & 1;
            doubles = 0;
            passes = 0;
            int namer = side * TRUMPS + trump;
            if (at(firstNamers, namer) == NONE) {
                set(firstNamers, namer, turn);
            }
            turn = turn + 1 & 3;
        }

        void redoubleOrDouble() {
            doubles++;
            passes = 0;
            turn = turn + 1 & 3;
        }

        void pass() {
            passes++;
            turn = turn + 1 & 3;
        }

        boolean hasContract() {
            return number != NONE && passes >= 3;
        }

        void nameDeclarer() {
            declarer = at(firstNamers, side * TRUMPS + trump);
        }
    }

    /** CARDS of one DEAL, held and played; it can be played on and back again. */
    private static final class Play {
        final int[] deck = new int[CARDS];
        final int[] dealt = new int[PLAYERS];
        final int[] hands = new int[PLAYERS];
        final int[] played = new int[CARDS];
        final int[] leaders = new int[TRICKS];
        final int[] winners = new int[TRICKS];
        final int[] won = new int[2];
        int count;
        int turn;
        int trump;
        int ranking;
        int rule;

        void clear() {
            fill(dealt, 0);
            fill(hands, 0);
            fill(won, 0);
            count = 0;
            begin(0, NO_TRUMP, 0, 0);
        }

        void dealOut(int seed) {
            clear();
            for (int i = 0; i < CARDS; i++) {
                set(deck, i, i);
            }
            int z = seed;
            for (int i = CARDS - 1; i > 0; i--) {
                z = nextSeed(z);
                int j = (z >>> 9) % (i + 1);
                int card = at(deck, i);
                set(deck, i, at(deck, j));
                set(deck, j, card);
            }
            for (int i = 0; i < CARDS; i++) {
                int player = i / RANKS;
                set(dealt, player, at(dealt, player) | bitOf(at(deck, i)));
            }
            take(dealt, hands);
        }

        void begin(int leader, int byTrump, int byRanking, int byRule) {
            turn = leader;
            trump = byTrump;
            ranking = byRanking;
            rule = byRule;
        }

        void become(Play other) {
            take(other.dealt, dealt);
            take(other.hands, hands);
            take(other.played, played);
            take(other.leaders, leaders);
            take(other.winners, winners);
            take(other.won, won);
            count = other.count;
            begin(other.turn, other.trump, other.ranking, other.rule);
        }

        int full() {
            return count / 4;
        }

        int left() {
            return TRICKS - full();
        }

        int cardAt(int i) {
            return i < count ? at(played, i) : NONE;
        }

        int allowed() {
            int cards = at(hands, turn);
            int lying = count % 4;
            if (lying == 0) {
                return cards;
            }
            int following = cards & bitsOfSuit(at(played, count - lying) / RANKS);
            if (following != 0) {
                return following;
            }
            int trumps = cards & bitsOfSuit(trump);
            if (rule == 0 || trumps == 0) {
                return cards;
            }
            int stronger = rule == 2 ? trumps & strongerTrumps(lying) : trumps;
            return stronger != 0 ? stronger : trumps;
        }

        private int strongerTrumps(int lying) {
            int strongest = -1;
            for (int k = count - lying; k < count; k++) {
                int card = at(played, k);
                if (card / RANKS == trump) {
                    strongest = Math.max(strongest, strengthOf(card, trump, ranking));
                }
            }
            int bits = 0;
            for (int card = RANKS * trump; card < RANKS * trump + RANKS; card++) {
                if (strengthOf(card, trump, ranking) > strongest) {
                    bits |= bitOf(card);
                }
            }
            return bits;
        }

        void lay(int card) {
            if (count >= CARDS || !isCard(card)) {
                return;
            }
            int i = full();
            if (count % 4 == 0) {
                set(leaders, i, turn);
            }
            set(hands, turn, at(hands, turn) & ~bitOf(card));
            set(played, count, card);
            count++;
            if (count % 4 != 0) {
                turn = turn + 1 & 3;
                return;
            }
            int winner = winnerOf(i, trump, ranking);
            set(winners, i, winner);
            addWon(winner & 1, 1);
            turn = winner;
        }

        void lift() {
            if (count == 0) {
                return;
            }
            if (count % 4 == 0) {
                addWon(at(winners, full() - 1) & 1, -1);
            }
            count--;
            turn = at(leaders, full()) + count & 3;
            set(hands, turn, at(hands, turn) | bitOf(at(played, count)));
        }

        void addWon(int side, int tricks) {
            set(won, side, at(won, side) + tricks);
        }

        int winnerOf(int i, int byTrump, int byRanking) {
            int led = at(played, 4 * i) / RANKS;
            int strongest = -1;
            int winner = NONE;
            for (int k = 0; k < 4; k++) {
                int card = at(played, 4 * i + k);
                int suit = card / RANKS;
                if (suit != led && suit != byTrump) {
                    continue;
                }
                int power = strengthOf(card, byTrump, byRanking) + (suit == byTrump ? RANKS : 0);
                if (power > strongest) {
                    strongest = power;
                    winner = at(leaders, i) + k & 3;
                }
            }
            return winner;
        }
    }

    /** The last SCORE, by what it was reckoned, and the TOTALS. */
    private static final class Scores {
        final int[] totals = new int[2 * HOUSES];
        boolean any;
        int made;
        int number;
        int trump;
        int doubles;

        void clear() {
            fill(totals, 0);
            any = false;
        }

        void settle(Bids bids, int tricksMade) {
            any = true;
            made = tricksMade;
            number = bids.number;
            trump = bids.trump;
            doubles = bids.doubles;
            for (int house = 0; house < HOUSES; house++) {
                int i = bids.side * HOUSES + house;
                set(totals, i, at(totals, i) + scoreBy(house, made, number, trump, doubles));
            }
        }

        int totalOf(int side, int house) {
            return at(totals, side * HOUSES + house);
        }
    }

    /** All that comes by THE LOG. */
    private static final class Table {
        final Bids bids = new Bids();
        final Play play = new Play();
        final Scores scores = new Scores();
        int phase;
        int dealer;
        int ranking;
        int rule;

        Table() {
            clear();
        }

        void clear() {
            phase = IDLE;
            dealer = 0;
            ranking = 0;
            rule = 0;
            bids.begin(0);
            play.clear();
            scores.clear();
        }

        int inTurn() {
            return phase == IDLE ? NONE : phase == BIDDING ? bids.turn : play.turn;
        }

        boolean isNearEnd() {
            return phase == PLAYING && play.left() <= NEAR_END;
        }

        boolean isTimeFor(int word) {
            switch (word) {
                case BID:
                case PASS:
                    return phase == BIDDING;
                case DOUBLE:
                    return phase == BIDDING && bids.mayDouble();
                case REDOUBLE:
                    return phase == BIDDING && bids.mayRedouble();
                case PLAY:
                    return phase == PLAYING;
                case CLAIM:
                    return isNearEnd();
                default:
                    return phase == IDLE;
            }
        }

        void perform(int word, int number, int suit) {
            switch (word) {
                case DEAL:
                    beginDeal(number);
                    break;
                case BID:
                    bids.bid(number, suit);
                    break;
                case PASS:
                    pass();
                    break;
                case DOUBLE:
                case REDOUBLE:
                    bids.redoubleOrDouble();
                    break;
                case PLAY:
                    playCard(suit * RANKS + number);
                    break;
                case CLAIM:
                    claim(number);
                    break;
                case RANK:
                    ranking = number;
                    break;
                case RULE:
                    rule = number;
                    break;
                default:
                    break;
            }
        }

        private void beginDeal(int seed) {
            phase = BIDDING;
            bids.begin(dealer);
            play.dealOut(seed);
        }

        private void pass() {
            bids.pass();
            if (bids.hasContract()) {
                bids.nameDeclarer();
                phase = PLAYING;
                play.begin(bids.declarer + 1 & 3, bids.trump, ranking, rule);
            } else if (bids.passes >= 4) {
                endDeal();
            }
        }

        private void playCard(int card) {
            play.lay(card);
            if (play.left() == 0) {
                scores.settle(bids, at(play.won, bids.side));
                endDeal();
            }
        }

        private void claim(int tricks) {
            int side = play.turn & 1;
            play.addWon(side, tricks);
            play.addWon(1 - side, play.left() - tricks);
            scores.settle(bids, at(play.won, bids.side));
            endDeal();
        }

        private void endDeal() {
            phase = IDLE;
            dealer = dealer + 1 & 3;
        }

        int standing(int what) {
            switch (what) {
                case 0:
                    return phase;
                case 1:
                    return inTurn();
                case 2:
                    return dealer;
                case 3:
                    return bids.declarer;
                case 4:
                    return bids.trump;
                case 5:
                    return bids.number;
                case 6:
                    return bids.doubles;
                case 7:
                    return play.full();
                case 8:
                    return at(play.won, 0);
                case 9:
                    return at(play.won, 1);
                case 10:
                    return ranking;
                case 11:
                    return rule;
                case 12:
                    return bids.passes;
                case 13:
                    return play.left();
                default:
                    return BAD;
            }
        }
    }

    /** A row of numbers of one sort, or missing (its sort is NONE then). */
    private static final class Sheet {
        final int[] items = new int[SHEET_SIZE];
        int sort = NONE;
        int size;

        boolean isMissing() {
            return sort == NONE;
        }

        void become(int newSort, int newSize) {
            sort = newSort;
            size = newSize;
            fill(items, 0);
        }

        boolean holds(int i, int n) {
            return i >= 0 && n >= 0 && n <= size && i <= size - n;
        }
    }
}
