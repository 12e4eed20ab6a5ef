import java.util.function.Supplier;

/** The edges of what was told, of THE IMAGE and of SHEETS: promises 21 to 27. */
public final class EdgesOfSheetsTest extends Edges {
    private static final String TERMS = "Terms", TELLS = "Promise 21: tells", FILM = "Promise 22: film", IMAGE = "Promise 23: image";
    private static final String BACK = "Promise 24: back", SHEET = "Promise 25: sheet", CELL = "Promise 26: cell", COPY = "Promise 27: copy";

    private static final int[] NO_SHEETS = {-1, 4, LEAST, MOST};

    public static void main(String[] args) {
        rowsOrMissing();
        told();
        toldByTrumpsAndRankings();
        imageKeeps();
        tells();
        tellsRefusals();
        film();
        filmRefusals();
        image();
        back();
        backRefusals();
        sheet();
        sheetRefusals();
        cell();
        cellRefusals();
        copy();
        copyOverlaps();
        copyRefusals();
        finish();
    }

    // ---- how numbers of a SHEET can be read back: only tells() looks at them

    private static final int PROBE = 3, TEMPLATE = 2;
    // A TRICK of WINNERS that 0, 1, 2, 3 won.
    private static final int[] WON_BY = {2, 1, 5, 0};

    /** A whole DEAL has ended; SHEET 2 is WINNERS of a sort, 3 a place to try numbers out. */
    private static House readable(int sort) {
        House x = ended();
        row(x, TEMPLATE, sort, WINNERS);
        x.sheet(PROBE, sort, 8);
        return x;
    }

    private static void row(House x, int sheet, int sort, int... all) {
        x.sheet(sheet, sort, all.length);
        for (int i = 0; i < all.length; i++) x.cell(sheet, i, all[i]);
    }

    /** Item i, if it is 0 .. 3, or else 4. */
    private static int item(House x, int sheet, int i) {
        for (int v = 0; v < 4; v++) {
            x.copy(TEMPLATE, 0, PROBE, 0, 8);
            x.copy(sheet, i, PROBE, WON_BY[v], 1);
            if (x.tells(PROBE, 0) == NONE) return v;
        }
        return 4;
    }

    private static void holds(String when, House x, int sheet, int... all) {
        for (int i = 0; i < all.length; i++) due(when + ": item " + i + " of " + sheet, item(x, sheet, i), all[i]);
        due(when + ": its size", x.copy(sheet, 0, sheet, 0, all.length), all.length);
        due(when + ": behind it", x.copy(sheet, 0, sheet, 0, all.length + 1), OUTSIDE);
    }

    // ---- what the terms say

    private static void rowsOrMissing() {
        of(TERMS, "SHEETS 0 .. 3 are rows of numbers, or missing (as all are at first): of sort 0 bytes, 1 ints.");
        for (int s = 0; s < 4; s++) {
            due("missing", fresh().cell(s, 0, 0), MISSING);
            due("missing", fresh().tells(s, 0), MISSING);
            due("a row of bytes", fresh().sheet(s, 0, 1), 1);
            due("a row of ints", fresh().sheet(s, 1, 1), 1);
        }
        for (int s : NO_SHEETS) refused("sheet(" + s + ", 0, 1)", BAD, x -> x.sheet(s, 0, 1), Edges::fresh, Edges::rich);
        House bytes = readable(0), ints = readable(1);
        row(bytes, 0, 0, 256, 1, 258, -253);
        row(ints, 0, 1, 256, 1, 258, -253);
        holds("bytes", bytes, 0, 0, 1, 2, 3);
        holds("ints", ints, 0, 4, 1, 4, 4);
    }

    private static void told() {
        of(TERMS, "TOLD: a SHEET tells who won TRICKS 0, 1, .. of this DEAL (or, if none is on, of the last one; 8 numbers at most; those that are full): "
            + "the first that is otherwise (also if there's none, or more); NONE;");
        for (int full = 0; full <= 8; full++) {
            for (int size = 0; size <= 8; size++) {
                House x = playing(4 * full);
                row(x, 0, 1, java.util.Arrays.copyOf(WINNERS, size));
                due(size + " numbers of " + full + " TRICKS", x.tells(0, 0), size == full ? NONE : Math.min(size, full));
                for (int i = 0; i < size; i++) {
                    x.cell(0, i, (WINNERS[i] + 1) % 4);
                    due("otherwise at " + i + ", " + size + " of " + full, x.tells(0, 0), Math.min(i, full));
                    x.cell(0, i, WINNERS[i]);
                }
            }
        }
        for (int lying = 1; lying < 4; lying++) {
            House x = playing(4 + lying);
            row(x, 0, 0, WINNERS[0]);
            due(lying + " CARDS more are no TRICK", x.tells(0, 0), NONE);
        }
        House last = ended().does("rank 1");
        row(last, 0, 0, WINNERS);
        due("if none is on, of the last one", last.tells(0, 0), NONE);
        due("of a new one none is full", last.does("deal 1").tells(0, 0), 0);
        House none = fresh();
        none.sheet(0, 0, 0);
        due("before the first DEAL", none.tells(0, 0), NONE);
        House two = playing(8);
        row(two, 0, 1, 3, -1);
        due("-1 is nobody", two.tells(0, 0), 1);
        row(two, 0, 1, 3 + 256, 1);
        due("an int is not 8 bits", two.tells(0, 0), 0);
        row(two, 0, 0, 3 + 256, 1);
        due("a byte is", two.tells(0, 0), NONE);
        two.sheet(0, 0, 9);
        due("nine numbers", two.tells(0, 0), BAD);
    }

    // Who would have won TRICK i of WHOLE.
    private static int wouldWin(int i, int t, int ranking) {
        int best = -1, winner = NONE;
        for (int k = 0; k < 4; k++) {
            int card = card(WHOLE[4 * i + k]);
            boolean ofTrump = card / 8 == t;
            if (!ofTrump && card / 8 != card(WHOLE[4 * i]) / 8) continue;
            int height = TrickHouseOracle.height(card % 8, ofTrump, ranking) + (ofTrump ? 1000 : 0);
            if (height > best) {
                best = height;
                winner = (LEADERS[i] + k) % 4;
            }
        }
        return winner;
    }

    private static boolean fits(int[] row, int full, int t, int ranking) {
        boolean fits = row.length == full;
        for (int i = 0; i < full && fits; i++) fits = row[i] == wouldWin(i, t, ranking);
        return fits;
    }

    private static void toldByTrumpsAndRankings() {
        of(TERMS, "TRUMPS (bits 0 .. 4; by THE RANKING as it is now), RANKINGS (bits 0 .. 3; by the TRUMP, n if there is no BID) by which, "
            + "all CARDS having been played as they were (and by whom), it would be just so.");
        for (int full = 0; full <= 8; full++) {
            House x = playing(4 * full);
            for (int t = 0; t < 5; t++) {
                for (int r = 0; r < 4; r++) tellsOf(x, full, rowBy(full, t, r), 0);
            }
            tellsOf(x, full, rowBy(Math.max(full - 1, 0), 2, 0), 0);
            if (full < 8) tellsOf(x, full, java.util.Arrays.copyOf(WINNERS, full + 1), 0);
        }
        for (int now = 0; now < 4; now++) {
            House x = ended().does("rank " + now);
            for (int t = 0; t < 5; t++) tellsOf(x, 8, rowBy(8, t, now), now);
            House y = claimed().does("rank " + now);
            for (int t = 0; t < 5; t++) tellsOf(y, 5, rowBy(5, t, now), now);
        }
        House noBid = after("rank 3", "deal 42").get();
        noBid.sheet(0, 0, 0);
        due("no TRICK, no BID: all TRUMPS", noBid.tells(0, 1), 31);
        due("no TRICK, no BID: all RANKINGS", noBid.tells(0, 2), 15);
        noBid.sheet(0, 0, 1);
        due("more than there are: no TRUMP", noBid.tells(0, 1), 0);
        due("more than there are: no RANKING", noBid.tells(0, 2), 0);
        jackOfTrump();
    }

    private static int[] rowBy(int full, int t, int ranking) {
        int[] row = new int[full];
        for (int i = 0; i < full; i++) row[i] = wouldWin(i, t, ranking);
        return row;
    }

    // TRUMP was h.
    private static void tellsOf(House x, int full, int[] row, int now) {
        row(x, 0, 0, row);
        int trumps = 0, rankings = 0;
        for (int t = 0; t < 5; t++) if (fits(row, full, t, now)) trumps |= 1 << t;
        for (int r = 0; r < 4; r++) if (fits(row, full, 2, r)) rankings |= 1 << r;
        String text = java.util.Arrays.toString(row) + " of " + full + " by RANKING " + now;
        due("TRUMPS of " + text, x.tells(0, 1), trumps);
        due("RANKINGS of " + text, x.tells(0, 2), rankings);
    }

    // c 0 2 7 1: by JACK c 2 wins if c is TRUMP, else c 7; by TURNED c 0.
    private static void jackOfTrump() {
        House c = contract(0, "bid 4 c", "rank 3").plays("c0 c2 c7 c1");
        int[] trumps = {0, 0, 1, 2 | 4 | 8 | 16}, rankings = {0, 2, 8, 1 | 4};
        for (int p = 0; p < 4; p++) {
            row(c, 0, 0, p);
            due("TRUMPS by which " + p + " would win", c.tells(0, 1), trumps[p]);
            due("RANKINGS by which " + p + " would win", c.tells(0, 2), rankings[p]);
        }
    }

    private static void imageKeeps() {
        of(TERMS, "AN IMAGE keeps THE LOG, and all that came by it.");
        laidBack(Edges::fresh);
        laidBack(Edges::dealt);
        laidBack(Edges::bidding);
        laidBack(Edges::led);
        laidBack(Edges::ended);
        laidBack(Edges::claimed);
        laidBack(Edges::passedOut);
        laidBack(() -> ended().does("rank 3", "rule 1", "deal 5", "bid 5 s"));
    }

    // Behind other ACTS, behind fewer ones, behind quite others, all is as it was.
    private static void laidBack(Supplier<House> state) {
        House kept = state.get();
        int n = kept.image();
        House more = state.get(), fewer = state.get();
        more.image();
        String[] acts = {"pass", "play c0", "play c6", "deal 3", "bid 8 n", "rank 2", "claim 0"};
        for (String act : acts) more.say(act);
        due("back() behind more", more.back(), n);
        unchanged("an image laid back over more", more, kept);
        fewer.image();
        for (int k = 0; k < n; k++) fewer.undo();
        for (String act : new String[] {"rank 3", "rule 1", "deal 9", "bid 4 n"}) fewer.say(act);
        due("back() over others", fewer.back(), n);
        House again = state.get();
        again.image();
        unchanged("an image laid back over others", fewer, again);
    }

    // ---- tells and film

    private static void tells() {
        of(TELLS, "TOLD: the first that is otherwise (what 0; NONE), TRUMPS (1), RANKINGS (2).");
        House x = playing(20);
        row(x, 0, 0, 3, 1, 0, 1, 0);
        due("just so", x.tells(0, 0), NONE);
        due("TRUMP h alone", x.tells(0, 1), 4);
        due("PLAIN and TEN", x.tells(0, 2), 1 | 4);
        x.cell(0, 4, 3);
        due("the last is otherwise", x.tells(0, 0), 4);
        due("by no TRUMP", x.tells(0, 1), 0);
        due("by no RANKING", x.tells(0, 2), 0);
        for (int s = 0; s < 4; s++) {
            House y = playing(4);
            row(y, s, s % 2, 3);
            due("of SHEET " + s, y.tells(s, 0), NONE);
            due("of SHEET " + s + ", TRUMPS", y.tells(s, 1), 31);
        }
    }

    private static void tellsRefusals() {
        of(TELLS, "BAD: SHEET, what; -11; BAD: it tells more than 8.");
        for (int s : NO_SHEETS) refused("tells(" + s + ", 0)", BAD, x -> x.tells(s, 0), Edges::fresh, Edges::rich);
        for (int what : new int[] {-1, 3, LEAST, MOST}) {
            refused("tells(0, " + what + ")", BAD, x -> x.tells(0, what), Edges::fresh, Edges::rich);
            refused("tells(2, " + what + ") of 40", BAD, x -> x.tells(2, what), Edges::rich);
            refused("tells(3, " + what + "), missing", BAD, x -> x.tells(3, what), Edges::rich);
        }
        for (int what = 0; what < 3; what++) {
            int w = what;
            refused("tells(3, " + what + ")", MISSING, x -> x.tells(3, w), Edges::fresh, Edges::rich);
            refused("tells(2, " + what + ") of 40", BAD, x -> x.tells(2, w), Edges::rich);
            refused("tells(0, " + what + ") of 9", BAD, x -> x.tells(0, w), () -> ofSize(9, 0), () -> ofSize(9, 1));
            due("of 8", ofSize(8, 0).tells(0, what) == BAD ? 1 : 0, 0);
        }
        due("an empty one of 8 TRICKS", ofSize(0, 1).tells(0, 0), 0);
    }

    private static House ofSize(int n, int sort) {
        House x = ended();
        x.sheet(0, sort, n);
        return x;
    }

    private static void film() {
        of(FILM, "A SHEET truly becomes who won the TRICKS that are full (of this or the last DEAL; bytes): how many.");
        for (int full = 0; full <= 8; full++) {
            House x = playing(4 * full);
            due("of " + full, x.film(3), full);
            for (int i = 0; i < full; i++) {
                x.cell(3, i, 9);
                due("it told " + i, x.tells(3, 0), i);
                x.cell(3, i, WINNERS[i]);
                due("so", x.tells(3, 0), NONE);
            }
            due("no more", x.cell(3, full, 0), OUTSIDE);
        }
        for (int lying = 1; lying < 4; lying++) due("with " + lying + " CARDS lying", playing(8 + lying).film(0), 2);
        House x = readable(0);
        x.film(1);
        holds("all eight", x, 1, WINNERS);
        House y = playing(8);
        y.sheet(0, 1, 40);
        due("ints before", y.film(0), 2);
        due("are bytes then", y.cell(0, 0, 3 + 256), 1);
        due("as tells() sees", y.tells(0, 0), NONE);
        due("at first none", fresh().film(0), 0);
        House z = fresh();
        z.film(0);
        due("which is a row, not missing", z.tells(0, 0), NONE);
        due("of the last DEAL", ended().does("rank 2").film(0), 8);
        due("of this DEAL, BIDDING", ended().does("deal 1").film(0), 0);
        due("claimed TRICKS are none", claimed().film(0), 5);
    }

    private static void filmRefusals() {
        of(FILM, "BAD.");
        for (int s : NO_SHEETS) refused("film(" + s + ")", BAD, x -> x.film(s), Edges::fresh, Edges::rich);
        due("film(0)", playing(4).film(0), 1);
        due("film(3)", playing(4).film(3), 1);
    }

    // ---- image and back

    private static void image() {
        of(IMAGE, "AN IMAGE is kept: how many ACTS.");
        due("of none", fresh().image(), 0);
        due("of one", after("rank 1").get().image(), 1);
        due("of 38", ended().image(), 38);
        due("of 90", fullLog().image(), 90);
        House x = playing(2);
        x.image();
        x.plays("c7");
        due("the last one counts", x.image(), 9);
        x.plays("c1");
        due("back", x.back(), 9);
        due("as in the last one", x.told(1), 0);
        House y = playing(2), z = playing(2);
        y.image();
        due("what is kept changes nothing", y.told(1), z.told(1));
        due("nor THE LOG", y.log(7, 1), z.log(7, 1));
    }

    private static void back() {
        of(BACK, "All that it keeps is as in THE IMAGE: how many ACTS.");
        House none = fresh();
        none.image();
        due("of none", none.does("rank 1", "deal 3").back(), 0);
        due("no DEAL", none.told(0), 0);
        due("no RANKING", none.told(10), 0);
        due("none to undo", none.undo(), STATE);
        House full = fullLog();
        full.image();
        full.undo();
        due("of 90", full.back(), 90);
        due("THE LOG is full", full.say("rank 1"), FULL);
        House twice = playing(3);
        twice.image();
        due("once", twice.plays("c1").back(), 9);
        due("twice", twice.plays("c1").back(), 9);
        due("undone", twice.undo(), 8);
        due("thrice", twice.back(), 9);
        House sheets = playing(4);
        sheets.image();
        row(sheets, 0, 1, 3);
        sheets.write("pla");
        sheets.back();
        due("SHEETS are not of it", sheets.tells(0, 0), NONE);
        due("nor THE TAPE", sheets.feed(1, 'y', 0, 0, 0, 0), 4);
    }

    private static void backRefusals() {
        of(BACK, "STATE: there is none.");
        refused("back()", STATE, House::back, Edges::fresh, Edges::bidding, Edges::ended, withTape(Edges::led, "play c6"));
        House x = fresh();
        x.image();
        due("there is one, if of nothing", x.back(), 0);
    }

    // ---- sheet, cell, copy

    private static void sheet() {
        of(SHEET, "A SHEET becomes a row of n of a sort, all 0, or missing (sort -1: n does not matter): 1.");
        for (int sort = 0; sort < 2; sort++) {
            for (int n : new int[] {0, 1, 8, 39, 40}) {
                House x = fresh();
                due("sheet(0, " + sort + ", " + n + ")", x.sheet(0, sort, n), 1);
                due("the last", n == 0 ? 1 : x.cell(0, n - 1, 1), 1);
                due("behind it", x.cell(0, n, 1), OUTSIDE);
            }
            House x = readable(sort);
            row(x, 0, sort, 1, 2, 3, 1, 2, 3);
            due("anew", x.sheet(0, sort, 6), 1);
            holds("all 0", x, 0, 0, 0, 0, 0, 0, 0);
            allZero(sort);
        }
        for (int n : new int[] {0, 1, -1, 40, 41, LEAST, MOST}) {
            House x = fresh();
            x.sheet(2, 0, 3);
            due("missing, n " + n, x.sheet(2, -1, n), 1);
            due("it is", x.cell(2, 0, 1), MISSING);
            due("missing twice", x.sheet(2, -1, n), 1);
            due("a row again", x.sheet(2, 1, 1), 1);
            due("of one", x.cell(2, 0, 1), 1);
        }
    }

    // h 7 of PLAYER 0 wins the only TRICK: 0 is who won it.
    private static void allZero(int sort) {
        House x = contract(0, "bid 4 h").plays("h3 h0 h4 h7");
        x.sheet(0, sort, 40);
        for (int i = 0; i < 40; i++) x.cell(0, i, 1);
        x.sheet(0, sort, 40);
        x.sheet(1, sort, 1);
        for (int i = 0; i < 40; i++) {
            x.cell(1, 0, 1);
            x.copy(0, i, 1, 0, 1);
            due("item " + i + " is 0", x.tells(1, 0), NONE);
        }
    }

    private static void sheetRefusals() {
        of(SHEET, "BAD: no such SHEET, sort; n above 40; -14.");
        for (int s : NO_SHEETS) {
            for (int sort = -1; sort < 2; sort++) {
                int k = sort;
                refused("sheet(" + s + ", " + sort + ", 1)", BAD, x -> x.sheet(s, k, 1), Edges::fresh, Edges::rich);
            }
        }
        for (int sort : new int[] {-2, 2, 3, LEAST, MOST}) {
            for (int n : new int[] {1, -1, 41}) refused("sheet(0, " + sort + ", " + n + ")", BAD, x -> x.sheet(0, sort, n), Edges::fresh, Edges::rich);
        }
        for (int sort = 0; sort < 2; sort++) {
            int k = sort;
            for (int n : new int[] {41, 42, MOST}) refused("sheet(1, " + sort + ", " + n + ")", BAD, x -> x.sheet(1, k, n), Edges::fresh, Edges::rich);
            for (int n : new int[] {-1, -2, LEAST}) refused("sheet(1, " + sort + ", " + n + ")", BELOW_ZERO, x -> x.sheet(1, k, n), Edges::fresh, Edges::rich);
        }
        House x = readable(1);
        row(x, 0, 1, 1, 2, 3);
        x.sheet(0, 1, 41);
        x.sheet(0, 0, -1);
        x.sheet(0, 2, 1);
        holds("what is refused changes nothing", x, 0, 1, 2, 3);
    }

    private static void cell() {
        of(CELL, "Item i of a SHEET becomes v (of bytes its lowest 8 bits): 1.");
        int[] values = {0, 3, 4, 255, 256, 259, 260, -1, -253, -256, LEAST, LEAST + 2, MOST, MOST - 252};
        int[] asBytes = {0, 3, 4, 4, 0, 3, 4, 4, 3, 0, 0, 2, 4, 3};
        House bytes = readable(0);
        bytes.sheet(0, 0, 3);
        House ints = readable(1);
        ints.sheet(0, 1, 3);
        for (int k = 0; k < values.length; k++) {
            due("a byte of " + values[k], bytes.cell(0, 1, values[k]), 1);
            due("is then", item(bytes, 0, 1), asBytes[k]);
            due("an int of " + values[k], ints.cell(0, 1, values[k]), 1);
            due("is then", item(ints, 0, 1), values[k] >= 0 && values[k] < 4 ? values[k] : 4);
        }
        House x = readable(1);
        x.sheet(0, 1, 3);
        x.cell(0, 0, 1);
        x.cell(0, 2, 3);
        holds("only item i", x, 0, 1, 0, 3);
        due("the first of 40", ofSize(40, 0).cell(0, 0, 1), 1);
        due("the last of 40", ofSize(40, 0).cell(0, 39, 1), 1);
    }

    private static void cellRefusals() {
        of(CELL, "BAD: no such SHEET; -11; -12.");
        for (int s : NO_SHEETS) {
            for (int i : new int[] {0, -1, 40}) refused("cell(" + s + ", " + i + ", 1)", BAD, x -> x.cell(s, i, 1), Edges::fresh, Edges::rich);
        }
        for (int i : new int[] {0, -1, 40, LEAST, MOST}) refused("cell(3, " + i + ", 1)", MISSING, x -> x.cell(3, i, 1), Edges::fresh, Edges::rich);
        for (int i : new int[] {-1, 3, 4, 39, 40, LEAST, MOST}) refused("cell(1, " + i + ", 1) of 3", OUTSIDE, x -> x.cell(1, i, 1), Edges::rich);
        for (int i : new int[] {-1, 40, 41}) refused("cell(2, " + i + ", 1) of 40", OUTSIDE, x -> x.cell(2, i, 1), Edges::rich);
        due("of none", ofSize(0, 0).cell(0, 0, 1), OUTSIDE);
        due("the last of 3", rich().cell(1, 2, 1), 1);
        House x = readable(0);
        row(x, 0, 0, 1, 2, 3);
        x.cell(0, 3, 0);
        x.cell(0, -1, 0);
        holds("what is refused changes nothing", x, 0, 1, 2, 3);
    }

    /** SHEETS 0: 1 2 3 1 2 3 1; 1: five numbers 0. */
    private static House sevenAndFive(int sort) {
        House x = readable(sort);
        row(x, 0, sort, 1, 2, 3, 1, 2, 3, 1);
        x.sheet(1, sort, 5);
        return x;
    }

    private static void copy() {
        of(COPY, "n numbers of a SHEET, from item i on, come to another one's item j on (as they were): n.");
        for (int sort = 0; sort < 2; sort++) {
            House x = sevenAndFive(sort);
            due("all of the smaller", x.copy(0, 2, 1, 0, 5), 5);
            holds("then", x, 1, 3, 1, 2, 3, 1);
            House y = sevenAndFive(sort);
            due("one, the last to the last", y.copy(0, 5, 1, 4, 1), 1);
            holds("then", y, 1, 0, 0, 0, 0, 3);
            due("one, the first to the first", y.copy(0, 0, 1, 0, 1), 1);
            holds("then", y, 1, 1, 0, 0, 0, 3);
            House z = sevenAndFive(sort);
            due("none", z.copy(0, 3, 1, 2, 0), 0);
            due("none at the ends", z.copy(0, 7, 1, 5, 0), 0);
            due("none at the beginnings", z.copy(0, 0, 1, 0, 0), 0);
            holds("nothing came", z, 1, 0, 0, 0, 0, 0);
            holds("and nothing went", z, 0, 1, 2, 3, 1, 2, 3, 1);
        }
        House ints = ofSize(8, 1);
        row(ints, 1, 1, WINNERS);
        ints.cell(1, 7, 256);
        ints.copy(1, 0, 0, 0, 8);
        due("ints stay what they were", ints.tells(0, 0), 7);
        House whole = ofSize(40, 0);
        whole.sheet(1, 0, 40);
        due("40", whole.copy(0, 0, 1, 0, 40), 40);
        due("of empty ones none", ofSize(0, 0).copy(0, 0, 0, 0, 0), 0);
    }

    private static void copyOverlaps() {
        of(COPY, "(as they were)");
        for (int sort = 0; sort < 2; sort++) {
            House x = sevenAndFive(sort);
            due("to its own, forth", x.copy(0, 0, 0, 1, 6), 6);
            holds("then", x, 0, 1, 1, 2, 3, 1, 2, 3);
            House y = sevenAndFive(sort);
            due("to its own, back", y.copy(0, 1, 0, 0, 6), 6);
            holds("then", y, 0, 2, 3, 1, 2, 3, 1, 1);
            House z = sevenAndFive(sort);
            due("to its own, the same place", z.copy(0, 0, 0, 0, 7), 7);
            holds("then", z, 0, 1, 2, 3, 1, 2, 3, 1);
        }
    }

    private static void copyRefusals() {
        of(COPY, "BAD: no such SHEET; -11; -13: they are of unlike sorts; -12 (also with n below 0).");
        for (int s : NO_SHEETS) {
            refused("copy from " + s, BAD, x -> x.copy(s, 0, 0, 0, 1), Edges::fresh, Edges::rich);
            refused("copy to " + s, BAD, x -> x.copy(0, 0, s, 0, 1), Edges::fresh, Edges::rich);
            refused("BAD before -11", BAD, x -> x.copy(3, 0, s, 0, 1), Edges::fresh, Edges::rich);
            refused("BAD before -11", BAD, x -> x.copy(s, 0, 3, 0, 1), Edges::fresh, Edges::rich);
            refused("BAD before -12", BAD, x -> x.copy(s, -1, 1, -1, -1), Edges::fresh, Edges::rich);
        }
        for (int n : new int[] {0, 1, -1, 41, MOST}) {
            refused("copy from one that is missing", MISSING, x -> x.copy(3, 0, 1, 0, n), Edges::rich);
            refused("copy to one that is missing", MISSING, x -> x.copy(1, 0, 3, 0, n), Edges::rich);
            refused("both are missing", MISSING, x -> x.copy(3, 0, 3, 0, n), Edges::fresh, Edges::rich);
            refused("bytes to ints", UNLIKE, x -> x.copy(2, 0, 1, 0, n), Edges::rich);
            refused("ints to bytes", UNLIKE, x -> x.copy(1, 0, 2, 0, n), Edges::rich);
        }
        int[][] outside = {{0, 0, -1}, {0, 0, LEAST}, {-1, 0, 1}, {0, -1, 1}, {-1, 0, 0}, {0, -1, 0}, {7, 0, 1}, {0, 5, 1}, {0, 0, 6}, {3, 0, 5},
            {0, 1, 5}, {8, 0, 0}, {0, 6, 0}, {LEAST, 0, 1}, {0, LEAST, 1}, {MOST, 0, 1}, {0, MOST, 1}, {1, 0, MOST}, {0, 1, MOST}, {MOST, 0, MOST},
            {0, MOST, MOST}, {7, 5, -1}, {8, 6, -1}};
        for (int[] o : outside) {
            String call = "copy(0, " + o[0] + ", 1, " + o[1] + ", " + o[2] + ")";
            refused(call, OUTSIDE, x -> x.copy(0, o[0], 1, o[1], o[2]), () -> sevenAndFive(0), () -> sevenAndFive(1));
            House x = sevenAndFive(1);
            x.copy(0, o[0], 1, o[1], o[2]);
            holds(call + " changes nothing", x, 1, 0, 0, 0, 0, 0);
        }
        due("one inside", sevenAndFive(0).copy(0, 6, 1, 4, 1), 1);
    }
}
