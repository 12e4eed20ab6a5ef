/**
 * A TrickHouse whose calls are counted: behind the 512th what it answers is free, so no test may ask it then.
 * It also says ACTS as texts, so that tests can be read.
 */
final class House {
    static final int MOST_CALLS = 512;

    private final TrickHouse x = new TrickHouse();
    private int calls;

    private TrickHouse asked() {
        calls++;
        if (calls > MOST_CALLS) throw new IllegalStateException("a test asks more than " + MOST_CALLS + " calls of one object");
        return x;
    }

    int callsLeft() { return MOST_CALLS - calls; }

    // ---- what is said in texts

    /** The text comes behind THE TAPE, five bytes a call; answered is how many it has then, or the first refusal. */
    int write(String text) {
        int size = 0;
        for (int i = 0; i < text.length() && size >= 0; i += 5) {
            int[] b = new int[5];
            int n = Math.min(5, text.length() - i);
            for (int k = 0; k < n; k++) b[k] = text.charAt(i + k);
            size = feed(n, b[0], b[1], b[2], b[3], b[4]);
        }
        return size;
    }

    int say(String text) {
        if (write(text) < 0) throw new IllegalStateException("the tape does not take " + text);
        return act();
    }

    /** All these ACTS are done, or the test is wrong. */
    House does(String... texts) {
        for (String text : texts) {
            int answer = say(text);
            if (answer < 0) throw new IllegalStateException("act() of " + text + " answered " + answer);
        }
        return this;
    }

    /** CARDS, two signs each and a blank between: "c0 s7". */
    House plays(String cards) {
        for (String card : cards.trim().split(" +")) does("play " + card);
        return this;
    }

    // ---- the face

    int feed(int n, int a, int b, int c, int d, int e) { return asked().feed(n, a, b, c, d, e); }
    int act() { return asked().act(); }
    int undo() { return asked().undo(); }
    int log(int i, int what) { return asked().log(i, what); }
    int print(int i, int k) { return asked().print(i, k); }
    int told(int what) { return asked().told(what); }
    int hand(int player, int what) { return asked().hand(player, what); }
    int trick(int i, int what) { return asked().trick(i, what); }
    int strength(int card, int t) { return asked().strength(card, t); }
    int taken(int card, int kind) { return asked().taken(card, kind); }
    int score(int house) { return asked().score(house); }
    int table(int house, int m, int b, int t, int d) { return asked().table(house, m, b, t, d); }
    int total(int side, int house) { return asked().total(side, house); }
    int open() { return asked().open(); }
    int gains(int card) { return asked().gains(card); }
    int best(int what) { return asked().best(what); }
    int drawn(int seed) { return asked().drawn(seed); }
    int chance(int seed, int m, int part) { return asked().chance(seed, m, part); }
    int replay(int n, int what) { return asked().replay(n, what); }
    int tells(int sheet, int what) { return asked().tells(sheet, what); }
    int film(int sheet) { return asked().film(sheet); }
    int image() { return asked().image(); }
    int back() { return asked().back(); }
    int sheet(int sheet, int sort, int n) { return asked().sheet(sheet, sort, n); }
    int cell(int sheet, int i, int v) { return asked().cell(sheet, i, v); }
    int copy(int sheet, int i, int other, int j, int n) { return asked().copy(sheet, i, other, j, n); }
}
