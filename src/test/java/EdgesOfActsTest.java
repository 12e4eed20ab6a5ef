/** The edges of ACTS: THE TAPE and how it is read, what refuses an ACT, THE LOG. Promises 1 to 6 and what they stand on. */
public final class EdgesOfActsTest extends Edges {
    private static final String TERMS = "Terms", NEW = "Promise 1: A new object", FEED = "Promise 2: feed", ACT = "Promise 3: act";
    private static final String UNDO = "Promise 4: undo", LOG = "Promise 5: log", PRINT = "Promise 6: print";

    private static final int[] NO_BYTES = {-1, 256, LEAST, MOST};

    public static void main(String[] args) {
        manyCalls();
        newObject();
        feedNumber();
        feedBytes();
        feedSize();
        feedRefusals();
        tapeIsEmptied();
        howManyActs();
        faultsAnswer();
        refusalsAnswer();
        tapeSize();
        words();
        numbers();
        blanks();
        actDeal();
        actBid();
        actPassDoubleRedouble();
        actPlay();
        actNumbers();
        tillTheEnd();
        faultPlaces();
        faultKinds();
        full();
        stateOfPhases();
        stateOfDoubles();
        bad();
        unfair();
        done();
        undoCounts();
        undoneIsAll();
        logThings();
        logRefusals();
        printBytes();
        printRefusals();
        finish();
    }

    // ---- the object

    private static void manyCalls() {
        of("What it is", "An object is used for at most 512 calls after it has been made; what later calls answer is free.");
        House x = new House();
        for (int k = 1; k <= 510; k++) due("call " + k, x.told(13), 8);
        due("call 511", x.feed(1, '?', 0, 0, 0, 0), 1);
        due("call 512", x.act(), FAULT);
        // What later calls answer is free, but none may throw.
        TrickHouse later = new TrickHouse();
        for (int k = 0; k < 2000; k++) {
            later.feed(5, 'r', 'a', 'n', 'k', '0' + k % 5);
            later.act();
            if (k % 3 == 0) later.undo();
        }
        due("after some 4000 calls it still stands", 1, 1);
    }

    private static void newObject() {
        of(NEW, "No DEAL is on.");
        due("told(0)", fresh().told(0), 0);
        due("told(1)", fresh().told(1), NONE);
        due("what needs none", fresh().say("deal 1"), 1);
        due("what needs one", fresh().say("pass"), STATE);
        due("no log", fresh().log(0, 0), OUTSIDE);
        due("no tape", fresh().feed(1, 32, 0, 0, 0, 0), 1);
        due("no image", fresh().back(), STATE);
        House first = fresh().does("deal 1");
        due("another object's deal", first.told(0), 1);
        due("is not a new one's", fresh().told(0), 0);
    }

    // ---- feed

    private static void feedNumber() {
        of(FEED, "n bytes (1 .. 5)");
        int[] none = {0, 6, -1, 7, LEAST, MOST};
        for (int n : none) {
            refused("feed(" + n + ", ..)", BAD, x -> x.feed(n, 32, 32, 32, 32, 32), Edges::fresh, withTape(Edges::rich, "play c"));
        }
        for (int n = 1; n <= 5; n++) due("feed(" + n + ", ..)", fresh().feed(n, 32, 32, 32, 32, 32), n);
        for (int n = 1; n <= 5; n++) {
            // So many of the bytes begin the ACT that a blank and a number end.
            House x = fresh();
            x.feed(n, 'r', 'u', 'l', 'e', '1');
            x.write("rule1".substring(n));
            due("the first " + n + " bytes in their order", x.act(), 1);
            due("its number", x.log(0, 1), 1);
        }
        House x = dealt();
        x.feed(4, 'p', 'a', 's', 's', 'x');
        due("what is behind n stays away", x.act(), 4);
    }

    private static void feedBytes() {
        of(FEED, "a, b, .. (all 0 .. 255, also those that are not asked)");
        for (int no : NO_BYTES) {
            for (int n = 1; n <= 5; n++) {
                int m = n;
                refused("a = " + no, BAD, x -> x.feed(m, no, 32, 32, 32, 32), withTape(Edges::dealt, "pass"));
                refused("b = " + no, BAD, x -> x.feed(m, 32, no, 32, 32, 32), withTape(Edges::dealt, "pass"));
                refused("c = " + no, BAD, x -> x.feed(m, 32, 32, no, 32, 32), withTape(Edges::dealt, "pass"));
                refused("d = " + no, BAD, x -> x.feed(m, 32, 32, 32, no, 32), withTape(Edges::dealt, "pass"));
                refused("e = " + no, BAD, x -> x.feed(m, 32, 32, 32, 32, no), withTape(Edges::dealt, "pass"));
            }
        }
        int[] yes = {0, 1, 254, 255};
        for (int v : yes) due("feed(5, " + v + ", ..)", fresh().feed(5, v, v, v, v, v), 5);
        due("each other", fresh().feed(1, 255, 0, 255, 0, 255), 1);
    }

    private static void feedSize() {
        of(FEED, "come behind THE TAPE: how many it has");
        House x = fresh();
        int size = 0;
        for (int n : new int[] {5, 1, 4, 2, 3, 5, 5, 5, 5, 4}) {
            size += n;
            due("with " + n + " more", x.feed(n, 32, 32, 32, 32, 32), size);
        }
        due("the 40th", x.feed(1, 32, 0, 0, 0, 0), 40);
        House y = fresh();
        for (char c : "rank3".toCharArray()) y.feed(1, c, 0, 0, 0, 0);
        due("one behind the other", y.act(), 1);
        due("is told", y.told(10), 3);
    }

    private static void feedRefusals() {
        of(FEED, "BAD; FULL: they have no room.");
        String blanks = " ".repeat(40);
        for (int n = 1; n <= 5; n++) {
            int m = n;
            due(n + " of " + (40 - n), withTape(Edges::fresh, blanks.substring(n)).get().feed(n, 32, 32, 32, 32, 32), 40);
            refused(n + " of " + (41 - n), FULL, x -> x.feed(m, 32, 32, 32, 32, 32), withTape(Edges::fresh, blanks.substring(n - 1)));
        }
        String pass = "pass" + " ".repeat(32);
        refused("5 of 36", FULL, x -> x.feed(5, 'x', 'x', 'x', 'x', 'x'), withTape(Edges::dealt, pass));
        House x = withTape(Edges::dealt, pass).get();
        x.feed(5, 'x', 'x', 'x', 'x', 'x');
        due("what is refused leaves room for 4", x.feed(4, 32, 32, 32, 32, 32), 40);
        due("and nothing on the tape", x.act(), 4);
        refused("BAD before FULL, n", BAD, y -> y.feed(6, 32, 32, 32, 32, 32), withTape(Edges::fresh, blanks));
        refused("BAD before FULL, n of 0", BAD, y -> y.feed(0, 32, 32, 32, 32, 32), withTape(Edges::fresh, blanks));
        refused("BAD before FULL, a byte", BAD, y -> y.feed(5, 32, 32, 32, 32, 256), withTape(Edges::fresh, blanks));
        refused("BAD before FULL, one not asked", BAD, y -> y.feed(1, 32, 32, 32, 32, -1), withTape(Edges::fresh, blanks));
    }

    // ---- act: what it answers, what becomes of the tape

    private static void tapeIsEmptied() {
        of(ACT, "THE TAPE, which is empty then (by a FAULT, too), is an ACT");
        emptied("one that is done", fresh(), "rank 1", 1);
        emptied("a FAULT", fresh(), "rank x", FAULT - 5);
        emptied("a FAULT at the end", fresh(), "rank", FAULT - 4);
        emptied("a FAULT of 40 bytes", fresh(), "?".repeat(40), FAULT);
        emptied("STATE", fresh(), "pass", STATE);
        emptied("BAD", fresh(), "rank 4", BAD);
        emptied("UNFAIR", playing(0), "play s7", UNFAIR);
        emptied("FULL", fullLog(), "rank 1", FULL);
        emptied("nothing", fresh(), "", FAULT);
    }

    private static void emptied(String by, House x, String text, int answer) {
        due(by, x.say(text), answer);
        due("then nothing is an ACT", x.act(), FAULT);
        due("and the tape has 1", x.feed(1, 32, 0, 0, 0, 0), 1);
    }

    private static void howManyActs() {
        of(ACT, "how many there are in THE LOG");
        House x = fresh();
        for (int k = 1; k <= 90; k++) due("act " + k, x.say("rule" + k % 3), k);
        House y = fresh().does("deal 1");
        due("behind a refusal", y.say("deal 1") == STATE ? y.say("pass") : 0, 2);
        y.undo();
        due("behind an undo", y.say("pass"), 2);
    }

    private static void faultsAnswer() {
        of(ACT, "-100 less the place of its FAULT");
        for (int blanks = 0; blanks < 40; blanks++) due("? at " + blanks, fresh().say(" ".repeat(blanks) + "?"), FAULT - blanks);
        for (int size = 0; size <= 40; size++) due("a text of " + size + " blanks", fresh().say(" ".repeat(size)), FAULT - size);
        String[] texts = {"rank x", "deal 1234567", "pass 1", "jump"};
        int[] places = {5, 5, 5, 0};
        for (int i = 0; i < texts.length; i++) {
            refusedAct(texts[i], FAULT - places[i], Edges::fresh, Edges::dealt, Edges::bidding, Edges::led, Edges::rich);
        }
    }

    private static void refusalsAnswer() {
        of(ACT, "the refusal.");
        due("STATE", fresh().say("pass"), -3);
        due("BAD", fresh().say("rank 4"), -2);
        due("UNFAIR", playing(0).say("play s7"), -6);
        due("FULL", fullLog().say("rank 0"), -4);
    }

    // ---- how the tape is read

    private static void tapeSize() {
        of(TERMS, "AN ACT is read from THE TAPE (40 bytes at most).");
        House x = fresh();
        due("39 bytes", x.say("deal" + " ".repeat(34) + "7"), 1);
        due("are read to the last", x.log(0, 1), 7);
        House y = fresh();
        due("40 bytes", y.say("deal" + " ".repeat(35) + "7"), 1);
        due("are read to the last", y.log(0, 1), 7);
        House z = fresh();
        due("41 bytes", z.write("deal" + " ".repeat(36)), 40);
        due("have no room", z.feed(1, '7', 0, 0, 0, 0), FULL);
        due("so the ACT ends at 40", z.act(), FAULT - 40);
        // What a longer text left behind the end of a shorter one is not read.
        House w = fresh();
        w.say("deal 123456");
        due("a shorter text", w.say("pass"), 2);
        due("undone", w.undo() + w.undo(), 1);
        due("too early where it ends", w.say("deal "), FAULT - 5);
    }

    private static void words() {
        of(TERMS, "TOKENS, each as long as can be: WORDS (as many letters a .. z as stand there)");
        due("a is a letter, 96 is none", dealt().say("pass`"), FAULT - 4);
        due("a belongs to the WORD", dealt().say("passa"), FAULT);
        due("z belongs to the WORD", dealt().say("passz"), FAULT);
        due("123 is no letter", dealt().say("pass{"), FAULT - 4);
        due("A is no letter", dealt().say("passA"), FAULT - 4);
        due("Z is no letter", dealt().say("passZ"), FAULT - 4);
        due("capitals begin none", dealt().say("Pass"), FAULT);
        due("just the WORD", dealt().say("pass"), 4);
        due("a WORD of 40 letters", fresh().say("a".repeat(40)), FAULT);
        due("two WORDS in one", dealt().say("passpass"), FAULT);
        due("a WORD and a SUIT in one", playing(0).say("playc 0"), FAULT);
        due("two SUITS in one", dealt().say("bid 4 hh"), FAULT - 6);
        due("a SUIT as long as can be", dealt().say("bid 4 hz"), FAULT - 6);
        due("a SUIT till 96", dealt().say("bid 4 h`"), FAULT - 7);
        due("a SUIT till 123", dealt().say("bid 4 h{"), FAULT - 7);
        due("a WORD till a digit", fresh().say("rank2"), 1);
    }

    private static void numbers() {
        of(TERMS, "NUMBERS (as many digits as stand there; more than 6 are too long)");
        String[] good = {"5", "90", "123", "1234", "12345", "123456", "000000", "000001", "999999", "100000"};
        for (String number : good) {
            House x = fresh();
            due("deal " + number, x.say("deal " + number), 1);
            due("its number", x.log(0, 1), Integer.parseInt(number));
        }
        String[] tooLong = {"1234567", "0000000", "0000001", "9999999", "4294967296", "99999999999999999999"};
        for (String number : tooLong) refusedAct("deal " + number, FAULT - 5, Edges::fresh, Edges::led);
        due("bid 000004 c", dealt().say("bid 000004 c"), 4);
        due("bid 0000004 c", dealt().say("bid 0000004 c"), FAULT - 4);
        due("play c 000000", playing(0).say("play c 000000"), 7);
        due("play c 0000000", playing(0).say("play c 0000000"), FAULT - 7);
        due("rank 000003", fresh().say("rank 000003"), 1);
        due("47 is no digit", fresh().say("deal 1/"), FAULT - 6);
        due("58 is no digit", fresh().say("deal 1:"), FAULT - 6);
        due("47 begins none", fresh().say("deal /"), FAULT - 5);
        due("58 begins none", fresh().say("deal :"), FAULT - 5);
        due("a letter ends it", dealt().say("bid 4c"), 4);
    }

    private static void blanks() {
        of(TERMS, "blanks (32, 10) may stand between.");
        String[] good = {"bid4c", "bid 4c", "bid4 c", "bid 4 c", "bid\n4\nc", "bid \n 4\n \nc", "  bid 4 c", "bid 4 c \n"};
        for (String text : good) due("[" + text + "]", dealt().say(text), 4);
        String[] cards = {"play c0", "play c 0", "play\nc\n0", " play  c \n 0 "};
        for (String text : cards) due("[" + text + "]", playing(0).say(text), 7);
        due("two WORDS must have one between", playing(0).say("playc0"), FAULT);
        char[] none = {0, 9, 11, 12, 13, 31, 33, 127, 160, 255};
        for (char c : none) {
            due("byte " + (int) c + " between", dealt().say("bid" + c + "4 c"), FAULT - 3);
            due("byte " + (int) c + " ahead", dealt().say(c + "bid 4 c"), FAULT);
            due("byte " + (int) c + " behind", dealt().say("bid 4 c" + c), FAULT - 7);
        }
    }

    // ---- the ACTS

    private static void actDeal() {
        of(TERMS, "ACT: deal NUMBER (the SEED; if no DEAL is on)");
        due("at first", fresh().say("deal 0"), 1);
        due("behind a DEAL", ended().say("deal 999999"), 39);
        due("behind a claim", claimed().say("deal 1"), 28);
        due("behind PASSES", passedOut().say("deal 1"), 6);
        refusedAct("deal 1", STATE, Edges::dealt, Edges::bidding, Edges::led, () -> playing(31));
        refusedAct("deal", FAULT - 4, Edges::fresh);
        refusedAct("deal ", FAULT - 5, Edges::fresh);
        refusedAct("deal c", FAULT - 5, Edges::fresh);
        refusedAct("deal 1 2", FAULT - 7, Edges::fresh);
        refusedAct("deal 1 c", FAULT - 7, Edges::fresh);
        House x = fresh().does("deal 5"), y = fresh().does("deal 6");
        due("the SEED counts", x.hand(0, 0) == y.hand(0, 0) ? 1 : 0, 0);
    }

    private static void actBid() {
        of(TERMS, "bid NUMBER SUIT (c, d, h, s, n)");
        String suits = "cdhsn";
        for (int t = 0; t < 5; t++) {
            House x = dealt();
            due("bid 4 " + suits.charAt(t), x.say("bid 4 " + suits.charAt(t)), 4);
            due("its SUIT", x.log(3, 2), t);
            due("TRUMP", x.told(4), t);
        }
        for (char c = 'a'; c <= 'z'; c++) {
            if (suits.indexOf(c) < 0) due("bid 4 " + c, dealt().say("bid 4 " + c), FAULT - 6);
        }
        refusedAct("bid", FAULT - 3, Edges::dealt);
        refusedAct("bid 4", FAULT - 5, Edges::dealt);
        refusedAct("bid 4 ", FAULT - 6, Edges::dealt);
        refusedAct("bid c 4", FAULT - 4, Edges::dealt);
        refusedAct("bid 4 4", FAULT - 6, Edges::dealt);
        refusedAct("bid 4 c c", FAULT - 8, Edges::dealt);
        refusedAct("bid 4 c 4", FAULT - 8, Edges::dealt);
    }

    private static void actPassDoubleRedouble() {
        of(TERMS, "pass, double, redouble");
        due("pass", dealt().say("pass"), 4);
        due("double", dealt().does("bid 4 c").say("double"), 5);
        due("redouble", bidding().say("redouble"), 6);
        String[] words = {"pass", "double", "redouble"};
        for (String word : words) {
            refusedAct(word + " 1", FAULT - word.length() - 1, Edges::bidding);
            refusedAct(word + " c", FAULT - word.length() - 1, Edges::bidding);
            refusedAct(word + " " + word, FAULT - word.length() - 1, Edges::bidding);
            refusedAct(word + "x", FAULT, Edges::bidding);
            refusedAct(word.substring(0, word.length() - 1), FAULT, Edges::bidding);
        }
    }

    private static void actPlay() {
        of(TERMS, "play SUIT NUMBER (not n; who is in turn plays that CARD)");
        House x = playing(0);
        due("play c 0", x.say("play c 0"), 7);
        due("by who was in turn", x.log(6, 3), 1);
        due("who had it", x.hand(1, 1) & ~x.hand(1, 0), bits("c0"));
        due("and now lies", x.trick(0, 1), 0);
        due("play d 7", playing(6).say("play d 7"), 13);
        due("play h 3", playing(0).say("play h 3"), 7);
        due("play s 5", playing(0).say("play s 5"), 7);
        refusedAct("play n 0", FAULT - 5, () -> playing(0));
        refusedAct("play b 0", FAULT - 5, () -> playing(0));
        refusedAct("play", FAULT - 4, () -> playing(0));
        refusedAct("play c", FAULT - 6, () -> playing(0));
        refusedAct("play c ", FAULT - 7, () -> playing(0));
        refusedAct("play 0 c", FAULT - 5, () -> playing(0));
        refusedAct("play c c", FAULT - 7, () -> playing(0));
        refusedAct("play c 0 0", FAULT - 9, () -> playing(0));
        refusedAct("play c 0 c", FAULT - 9, () -> playing(0));
    }

    private static void actNumbers() {
        of(TERMS, "claim NUMBER, rank NUMBER, rule NUMBER (THE RANKING 0 .. 3, THE RULE 0 .. 2 become that, if no DEAL is on)");
        for (int k = 3; k >= 0; k--) becomes(fresh(), "rank", k, 10);
        for (int k = 2; k >= 0; k--) becomes(fresh(), "rule", k, 11);
        becomes(ended(), "rank", 3, 10);
        becomes(claimed(), "rule", 1, 11);
        becomes(passedOut(), "rank", 1, 10);
        refusedAct("rank 4", BAD, Edges::fresh, Edges::ended, Edges::claimed, Edges::passedOut);
        refusedAct("rule 3", BAD, Edges::fresh, Edges::ended, Edges::claimed, Edges::passedOut);
        refusedAct("rank 1", STATE, Edges::dealt, Edges::bidding, Edges::led, () -> playing(31));
        refusedAct("rule 1", STATE, Edges::dealt, Edges::bidding, Edges::led, () -> playing(31));
        due("claim 0", playing(20).say("claim 0"), 27);
        String[] words = {"claim", "rank", "rule"};
        for (String word : words) {
            refusedAct(word, FAULT - word.length(), Edges::fresh, Edges::led);
            refusedAct(word + " c", FAULT - word.length() - 1, Edges::fresh, Edges::led);
            refusedAct(word + " 1 1", FAULT - word.length() - 3, Edges::fresh, Edges::led);
            refusedAct(word + "1c", FAULT - word.length() - 1, Edges::fresh, Edges::led);
        }
    }

    private static void becomes(House x, String word, int k, int what) {
        due(word + " " + k, x.say(word + " " + k) > 0 ? 1 : 0, 1);
        due("told(" + what + ")", x.told(what), k);
    }

    private static void tillTheEnd() {
        of(TERMS, "till the end");
        String[] texts = {"deal 1", "rank 1", "rule 1"};
        for (String text : texts) {
            due("[" + text + "]", fresh().say(text), 1);
            due("[" + text + "] and blanks", fresh().say(text + " \n \n"), 1);
            due("[" + text + "] and blanks till 40", fresh().say(text + " ".repeat(34)), 1);
            due("[" + text + "] and a TOKEN at 39", fresh().say(text + " ".repeat(33) + "x"), FAULT - 39);
            due("[" + text + "] and a digit at 39", fresh().say(text + " ".repeat(33) + "1"), FAULT - 39);
            due("[" + text + "] and a byte that begins none", fresh().say(text + (char) 0), FAULT - 6);
        }
    }

    // ---- FAULTS

    private static void faultPlaces() {
        of(TERMS, "FAULT: the place of the first byte of the first TOKEN that can't stand there (the text's size, if it ends too early)");
        String[] texts = {"", " ", "1", "c", "n 4", "4 bid", "  c", "bid", "bid\n", "bid  ", "bid 4", "bid 4 \n ", "bid c", "bid pass",
            "bid 4 pass", "bid 4 n 4", "bid 4 n bid", "play", "play 3", "play n", "play s", "play s s", "play s 3 s", "rank rank",
            "deal deal 1", "pass deal", "claim n", "double 1 ?", "deal 1 1 ?", "deal x 1234567"};
        int[] places = {0, 1, 0, 0, 0, 0, 2, 3, 4, 5, 5, 8, 4, 4,
            6, 8, 8, 4, 5, 5, 6, 7, 9, 5,
            5, 5, 6, 7, 7, 5};
        due("as many places", places.length, texts.length);
        for (int i = 0; i < texts.length; i++) {
            refusedAct(texts[i], FAULT - places[i], Edges::fresh, Edges::bidding);
        }
        due("the text's size of 40", fresh().say("deal" + " ".repeat(36)), FAULT - 40);
        due("the text's size of 39", fresh().say("deal" + " ".repeat(35)), FAULT - 39);
        due("the text's size of 40, a WORD's end", fresh().say(" ".repeat(36) + "deal"), FAULT - 40);
        due("the first byte of the last TOKEN", fresh().say(" ".repeat(33) + "deal xy"), FAULT - 38);
    }

    private static void faultKinds() {
        of(TERMS, "also of a byte that begins none, a WORD that is none such, a NUMBER that is too long.");
        char[] none = {0, 1, 9, 31, 33, 45, 47, 58, 64, 65, 90, 96, 123, 127, 128, 200, 255};
        for (char c : none) {
            due("byte " + (int) c, fresh().say("" + c), FAULT);
            due("byte " + (int) c + " for a number", fresh().say("deal " + c + "1"), FAULT - 5);
            due("byte " + (int) c + " for a SUIT", dealt().say("bid 4 " + c), FAULT - 6);
            due("byte " + (int) c + " behind", fresh().say("deal 1" + c), FAULT - 6);
        }
        String[] words = {"jump", "dea", "deals", "bi", "bids", "pas", "doubl", "doubles", "redoubl", "redoubles", "pla", "plays",
            "clai", "claims", "ran", "ranks", "rul", "rules", "a", "d", "suit", "rebid", "xdouble",
            "seal", "lid", "bass", "trouble", "debouble", "slay", "blaim", "bank", "mule", "dial", "bed", "puss", "plow", "risk"};
        for (String word : words) {
            due(word, fresh().say(word + " 1"), FAULT);
            due(word + " behind a blank", fresh().say(" " + word + " 1"), FAULT - 1);
        }
        due("for a SUIT", dealt().say("bid 4 cd"), FAULT - 6);
        due("an empty one behind it", fresh().say("jump"), FAULT);
        due("a NUMBER too long", fresh().say("deal 1000000"), FAULT - 5);
        due("a NUMBER too long where none can stand", dealt().say("pass 1000000"), FAULT - 5);
        due("a NUMBER too long at first", fresh().say("1000000"), FAULT);
        due("a WORD comes first", fresh().say("jump 1000000"), FAULT);
        due("a NUMBER comes first", fresh().say("deal 1000000 jump"), FAULT - 5);
        due("a NUMBER comes before a byte", fresh().say("deal 1000000?"), FAULT - 5);
    }

    // ---- refusals of ACTS that are well written

    private static void full() {
        of(TERMS, "Then: FULL: THE LOG has 90 ACTS");
        House x = fresh();
        for (int k = 0; k < 88; k++) x.does("rank1");
        due("the 89th", x.say("rank2"), 89);
        due("the 90th", x.say("rank3"), 90);
        due("there is no 91st", x.say("rank0"), FULL);
        due("the last stays", x.told(10), 3);
        due("one undone", x.undo(), 89);
        due("one is done", x.say("rank0"), 90);
        refusedAct("rank 1", FULL, Edges::fullLog);
        refusedAct("deal 1", FULL, Edges::fullLog);
        refusedAct("pass", FULL, Edges::fullLog);
        refusedAct("bid 9 c", FULL, Edges::fullLog);
        refusedAct("rank 9", FULL, Edges::fullLog);
        refusedAct("rank", FAULT - 4, Edges::fullLog);
        refusedAct("jump", FAULT, Edges::fullLog);
        // In play: what would be STATE, BAD, UNFAIR or done.
        String[] texts = {"pass", "play c8", "play s7", "play c0", "claim 0", "claim 9"};
        for (String text : texts) refusedAct(text, FULL, EdgesOfActsTest::fullInPlay);
        refusedAct("play c", FAULT - 6, EdgesOfActsTest::fullInPlay);
        House y = fullInPlay();
        y.undo();
        due("the last PASS undone and done", y.say("pass"), 90);
    }

    private static House fullInPlay() {
        House x = fresh();
        for (int k = 0; k < 85; k++) x.does("rule2");
        return x.does("deal 42", "bid 4 h", "pass", "pass", "pass");
    }

    private static void stateOfPhases() {
        of(TERMS, "STATE: it isn't the time (no DEAL is on; one is; it is BIDDING; it isn't;");
        String[] needDeal = {"bid 4 c", "pass", "double", "redouble", "play c 0", "claim 0"};
        for (String text : needDeal) refusedAct(text, STATE, Edges::fresh, Edges::ended, Edges::claimed, Edges::passedOut);
        String[] notBidding = {"deal 1", "rank 0", "rule 0", "play c 0", "claim 0"};
        for (String text : notBidding) refusedAct(text, STATE, Edges::dealt, Edges::bidding);
        String[] notPlaying = {"deal 1", "rank 0", "rule 0", "bid 8 n", "pass", "double", "redouble"};
        for (String text : notPlaying) refusedAct(text, STATE, () -> playing(0), Edges::led, () -> playing(31));
        // STATE is named before BAD and UNFAIR.
        String[] worse = {"bid 3 c", "bid 9 c", "play c 8", "play s 7", "claim 9"};
        for (String text : worse) refusedAct(text, STATE, Edges::fresh);
        refusedAct("rank 4", STATE, Edges::dealt, Edges::led);
        refusedAct("rule 3", STATE, Edges::dealt, Edges::led);
        refusedAct("play c 9", STATE, Edges::bidding);
        refusedAct("claim 9", STATE, Edges::bidding, () -> playing(0), () -> playing(19));
        refusedAct("bid 9 c", STATE, Edges::led);
        refusedAct("bid 4 c", STATE, Edges::led);
        due("no DEAL is on: deal", fresh().say("deal 1"), 1);
        due("BIDDING: bid", dealt().say("bid 4 c"), 4);
        due("playing: play", playing(0).say("play c 0"), 7);
    }

    private static void stateOfDoubles() {
        of(TERMS, "it may not be DOUBLED, REDOUBLED)");
        refusedAct("double", STATE, Edges::dealt, after("deal 1", "pass"), after("deal 1", "bid 4 c", "pass"),
            after("deal 1", "bid 4 c", "double"), after("deal 1", "bid 4 c", "double", "pass", "pass"),
            after("deal 1", "bid 4 c", "double", "redouble"));
        refusedAct("redouble", STATE, Edges::dealt, after("deal 1", "bid 4 c"), after("deal 1", "bid 4 c", "pass"),
            after("deal 1", "bid 4 c", "double", "pass"), after("deal 1", "bid 4 c", "double", "redouble"),
            after("deal 1", "bid 4 c", "double", "redouble", "pass"), after("deal 1", "bid 4 c", "double", "bid 4 d"),
            after("deal 1", "bid 4 c", "double", "bid 4 d", "pass"));
        due("by the next one", after("deal 1", "bid 4 c").get().say("double"), 3);
        due("by the one behind the partner", after("deal 1", "bid 4 c", "pass", "pass").get().say("double"), 5);
        due("by the partner", after("deal 1", "bid 4 c", "double").get().say("redouble"), 4);
        due("by the bidder", after("deal 1", "bid 4 c", "double", "pass", "pass").get().say("redouble"), 6);
    }

    private static void bad() {
        of(TERMS, "BAD: its number isn't as told (bid 4 .. 8, play 0 .. 7, claim 0 .. 8, rank, rule)");
        int[] noBids = {0, 3, 9, 10, 999999};
        for (int b : noBids) refusedAct("bid " + b + " h", BAD, Edges::dealt);
        for (int b = 4; b <= 8; b++) due("bid " + b + " h", dealt().say("bid " + b + " h"), 4);
        refusedAct("play c 8", BAD, () -> playing(0), Edges::led);
        refusedAct("play c 999999", BAD, () -> playing(0));
        due("play c 0", playing(0).say("play c 0"), 7);
        due("play d 7", playing(6).say("play d 7"), 13);
        due("play c 7 is not BAD", playing(0).say("play c 7"), UNFAIR);
        refusedAct("claim 9", BAD, () -> playing(20), Edges::led, () -> playing(31));
        refusedAct("claim 999999", BAD, () -> playing(20));
        due("claim 8 is not BAD", playing(20).say("claim 8"), UNFAIR);
        due("claim 0", playing(20).say("claim 0"), 27);
        refusedAct("rank 4", BAD, Edges::fresh);
        refusedAct("rank 999999", BAD, Edges::fresh);
        due("rank 3", fresh().say("rank 3"), 1);
        refusedAct("rule 3", BAD, Edges::fresh);
        refusedAct("rule 999999", BAD, Edges::fresh);
        due("rule 2", fresh().say("rule 2"), 1);
        // BAD is named before UNFAIR: none of these is above the last BID.
        refusedAct("bid 3 c", BAD, after("deal 1", "bid 8 n"));
        refusedAct("bid 9 c", BAD, after("deal 1", "bid 8 n"));
        due("any number deals", fresh().say("deal 999999"), 1);
    }

    private static void unfair() {
        of(TERMS, "UNFAIR: a BID isn't above the last one; who is in turn hasn't the CARD, or THE RULE forbids it; a CLAIM isn't PROVED.");
        refusedAct("bid 5 h", UNFAIR, Edges::bidding);
        refusedAct("bid 5 d", UNFAIR, Edges::bidding);
        refusedAct("bid 4 n", UNFAIR, Edges::bidding);
        due("above", bidding().say("bid 5 s"), 6);
        // PLAYER 1 leads: c 1 is another's.
        refusedAct("play c 1", UNFAIR, () -> playing(0));
        refusedAct("play c 0", UNFAIR, () -> playing(5));
        due("in hand", playing(0).say("play c 4"), 7);
        // c is led, PLAYER 2 has c 2 and c 3.
        refusedAct("play d 3", UNFAIR, () -> playing(1));
        refusedAct("play h 0", UNFAIR, () -> playing(1));
        due("the other c", playing(1).say("play c 3"), 8);
        refusedAct("claim 3", UNFAIR, () -> playing(20));
        due("what is PROVED", playing(20).say("claim 2"), 27);
    }

    private static void done() {
        of(TERMS, "Else it is done, and comes to THE LOG.");
        String[] texts = {"rank 1", "rule 2", "deal 42", "bid 4 h", "double", "redouble", "pass", "pass", "pass", "play c 0"};
        int[] words = {7, 8, 0, 1, 3, 4, 2, 2, 2, 5};
        House x = fresh();
        for (int i = 0; i < texts.length; i++) {
            due(texts[i] + " is not there yet", x.log(i, 0), OUTSIDE);
            due(texts[i], x.say(texts[i]), i + 1);
            due(texts[i] + " is there", x.log(i, 0), words[i]);
        }
        due("claim", playing(20).say("claim 0"), 27);
        due("a refused one does not come", x.say("play d 0"), UNFAIR);
        due("so there is none", x.log(10, 0), OUTSIDE);
        due("nor one with a FAULT", x.say("play"), FAULT - 4);
        due("so there is none", x.log(10, 0), OUTSIDE);
    }

    // ---- undo

    private static void undoCounts() {
        of(UNDO, "UNDONE is the last ACT: how many there are. STATE: none.");
        refused("undo()", STATE, House::undo, Edges::fresh, withTape(Edges::fresh, "rank"), () -> {
            House x = fresh();
            x.image();
            x.sheet(0, 0, 3);
            return x;
        });
        House x = fresh().does("rank 1", "rank 2");
        due("of 2", x.undo(), 1);
        due("of 1", x.undo(), 0);
        due("of none", x.undo(), STATE);
        due("still", x.undo(), STATE);
        due("done again", x.say("rank 3"), 1);
        due("undone again", x.undo(), 0);
        House y = fullLog();
        for (int k = 89; k >= 0; k--) due("of " + (k + 1), y.undo(), k);
        due("of none", y.undo(), STATE);
    }

    private static void undoneIsAll() {
        of(TERMS, "UNDONE is the last ACT: all is as if it had never been.");
        String[] first = {"rank 2", "rule 1", "deal 42", "bid 4 h", "bid 5 h", "double", "redouble", "bid 6 c", "pass", "pass", "pass"};
        for (int n = 1; n <= first.length; n++) {
            String[] with = java.util.Arrays.copyOf(first, n), without = java.util.Arrays.copyOf(first, n - 1);
            undone(first[n - 1], after(with).get(), after(without).get());
        }
        // The last PASS of four ends the DEAL; undone, THE DEALER is in turn no more.
        undone("the fourth pass", passedOut(), after("deal 7", "pass", "pass", "pass").get());
        for (int n : new int[] {1, 2, 3, 4, 5, 19, 20, 31, 32}) undone("card " + n, playing(n), playing(n - 1));
        undone("a claim", claimed(), playing(20));
        undone("a deal behind another", ended().does("deal 3"), ended());
        undone("a rank behind a deal", ended().does("rank 3"), ended());
        undone("the second deal's PASSES", ended().does("deal 3", "pass", "pass", "pass", "pass"), ended().does("deal 3", "pass", "pass", "pass"));
        undone("the 90th", fullLog(), after90Less1());
    }

    private static House after90Less1() {
        House x = fresh();
        for (int k = 0; k < 89; k++) x.does("rank" + k % 4);
        return x;
    }

    private static void undone(String act, House with, House without) {
        for (House x : new House[] {with, without}) {
            sheets(x);
            // SHEETS are not of THE LOG: what film() tells of the one must not make it differ from the other.
            x.sheet(0, 0, 1);
        }
        due("undo() of " + act, with.undo() >= 0 ? 1 : 0, 1);
        unchanged(act + ", undone,", with, without);
    }

    // ---- log and print

    private static void logThings() {
        of(LOG, "ACT i of THE LOG: its WORD (what 0: 0 deal, 1 bid, 2 pass, 3 double, 4 redouble, 5 play, 6 claim, 7 rank, 8 rule), "
            + "its number (1; NONE), its SUIT (2; 4: n; NONE), by whom (3; NONE: deal, rank, rule).");
        House x = after("rank 3", "rule 0", "deal 999999", "bid 4 c", "double", "redouble", "bid 8 n", "pass", "pass", "pass").get();
        int[][] acts = {{7, 3, -1, -1}, {8, 0, -1, -1}, {0, 999999, -1, -1}, {1, 4, 0, 0}, {3, -1, -1, 1}, {4, -1, -1, 2},
            {1, 8, 4, 3}, {2, -1, -1, 0}, {2, -1, -1, 1}, {2, -1, -1, 2}};
        logged(x, acts, 0);
        logged(playing(7), new int[][] {{5, 0, 0, 1}, {5, 2, 0, 2}, {5, 7, 0, 3}, {5, 1, 0, 0}, {5, 0, 1, 3}, {5, 1, 1, 0}, {5, 7, 1, 1}}, 6);
        logged(claimed(), new int[][] {{6, 2, -1, 0}}, 26);
        logged(led().does("claim 0"), new int[][] {{6, 0, -1, 1}}, 27);
        logged(after("deal 0", "bid 4 d", "bid 4 h", "bid 4 s").get(), new int[][] {{0, 0, -1, -1}, {1, 4, 1, 0}, {1, 4, 2, 1}, {1, 4, 3, 2}}, 0);
    }

    private static void logged(House x, int[][] acts, int from) {
        for (int i = 0; i < acts.length; i++) {
            for (int what = 0; what < 4; what++) due("log(" + (from + i) + ", " + what + ")", x.log(from + i, what), acts[i][what]);
        }
    }

    private static void logRefusals() {
        of(LOG, "BAD: what; -12.");
        for (int what : new int[] {-1, 4, LEAST, MOST}) {
            refused("log(0, " + what + ")", BAD, x -> x.log(0, what), Edges::fresh, Edges::bidding);
            refused("BAD before -12", BAD, x -> x.log(99, what), Edges::fresh, Edges::bidding);
        }
        for (int i : new int[] {-1, 5, 6, 89, 90, LEAST, MOST}) {
            for (int what = 0; what < 4; what++) {
                int w = what;
                refused("log(" + i + ", " + what + ") of 5", OUTSIDE, x -> x.log(i, w), Edges::bidding);
            }
        }
        due("the first", bidding().log(0, 0), 7);
        due("the last", bidding().log(4, 3), 1);
        due("none at first", fresh().log(0, 3), OUTSIDE);
        House x = fullLog();
        due("the 90th", x.log(89, 1), 1);
        due("behind it", x.log(90, 1), OUTSIDE);
        x.undo();
        due("undone, it is none", x.log(89, 1), OUTSIDE);
        due("the 89th", x.log(88, 1), 0);
    }

    private static void printBytes() {
        of(PRINT, "Byte k of ACT i told anew (its WORD, number, SUIT as in its text, one blank between; k from 0); how many bytes (k -1).");
        House x = fresh();
        String[] texts = {"rank1", " rule \n 2", "deal 000042", "bid4h", "double\n", " redouble", "bid 7n", "pass", "pass", "pass"};
        String[] told = {"rank 1", "rule 2", "deal 42", "bid 4 h", "double", "redouble", "bid 7 n", "pass", "pass", "pass"};
        x.does(texts);
        for (int i = 0; i < told.length; i++) printed(x, i, told[i]);
        printed(playing(1), 6, "play c 0");
        printed(claimed(), 26, "claim 2");
        printed(after("deal 0").get(), 0, "deal 0");
        printed(after("deal 000000").get(), 0, "deal 0");
        printed(after("deal 999999").get(), 0, "deal 999999");
        printed(after("deal 100").get(), 0, "deal 100");
        String[] suits = {"bid 4 c", "bid 4 d", "bid 4 h", "bid 4 s", "bid 4 n"};
        for (String bid : suits) printed(after("deal 1", bid).get(), 1, bid);
    }

    private static void printed(House x, int i, String text) {
        due("size of [" + text + "]", x.print(i, -1), text.length());
        for (int k = 0; k < text.length(); k++) due("byte " + k + " of [" + text + "]", x.print(i, k), text.charAt(k));
        due("behind [" + text + "]", x.print(i, text.length()), OUTSIDE);
    }

    private static void printRefusals() {
        of(PRINT, "-12: no such ACT, byte.");
        for (int i : new int[] {-1, 5, 90, LEAST, MOST}) {
            for (int k : new int[] {-1, 0, -2, MOST}) refused("print(" + i + ", " + k + ") of 5", OUTSIDE, x -> x.print(i, k), Edges::bidding);
        }
        for (int k : new int[] {-2, 6, 7, LEAST, MOST}) refused("print(4, " + k + ") of 6", OUTSIDE, x -> x.print(4, k), Edges::bidding);
        due("the first byte", bidding().print(4, 0), 'd');
        due("the last byte", bidding().print(4, 5), 'e');
        due("the size", bidding().print(4, -1), 6);
        due("none at first", fresh().print(0, -1), OUTSIDE);
        due("the last ACT", fullLog().print(89, -1), 6);
        due("behind it", fullLog().print(90, -1), OUTSIDE);
    }
}
