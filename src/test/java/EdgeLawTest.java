/** Promises 1 to 8 at their edges, and how a TEXT is read: the last that is allowed, the first that is not. */
public final class EdgeLawTest {
    private static final int LEAST = Integer.MIN_VALUE, MOST = Integer.MAX_VALUE;

    private static int wrong;

    private static void due(int promise, String sentence, long got, long want) {
        if (got != want) {
            wrong++;
            System.out.println("promise " + promise + ": " + sentence + ": answered " + got + ", due is " + want);
        }
    }

    public static void main(String[] args) {
        promise1NewObject();
        promise1ObjectsAreApart();
        promise2Count();
        promise3HighAndStick();
        promise3Want();
        promise3Order();
        promise4Heap();
        promise5Numbers();
        promise5FirstOnes();
        promise5Full();
        promise6Full();
        promise6TapeIsEmptyThen();
        promise6EndsTooEarly();
        promise6EveryByte();
        promise6Words();
        promise6Numbers();
        promise6Blanks();
        promise6Places();
        promise6EverySix();
        promise6TillTheyEnd();
        promise6Worth();
        promise6Wrap();
        promise7Force();
        promise8Packed();
        promise8Bounds();
        promise8Names();
        System.out.println(wrong == 0 ? "all answers are as due" : wrong + " answers are not as due");
        if (wrong != 0) {
            System.exit(1);
        }
    }

    private static void feedAll(NineHeaps x, String text) {
        for (int i = 0; i < text.length(); i += 5) {
            int[] five = new int[5];
            int n = Math.min(5, text.length() - i);
            for (int k = 0; k < n; k++) {
                five[k] = text.charAt(i + k);
            }
            x.feed(n, five[0], five[1], five[2], five[3], five[4]);
        }
    }

    private static int textOf(NineHeaps x, String text) {
        feedAll(x, text);
        return x.text();
    }

    /** A whole TEXT whose minds are that E is read, or is at FAULT at that place of the E. */
    private static void reads(String sentence, String e) {
        due(6, sentence + " <" + e + ">", textOf(new NineHeaps(), "takes 1;steps 1;minds " + e + ";"), 1);
    }

    private static void faultInE(String sentence, String e, int place) {
        due(6, sentence + " <" + e + ">", textOf(new NineHeaps(), "takes 1;steps 1;minds " + e + ";"), -100 - 22 - place);
    }

    private static void fault(String sentence, String text, int place) {
        due(6, sentence + " <" + text + ">", textOf(new NineHeaps(), text), -100 - place);
    }

    private static void worth(String e, int value) {
        NineHeaps x = new NineHeaps();
        x.walker(0, 0, 0);
        x.force(textOf(x, "takes 1;steps 1;minds 50+(" + e + ");"));
        due(6, "an E is worth <" + e + ">", x.asks(2, 0, 0) - 50, value);
    }

    // ---- promise 1

    private static void promise1NewObject() {
        NineHeaps x = new NineHeaps();
        due(1, "no WALKERS", x.count(0), 0);
        due(1, "no WALKER 0", x.told(0, 0), -5);
        due(1, "WANT 20 at first", x.count(1), 20);
        due(1, "TEXT 0 alone", x.count(2), 1);
        due(1, "TEXT 0 is THE LAW", x.count(3), 0);
        due(1, "THE TAPE is empty", x.count(4), 0);
        for (int h = 0; h < 9; h++) {
            due(1, "50 HIGH at first, HEAP " + h, x.heap(h, 0), 50);
            due(1, "STICK 0 at first, HEAP " + h, x.heap(h, 1), 0);
        }
        for (int s = 0; s < 4; s++) {
            due(1, "a SHEET is missing at first, " + s, x.cell(s, 0, 0), -11);
        }
        due(1, "no IMAGE", x.back(), -3);
        x.walker(0, 0, 0);
        due(1, "TEXT 0 takes 2", x.asks(0, 0, 0), 2);
        due(1, "TEXT 0 steps 1", x.asks(1, 0, 0), 1);
        due(1, "TEXT 0 minds 1", x.asks(2, 0, 0), 1);
    }

    private static void promise1ObjectsAreApart() {
        NineHeaps x = new NineHeaps();
        NineHeaps y = new NineHeaps();
        x.walker(0, 0, 0);
        x.set(0, 0, 1);
        x.set(1, 0, 1);
        x.set(2, 0, 1);
        x.force(textOf(x, "takes 1;steps 1;minds 1;"));
        x.feed(1, 'a', 0, 0, 0, 0);
        x.sheet(0, 0, 1);
        x.image();
        NineHeaps[] others = {y, new NineHeaps()};
        int[] counts = {0, 20, 1, 0, 0};
        for (NineHeaps other : others) {
            for (int what = 0; what < 5; what++) {
                due(1, "another object is new, count " + what, other.count(what), counts[what]);
            }
            due(1, "another object's HEAP", other.heap(0, 0), 50);
            due(1, "another object's STICK", other.heap(0, 1), 0);
            due(1, "another object's SHEET", other.cell(0, 0, 0), -11);
            due(1, "another object's IMAGE", other.back(), -3);
        }
    }

    // ---- promise 2

    private static void promise2Count() {
        NineHeaps x = new NineHeaps();
        int[] none = {LEAST, -1, 5, MOST};
        for (int what : none) {
            due(2, "BAD: what " + what, x.count(what), -2);
        }
        for (int w = 0; w < 5; w++) {
            due(2, "WALKERS ahead of " + w, x.count(0), w);
            x.walker(0, 0, 0);
            due(2, "TEXTS ahead of " + w, x.count(2), w + 1);
            textOf(x, "takes 1;steps 1;minds 1;");
        }
        due(2, "WALKERS, 5 at most", x.count(0), 5);
        due(2, "TEXTS, 6 at most", x.count(2), 6);
        x.set(2, 0, 200);
        due(2, "WANT, 200 at most", x.count(1), 200);
        x.set(2, 0, 1);
        due(2, "WANT, 1 at least", x.count(1), 1);
        x.force(5);
        due(2, "THE LAW, the last", x.count(3), 5);
        for (int n = 5; n <= 160; n += 5) {
            x.feed(5, 0, 0, 0, 0, 0);
            due(2, "bytes of THE TAPE", x.count(4), n);
        }
    }

    // ---- promise 3

    private static void promise3HighAndStick() {
        int[] most = {200, 9};
        int[] first = {50, 0};
        for (int what = 0; what < 2; what++) {
            NineHeaps x = new NineHeaps();
            int[] hs = {0, 8};
            for (int h : hs) {
                due(3, "what it was at first", x.set(what, h, most[what]), first[what]);
                due(3, "the most is allowed", x.heap(h, what), most[what]);
                due(3, "-7: one more", x.set(what, h, most[what] + 1), -7);
                due(3, "-7: far more", x.set(what, h, MOST), -7);
                due(3, "-7: below 0", x.set(what, h, -1), -7);
                due(3, "-7: far below 0", x.set(what, h, LEAST), -7);
                due(3, "refused: as it was", x.heap(h, what), most[what]);
                due(3, "what it was, the most", x.set(what, h, 0), most[what]);
                due(3, "0 is allowed", x.heap(h, what), 0);
                due(3, "what it was, 0", x.set(what, h, 1), 0);
                due(3, "the other stays", x.heap(h, 1 - what), first[1 - what]);
            }
            due(3, "other HEAPS stay", x.heap(1, what), first[what]);
            due(3, "other HEAPS stay", x.heap(7, what), first[what]);
            int[] no = {-1, 9, LEAST, MOST};
            for (int h : no) {
                due(3, "-6: no HEAP " + h, x.set(what, h, 1), -6);
            }
        }
        NineHeaps y = new NineHeaps();
        due(3, "50 for STICK is too much", y.set(1, 0, 50), -7);
    }

    private static void promise3Want() {
        NineHeaps x = new NineHeaps();
        int[] of = {0, 8, 9, -1, LEAST, MOST};
        for (int h : of) {
            x.set(2, 0, 20);
            due(3, "of does not matter, the most", x.set(2, h, 200), 20);
            due(3, "of does not matter, the least", x.set(2, h, 1), 200);
            due(3, "-7: 0", x.set(2, h, 0), -7);
            due(3, "-7: 201", x.set(2, h, 201), -7);
            due(3, "-7: below", x.set(2, h, LEAST), -7);
            due(3, "-7: above", x.set(2, h, MOST), -7);
            due(3, "refused: as it was", x.count(1), 1);
        }
        for (int h = 0; h < 9; h++) {
            due(3, "HEAPS stay HIGH", x.heap(h, 0), 50);
            due(3, "HEAPS stay of STICK", x.heap(h, 1), 0);
        }
    }

    private static void promise3Order() {
        NineHeaps x = new NineHeaps();
        int[] whats = {-1, 3, LEAST, MOST};
        for (int what : whats) {
            due(3, "-5: what, all else well", x.set(what, 0, 1), -5);
            due(3, "-5 ahead of -6 and -7", x.set(what, 9, 999), -5);
        }
        due(3, "-6 ahead of -7", x.set(0, 9, 201), -6);
        due(3, "-6 ahead of -7", x.set(1, -1, 10), -6);
    }

    // ---- promise 4

    private static void promise4Heap() {
        NineHeaps x = new NineHeaps();
        x.set(0, 0, 10);
        x.set(0, 8, 18);
        x.set(1, 0, 1);
        x.set(1, 8, 9);
        due(4, "HEAP 0, HIGH", x.heap(0, 0), 10);
        due(4, "HEAP 8, HIGH", x.heap(8, 0), 18);
        due(4, "HEAP 0, STICK", x.heap(0, 1), 1);
        due(4, "HEAP 8, STICK", x.heap(8, 1), 9);
        int[] no = {-1, 9, LEAST, MOST};
        for (int h : no) {
            due(4, "-6: no HEAP " + h, x.heap(h, 0), -6);
            due(4, "-6: no HEAP " + h, x.heap(h, 1), -6);
            due(4, "-6 ahead of -7", x.heap(h, 2), -6);
        }
        int[] whats = {-1, 2, LEAST, MOST};
        for (int what : whats) {
            due(4, "-7: what " + what, x.heap(0, what), -7);
            due(4, "-7: what " + what, x.heap(8, what), -7);
        }
    }

    // ---- promise 5

    private static void promise5Numbers() {
        NineHeaps x = new NineHeaps();
        int[] ns = {LEAST, -1, 0, 6, MOST};
        for (int n : ns) {
            due(5, "BAD: n " + n, x.feed(n, 1, 1, 1, 1, 1), -2);
        }
        int[] noBytes = {LEAST, -1, 256, MOST};
        for (int n = 1; n <= 5; n++) {
            for (int place = 0; place < 5; place++) {
                for (int b : noBytes) {
                    int[] five = {1, 1, 1, 1, 1};
                    five[place] = b;
                    due(5, "BAD: " + b + " as number " + place + " of the five, n " + n,
                        x.feed(n, five[0], five[1], five[2], five[3], five[4]), -2);
                }
            }
        }
        due(5, "refused: THE TAPE is as it was", x.count(4), 0);
        due(5, "n 1", x.feed(1, 0, 0, 0, 0, 0), 1);
        due(5, "n 5", x.feed(5, 255, 255, 255, 255, 255), 6);
        due(5, "0 and 255 are bytes", x.feed(2, 0, 255, 0, 255, 0), 8);
    }

    private static void promise5FirstOnes() {
        for (int n = 1; n <= 5; n++) {
            NineHeaps x = new NineHeaps();
            x.walker(0, 0, 0);
            feedAll(x, "takes 1;steps 1;minds 1");
            due(5, "the first " + n + " of five come", x.feed(n, '+', '2', '*', '3', ';'), 23 + n);
            String[] rest = {"", "7;", ";", "7;", ";", ""};
            int[] minds = {0, 8, 3, 15, 7, 7};
            feedAll(x, rest[n]);
            due(5, "they stand behind one another", x.text(), 1);
            x.force(1);
            due(5, "they stand as they came, " + n, x.asks(2, 0, 0), minds[n]);
        }
    }

    private static void promise5Full() {
        for (int room = 0; room < 5; room++) {
            NineHeaps x = new NineHeaps();
            feedAll(x, "a".repeat(160 - room));
            due(5, "room for " + room, x.count(4), 160 - room);
            for (int n = room + 1; n <= 5; n++) {
                due(5, "FULL: no room for all of " + n, x.feed(n, 1, 1, 1, 1, 1), -4);
                due(5, "none comes", x.count(4), 160 - room);
            }
            due(5, "BAD ahead of FULL, n", x.feed(6, 1, 1, 1, 1, 1), -2);
            due(5, "BAD ahead of FULL, a byte", x.feed(5, 1, 1, 1, 1, 256), -2);
            if (room > 0) {
                due(5, "just room enough", x.feed(room, 1, 1, 1, 1, 1), 160);
            }
            due(5, "FULL: 160 at most", x.feed(1, 1, 1, 1, 1, 1), -4);
            due(5, "160 are there", x.count(4), 160);
        }
    }

    // ---- promise 6: TEXTS

    private static void promise6Full() {
        NineHeaps x = new NineHeaps();
        x.walker(0, 0, 0);
        for (int t = 1; t < 6; t++) {
            due(6, "its number", textOf(x, "takes " + (t + 2) + ";steps 1;minds 1;"), t);
        }
        due(6, "FULL: 6 at most, an empty TAPE", x.text(), -4);
        feedAll(x, "takes 9;steps 1;minds 1;");
        due(6, "FULL: 6 at most", x.text(), -4);
        due(6, "THE TAPE stays", x.count(4), 24);
        feedAll(x, "?");
        due(6, "FULL ahead of the FAULT", x.text(), -4);
        due(6, "THE TAPE stays, with its FAULT", x.count(4), 25);
        due(6, "TEXTS are 6 still", x.count(2), 6);
        for (int t = 0; t < 6; t++) {
            x.force(t);
            due(6, "each TEXT is as it was read, " + t, x.asks(0, 0, 0), t + 2);
        }
    }

    private static void promise6TapeIsEmptyThen() {
        NineHeaps x = new NineHeaps();
        feedAll(x, "takes 1;steps 1;minds 1");
        due(6, "ends too early", x.text(), -123);
        due(6, "empty by a FAULT", x.count(4), 0);
        due(6, "no TEXT by a FAULT", x.count(2), 1);
        due(6, "an empty TAPE ends too early", x.text(), -100);
        due(6, "nothing of the last one is left", textOf(x, ";"), -100);
        due(6, "a TEXT behind FAULTS", textOf(x, "takes 1;steps 1;minds 1;"), 1);
        due(6, "empty by a TEXT", x.count(4), 0);
        due(6, "THE LAW stays", x.count(3), 0);
        due(6, "nothing of the last one is left", x.text(), -100);
        due(6, "a shorter TEXT behind a longer one", textOf(x, "takes 1;"), -108);
        due(6, "TEXTS", x.count(2), 2);
        String long160 = "takes 7;steps 8;minds 1" + "+1".repeat(68);
        for (int n = 0; n < 3; n++) {
            due(6, "a long one with a FAULT at its end", textOf(x, long160 + "+"), -260);
        }
        for (int n = 2; n < 5; n++) {
            due(6, "a long one behind long ones", textOf(x, long160 + ";"), n);
        }
        x.walker(0, 0, 0);
        x.force(4);
        due(6, "each TEXT is as it was read: takes", x.asks(0, 0, 0), 7);
        due(6, "each TEXT is as it was read: steps", x.asks(1, 0, 0), 8);
        due(6, "each TEXT is as it was read: minds", x.asks(2, 0, 0), 69);
    }

    /** Each beginning of a TEXT ends too early: the text's size. */
    private static void promise6EndsTooEarly() {
        String whole = "takes 2 * ( heap + 1 ) ; steps - 3 ; minds not 1 < 2 or 7 and left ;";
        String[] tokens = whole.split(" ");
        StringBuilder text = new StringBuilder();
        for (String token : tokens) {
            fault("it ends too early", text.toString(), text.length());
            fault("it ends too early, blanks behind", text + "  ", text.length() + 2);
            text.append(token).append(' ');
        }
        due(6, "the whole one is read", textOf(new NineHeaps(), text.toString()), 1);
        String longest = "takes 1;steps 1;minds 1" + "+1".repeat(68);
        due(6, "160 bytes are read", textOf(new NineHeaps(), longest + ";"), 1);
        fault("160 bytes end too early", longest + "+", 160);
        fault("160 blanks", " ".repeat(160), 160);
        fault("a sign in the last place", " ".repeat(159) + "?", 159);
        fault("a WORD in the last place", longest + "a", 159);
    }

    /** One byte where a ONE is due: digits and the signs ( and - may stand there, all else but blanks may not. */
    private static void promise6EveryByte() {
        for (int b = 0; b < 256; b++) {
            NineHeaps x = new NineHeaps();
            feedAll(x, "takes ");
            x.feed(1, b, 0, 0, 0, 0);
            boolean mayStand = b >= '0' && b <= '9' || b == '(' || b == '-' || b == ' ' || b == '\n';
            due(6, "the byte " + b + " where a ONE is due", x.text(), mayStand ? -107 : -106);
            NineHeaps y = new NineHeaps();
            feedAll(y, "takes 1");
            y.feed(1, b, 0, 0, 0, 0);
            boolean goesOn = b >= '0' && b <= '9' || b == ' ' || b == '\n'
                || b == ';' || b == '+' || b == '-' || b == '*' || b == '<' || b == '=';
            due(6, "the byte " + b + " behind a ONE", y.text(), goesOn ? -108 : -107);
            NineHeaps z = new NineHeaps();
            feedAll(z, "takes left");
            z.feed(1, b, 0, 0, 0, 0);
            boolean letter = b >= 'a' && b <= 'z';
            boolean sign = goesOn && (b < '0' || b > '9');
            due(6, "the byte " + b + " behind a WORD", z.text(), letter ? -106 : sign ? -111 : -110);
        }
    }

    private static void promise6Words() {
        String[] words = {"heap", "walker", "more", "left", "done", "many"};
        for (String word : words) {
            reads("a NAME", word);
            faultInE("as many letters as stand there", word + "s", 0);
            faultInE("a WORD that is short of a NAME", word.substring(0, word.length() - 1), 0);
            faultInE("a WORD that only ends so", word.substring(1), 0);
            faultInE("a blank within a NAME", word.charAt(0) + " " + word.substring(1), 0);
            fault("a NAME is no KEY", word + " 1;", 0);
            for (int i = 0; i < word.length(); i++) {
                faultInE("another letter in a NAME", otherLetter(word, i), 0);
            }
        }
        String[] keys = {"takes", "steps", "minds", "or", "and", "not"};
        for (String key : keys) {
            if (!key.equals("takes")) {
                fault("another KEY than takes", key + " 1;", 0);
            }
            if (!key.equals("steps")) {
                fault("another KEY than steps", "takes 1;" + key + " 1;", 8);
            }
            if (!key.equals("minds")) {
                fault("another KEY than minds", "takes 1;steps 1;" + key + " 1;", 16);
            }
            if (!key.equals("not")) {
                faultInE("a KEY is no ONE", key, 0);
            }
            if (!key.equals("or") && !key.equals("and")) {
                faultInE("a KEY between two", "1 " + key + " 1", 2);
            }
            faultInE("as many letters as stand there", "1 " + key + "x 1", 2);
            faultInE("a KEY behind a sign", "1+" + key, 2);
            for (int i = 0; i < key.length(); i++) {
                String other = otherLetter(key, i);
                fault("another letter in a KEY", other + " 1;", 0);
                fault("another letter in a KEY", "takes 1;" + other + " 1;", 8);
                fault("another letter in a KEY", "takes 1;steps 1;" + other + " 1;", 16);
                faultInE("another letter in a KEY", other + " 1", 0);
                faultInE("another letter in a KEY", "1 " + other + " 1", 2);
            }
        }
        faultInE("not joined to its WORD", "notheap", 0);
        reads("a NUMBER ends a WORD", "not1and2or0");
        faultInE("a WORD ends a NUMBER", "1heap", 1);
        faultInE("large letters begin none", "heaP", 0);
    }

    private static String otherLetter(String word, int i) {
        return word.substring(0, i) + (word.charAt(i) == 'q' ? 'x' : 'q') + word.substring(i + 1);
    }

    private static void promise6Numbers() {
        reads("1 digit", "0");
        reads("4 digits", "9999");
        reads("4 digits, from 0 on", "0009");
        faultInE("5 digits are too long", "10000", 0);
        faultInE("5 digits are too long, of 0, too", "00000", 0);
        faultInE("many digits are too long", "1".repeat(60), 0);
        faultInE("too long, behind others", "1 + 2 * 12345", 8);
        faultInE("too long where none may stand", "1 12345", 2);
        faultInE("two NUMBERS", "1234 5", 5);
        worth("9999 - 9990", 9);
        worth("0012", 12);
        worth("0101 - 0060", 41);
    }

    private static void promise6Blanks() {
        reads("blanks between", " \n 1\n\n+ \n2  ");
        due(6, "no blanks", textOf(new NineHeaps(), "takes2;steps1;minds1;"), 1);
        due(6, "blanks at both ends", textOf(new NineHeaps(), " \n takes\n2;steps 1;minds 1;\n  "), 1);
        int[] noBlanks = {0, 9, 11, 12, 13, 31, 33, 160, 255};
        for (int b : noBlanks) {
            fault("the byte " + b + " is no blank, ahead of all", (char) b + "takes 1;", 0);
            fault("the byte " + b + " is no blank, between two", "takes" + (char) b + "1;", 5);
            fault("the byte " + b + " is no blank, behind all", "takes 1;steps 1;minds 1;" + (char) b, 24);
        }
    }

    private static void promise6Places() {
        fault("more behind the end", "takes 1;steps 1;minds 1;;", 24);
        fault("more behind the end", "takes 1;steps 1;minds 1; takes 1;", 25);
        faultInE("of several the first", "1 ? 12345 fool", 2);
        faultInE("of several the first", "+ ?", 0);
        faultInE("only one < or =", "1 < 2 < 3", 6);
        faultInE("only one < or =", "1 = 2 = 3", 6);
        faultInE("only one < or =", "1 < 2 = 3", 6);
        faultInE("only one < or =", "1 = 2 < 3", 6);
        reads("one on each side of and, or", "1 < 2 and 3 = 4 or 5 < 6");
        reads("one in each (", "(1 < 2) < (3 = 4)");
        faultInE("no not behind <", "1 < not 1", 4);
        faultInE("no not behind +", "1 + not 1", 4);
        faultInE("no not behind *", "1 * not 1", 4);
        faultInE("no not behind -", "-not 1", 1);
        reads("a not in (", "1 + (not 1)");
        reads("a not behind not, and, or", "not not 1 and not 2 or not 3");
        faultInE("no + ahead of a ONE", "+1", 0);
        faultInE("no * ahead of a ONE", "1 + *1", 4);
        reads("a - ahead of a ONE behind each sign", "1 + -1 - -1 * -1 < -1");
        faultInE("( with nothing in it", "()", 1);
        faultInE(") without (", "1)", 1);
        faultInE("one ) too many", "((1)))", 5);
        faultInE("one ) too few", "((1)", 4);
        fault("; in (", "takes (1;", 8);
        fault("no E", "takes ;", 6);
        fault("no ;", "takes 1 steps 1;", 8);
    }

    // ---- promise 6: 5 open at most

    /** Every row of (, not and - that may stand ahead of a ONE: five may be open, the sixth is at FAULT. */
    private static void promise6EverySix() {
        String[] signs = {"(", "not ", "-"};
        for (int row = 0; row < 729; row++) {
            StringBuilder text = new StringBuilder();
            String ends = "";
            boolean notMay = true;
            boolean may = true;
            int lastAt = 0;
            int rest = row;
            for (int n = 0; n < 6; n++) {
                int sign = rest % 3;
                rest /= 3;
                may &= sign != 1 || notMay;
                notMay = sign != 2;
                lastAt = text.length();
                if (n == 5 && may && row < 243) {
                    reads("five are open", text + "1" + ends);
                }
                text.append(signs[sign]);
                ends += sign == 0 ? ")" : "";
            }
            if (may) {
                faultInE("the sixth that is open", text + "1" + ends, lastAt);
            }
        }
    }

    private static void promise6TillTheyEnd() {
        reads("a ( is open till its )", "(((((1)))))+(((((1)))))");
        reads("a ( is open till its )", "((((1))+((1))))*(((((1)))))");
        faultInE("a ( is open till its )", "((((1))+(((((1)))))))", 11);
        reads("a - is open till its ONE ends", "-----1+-----1*-----1");
        reads("a - is open till its ONE ends", "-(1)*(((((1)))))");
        faultInE("a - is open till its ONE ends", "-(((((1)))))", 5);
        faultInE("a - is open till its ONE ends", "-(1+((((1)))))", 7);
        reads("a - is open till its ONE ends", "-(1+(((1))))");
        reads("a - between two is not open", "1-(((((1)))))-(((((1)))))");
        faultInE("a - between two is not open", "1-------1", 7);
        reads("a - between two is not open", "1------1");
        reads("a not is open till its NOT ends", "not 1 + ((((1))))");
        faultInE("a not is open till its NOT ends", "not 1 + (((((1)))))", 12);
        faultInE("a not is open till its NOT ends, behind <, too", "not 1 < (((((1)))))", 12);
        faultInE("a not is open till its NOT ends", "not (1) + (((((1)))))", 14);
        reads("a not is open till and", "not 1 and (((((1)))))");
        reads("a not is open till or", "not not not not not 1 or not not not not not 1");
        reads("a not is open till its )", "(not 1) + (((((1)))))");
        faultInE("a not within (", "(not 1 + ((((1)))))", 12);
        reads("none is open behind ;", "-(not -1)");
        due(6, "none is open behind ;", textOf(new NineHeaps(), "takes(((((1)))));steps -----1;minds not not not not not 1;"), 1);
    }

    // ---- promise 6: what an E is

    private static void promise6Worth() {
        worth("0 or 0", 0);
        worth("0 or 7", 1);
        worth("7 or 0", 1);
        worth("-7 or 0", 1);
        worth("0 or 0 or 3", 1);
        worth("1 and 0", 0);
        worth("0 and 1", 0);
        worth("-1 and 9", 1);
        worth("1 and 1 and 0", 0);
        worth("1 or 0 and 0", 1);
        worth("0 and 0 or 1", 1);
        worth("not 0", 1);
        worth("not 1", 0);
        worth("not -1", 0);
        worth("not not 9", 1);
        worth("not 0 = 0", 0);
        worth("not 1 or 1", 1);
        worth("not 0 and 0", 0);
        worth("2 < 3", 1);
        worth("3 < 3", 0);
        worth("4 < 3", 0);
        worth("-4 < 3", 1);
        worth("3 = 3", 1);
        worth("2 = 3", 0);
        worth("1 + 2 < 2 + 2", 1);
        worth("9 - 4 - 3", 2);
        worth("9 - 4 + 3", 8);
        worth("2 + 3 * 4", 14);
        worth("2 * 3 + 4", 10);
        worth("2 * 3 * 4", 24);
        worth("-2 * 3", -6);
        worth("-2 - 3", -5);
        worth("--2", 2);
        worth("-(2 + 3)", -5);
        worth("(2 + 3) * -4", -20);
        worth("heap = 0", 1);
    }

    private static void promise6Wrap() {
        String least = "8*4096*4096*16";
        worth(least + " < 0", 1);
        worth(least + " - 1 < 0", 0);
        worth("-(" + least + ") < 0", 1);
        worth("-(" + least + ") = " + least, 1);
        worth(least + " + " + least, 0);
        worth("4096*4096*256", 0);
        worth("4096*4096*256 + 5", 5);
        worth("9999*9999*9999 < 0", 9999 * 9999 * 9999 < 0 ? 1 : 0);
    }

    // ---- promise 7

    private static void promise7Force() {
        NineHeaps x = new NineHeaps();
        int[] no = {LEAST, -1, 1, 5, MOST};
        for (int t : no) {
            due(7, "BAD: no TEXT " + t, x.force(t), -2);
        }
        due(7, "TEXT 0 alone", x.force(0), 0);
        for (int t = 1; t < 6; t++) {
            textOf(x, "takes 1;steps 1;minds 1;");
            due(7, "the last TEXT", x.force(t), t - 1);
            due(7, "BAD: one more", x.force(t + 1), -2);
            due(7, "refused: THE LAW stays", x.count(3), t);
        }
        due(7, "which was", x.force(0), 5);
        due(7, "the same again", x.force(0), 0);
    }

    // ---- promise 8

    private static void promise8Packed() {
        NineHeaps x = new NineHeaps();
        due(8, "BAD: no WALKERS", x.asks(0, 0, 0), -2);
        for (int w = 0; w < 5; w++) {
            due(8, "BAD: no such WALKER yet", x.asks(0, 0, 1000 * w), -2);
            x.walker(0, 0, 0);
            due(8, "the last WALKER, done 0", x.asks(0, 0, 1000 * w), 2);
            due(8, "the last WALKER, done 999", x.asks(0, 0, 1000 * w + 999), 2);
            due(8, "BAD: one more WALKER", x.asks(0, 0, 1000 * w + 1000), -2);
        }
        int[] noWalkerDone = {LEAST, -1000, -1, 5000, MOST};
        for (int walkerDone : noWalkerDone) {
            due(8, "BAD: walkerDone " + walkerDone, x.asks(0, 0, walkerDone), -2);
        }
        int[] parts = {LEAST, -1, 3, MOST};
        for (int part : parts) {
            due(8, "BAD: part " + part, x.asks(part, 0, 0), -2);
        }
        for (int h = 0; h < 9; h++) {
            due(8, "left 0 of HEAP " + h, x.asks(0, 1000 * h, 0), 2);
            due(8, "left 200 of HEAP " + h, x.asks(0, 1000 * h + 200, 0), 2);
            due(8, "BAD: left 201 of HEAP " + h, x.asks(0, 1000 * h + 201, 0), -2);
            due(8, "BAD: left 999 of HEAP " + h, x.asks(0, 1000 * h + 999, 0), -2);
        }
        int[] noHeapLeft = {LEAST, -1000, -900, -1, 9000, 9200, MOST};
        for (int heapLeft : noHeapLeft) {
            due(8, "BAD: heapLeft " + heapLeft, x.asks(0, heapLeft, 0), -2);
        }
    }

    private static void says(String e, int takes, int steps, int minds) {
        NineHeaps x = new NineHeaps();
        x.walker(4, 9, 0);
        textOf(x, "takes " + e + ";steps " + e + ";minds " + e + ";");
        x.force(1);
        due(8, "takes 1 .. 20, else the bound <" + e + ">", x.asks(0, 0, 0), takes);
        due(8, "steps 1 .. 20, else the bound <" + e + ">", x.asks(1, 0, 0), steps);
        due(8, "minds 0 .. 99, else the bound <" + e + ">", x.asks(2, 0, 0), minds);
    }

    /** Each bound twice: of a bare NUMBER, and of an E that must be worked out. */
    private static void promise8Bounds() {
        says("0", 1, 1, 0);
        says("1", 1, 1, 1);
        says("2", 2, 2, 2);
        says("19", 19, 19, 19);
        says("20", 20, 20, 20);
        says("21", 20, 20, 21);
        says("98", 20, 20, 98);
        says("99", 20, 20, 99);
        says("100", 20, 20, 99);
        says("9999", 20, 20, 99);
        says("0-1", 1, 1, 0);
        says("-1", 1, 1, 0);
        says("0+0", 1, 1, 0);
        says("0+1", 1, 1, 1);
        says("10+10", 20, 20, 20);
        says("10+11", 20, 20, 21);
        says("90+9", 20, 20, 99);
        says("90+10", 20, 20, 99);
        says("8*4096*4096*16", 1, 1, 0);
        says("8*4096*4096*16-1", 20, 20, 99);
    }

    private static void promise8Names() {
        NineHeaps x = new NineHeaps();
        x.walker(0, 0, 0);
        x.walker(0, 9, 8);
        x.set(0, 8, 33);
        textOf(x, "takes heap+1;steps 10*walker+more;minds left-100;");
        textOf(x, "takes many;steps more;minds done-900;");
        x.force(1);
        due(8, "heap: its number, the first", x.asks(0, 0, 0), 1);
        due(8, "heap: its number, the last", x.asks(0, 8000, 0), 9);
        due(8, "walker: one's number, MORE 0", x.asks(1, 0, 0), 1);
        due(8, "walker: one's number, MORE 9", x.asks(1, 0, 1000), 19);
        due(8, "left 199", x.asks(2, 8199, 0), 99);
        due(8, "left 101, however HIGH it is", x.asks(2, 8101, 0), 1);
        due(8, "left 0", x.asks(2, 8000, 0), 0);
        x.force(2);
        due(8, "many: how many WALKERS", x.asks(0, 0, 0), 2);
        due(8, "more: MORE of that one", x.asks(1, 0, 1000), 9);
        due(8, "done 999", x.asks(2, 0, 1999), 99);
        due(8, "done 901", x.asks(2, 0, 901), 1);
        due(8, "done 0", x.asks(2, 0, 1000), 0);
        x.walker(0, 0, 0);
        x.walker(0, 0, 0);
        x.walker(0, 0, 0);
        due(8, "many, 5 at most", x.asks(0, 0, 0), 5);
    }
}
