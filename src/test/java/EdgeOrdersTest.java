/** Promises 18 to 24 at their edges: orders, beginnings, own stretches. */
public final class EdgeOrdersTest {
    private static final int LEAST = Integer.MIN_VALUE, MOST = Integer.MAX_VALUE;
    private static final int[] NO_WHATS_OF_2 = {LEAST, -1, 2, MOST}, NO_WHATS_OF_3 = {LEAST, -1, 3, MOST};

    private static int wrong;

    private static void due(int promise, String sentence, long got, long want) {
        if (got != want) {
            wrong++;
            System.out.println("promise " + promise + ": " + sentence + ": answered " + got + ", due is " + want);
        }
    }

    public static void main(String[] args) {
        promise18Refusals();
        promise18HowMany();
        promise18Ties();
        promise18TheLastOrder();
        promise18EachOrder();
        promise18LastSecond();
        promise19Refusals();
        promise19EachFrom();
        promise20Sit();
        promise21Worth();
        promise20And21ManyAndNumbers();
        promise22Refusals();
        promise22Least();
        promise22LastSecond();
        promise22TwoHundred();
        promise23Refusals();
        promise23NoHeaps();
        promise23LikeOnes();
        promise23AllWays();
        promise23Seconds();
        promise24Slowest();
        System.out.println(wrong == 0 ? "all answers are as due" : wrong + " answers are not as due");
        if (wrong != 0) {
            System.exit(1);
        }
    }

    private static void law(NineHeaps x, String text) {
        for (int i = 0; i < text.length(); i += 5) {
            int[] five = new int[5];
            int n = Math.min(5, text.length() - i);
            for (int k = 0; k < n; k++) {
                five[k] = text.charAt(i + k);
            }
            x.feed(n, five[0], five[1], five[2], five[3], five[4]);
        }
        x.force(x.text());
    }

    /** WALKERS three by three: KIND, MORE, FROM. */
    private static NineHeaps with(int... rows) {
        NineHeaps x = new NineHeaps();
        for (int i = 0; i + 2 < rows.length; i += 3) {
            x.walker(rows[i], rows[i + 1], rows[i + 2]);
        }
        return x;
    }

    private static NineHeaps quickOne() {
        NineHeaps x = with(0, 0, 0);
        law(x, "takes 1;steps 1;minds 1;");
        return x;
    }

    // ---- promise 18

    private static void best(String sentence, NineHeaps x, int second, int programmes, int order) {
        due(18, sentence + ": the SECOND", x.best(0), second);
        due(18, sentence + ": PROGRAMMES", x.best(1), programmes);
        due(18, sentence + ": the order", x.best(2), order);
    }

    private static void promise18Refusals() {
        NineHeaps[] both = {new NineHeaps(), quickOne()};
        for (NineHeaps x : both) {
            for (int what : NO_WHATS_OF_3) {
                due(18, "BAD: what " + what, x.best(what), -2);
            }
        }
    }

    private static void promise18HowMany() {
        NineHeaps x = new NineHeaps();
        best("no WALKERS", x, -1, 0, 0);
        x.set(2, 0, 1);
        best("no WALKERS", x, -1, 0, 0);
        int[] orders = {1, 12, 123, 1234, 12345};
        for (int w = 0; w < 5; w++) {
            x.walker(3, 0, 0);
            best("all orders are like ones", x, 35, 16 * (w + 1), orders[w]);
        }
    }

    /** Of two orders: {three and three for the WALKERS, WANT, SECOND, PROGRAMMES, the order}. */
    private static void promise18Ties() {
        int[][] cases = {
            {4, 5, 0, 1, 1, 0, 33, -1, 19, 21},
            {2, 8, 3, 1, 6, 3, 20, -1, 19, 21},
            {0, 3, 0, 5, 0, 0, 38, 513, 45, 21},
            {0, 3, 3, 5, 9, 3, 6, 82, 45, 21},
            {2, 0, 3, 5, 2, 3, 26, 351, 44, 12},
            {5, 9, 8, 5, 7, 8, 32, 369, 56, 12},
            {3, 4, 4, 5, 3, 4, 33, 577, 33, 21},
            {5, 8, 1, 1, 2, 1, 34, 459, 44, 21},
        };
        String[] sentences = {"never by both: of most PROGRAMMES", "never by both: of most PROGRAMMES",
            "like ones: of most PROGRAMMES", "like ones: of most PROGRAMMES", "earlier, though of fewer PROGRAMMES",
            "earlier, though of fewer PROGRAMMES", "never is later than all", "earlier, the later order"};
        for (int i = 0; i < cases.length; i++) {
            int[] c = cases[i];
            NineHeaps x = with(c[0], c[1], c[2], c[3], c[4], c[5]);
            x.set(2, 0, c[6]);
            best(sentences[i], x, c[7], c[8], c[9]);
        }
    }

    private static void promise18TheLastOrder() {
        NineHeaps x = with(0, 6, 2, 3, 5, 8);
        x.set(2, 0, 9);
        best("the last of 2 orders", x, 157, 33, 21);
        x = with(2, 7, 3, 5, 4, 6, 3, 8, 7);
        x.set(2, 0, 15);
        best("the last of 6 orders", x, 215, 42, 321);
        x = with(5, 0, 8, 1, 3, 4, 1, 5, 5, 3, 4, 7);
        x.set(2, 0, 5);
        best("the last of 24 orders", x, 44, 65, 4321);
        x = with(4, 6, 5, 2, 5, 4, 4, 4, 5, 1, 7, 2, 3, 2, 8);
        x.set(2, 0, 28);
        best("the last of 120 orders", x, 323, 50, 54321);
    }

    /** The WALKERS come in each order truly, which changes nothing else by the first law. */
    private static void bestIsThatOfAll(int want, int... rows) {
        int n = rows.length / 3;
        int second = 0;
        int programmes = -1;
        int order = -1;
        int[] least = {0, 1, 12, 123, 1234, 12345};
        int[] most = {0, 1, 21, 321, 4321, 54321};
        for (int digits = least[n]; digits <= most[n]; digits++) {
            int[] turned = turned(digits, n, rows);
            if (turned != null) {
                NineHeaps x = with(turned);
                x.set(2, 0, want);
                int now = x.run(600, 4) == -1 ? 600 : x.run(600, 4);
                if (programmes < 0 || now < second || now == second && x.run(600, 0) > programmes) {
                    second = now;
                    programmes = x.run(600, 0);
                    order = digits;
                }
            }
        }
        NineHeaps x = with(rows);
        x.set(2, 0, want);
        best("of all orders of " + n + ", WANT " + want, x, second == 600 ? -1 : second, programmes, order);
    }

    private static int[] turned(int digits, int n, int[] rows) {
        int[] turned = new int[rows.length];
        boolean[] seen = new boolean[10];
        int rest = digits;
        for (int i = n - 1; i >= 0; i--) {
            int digit = rest % 10;
            rest /= 10;
            if (digit < 1 || digit > n || seen[digit]) {
                return null;
            }
            seen[digit] = true;
            System.arraycopy(rows, 3 * digit - 3, turned, 3 * i, 3);
        }
        return turned;
    }

    private static void promise18EachOrder() {
        int[] wants = {1, 2, 5, 17, 200};
        for (int want : wants) {
            bestIsThatOfAll(want, 0, 0, 0);
            bestIsThatOfAll(want, 0, 0, 0, 1, 9, 0);
            bestIsThatOfAll(want, 2, 9, 0, 1, 9, 0, 0, 0, 1);
            bestIsThatOfAll(want, 4, 1, 0, 5, 0, 0, 0, 0, 0, 3, 9, 8);
            bestIsThatOfAll(want, 2, 9, 0, 1, 9, 0, 0, 0, 1, 5, 1, 8, 4, 0, 0);
            bestIsThatOfAll(want, 2, 4, 3, 1, 3, 3, 0, 0, 3, 5, 0, 3, 3, 6, 3);
        }
    }

    /** See EdgeSecondsTest: by this law the fourth one is done in SECOND 599, by the other in 600. */
    private static void promise18LastSecond() {
        NineHeaps x = with(0, 0, 8);
        x.set(2, 0, 4);
        law(x, "takes 4;steps 13;minds 1;");
        best("done in SECOND 599", x, 599, 4, 1);
        law(x, "takes 5;steps 12;minds 1;");
        best("SECOND 600 is none of ALL", x, -1, 3, 1);
    }

    // ---- promise 19

    private static void promise19Refusals() {
        NineHeaps x = new NineHeaps();
        due(19, "-5: no WALKERS", x.start(0, 0), -5);
        x.walker(0, 0, 0);
        x.walker(0, 0, 4);
        int[] noWalkers = {LEAST, -1, 2, 5, MOST};
        for (int w : noWalkers) {
            due(19, "-5: no WALKER " + w, x.start(w, 0), -5);
            due(19, "-5 ahead of -7", x.start(w, 2), -5);
        }
        for (int what : NO_WHATS_OF_2) {
            due(19, "-7: what " + what, x.start(0, what), -7);
            due(19, "-7: what " + what, x.start(1, what), -7);
        }
        due(19, "FROM stays", x.told(1, 2), 4);
    }

    private static void startIsThatOfAll(NineHeaps x, int w) {
        int from = x.told(w, 2);
        int least = -1;
        int most = -1;
        for (int h = 0; h < 9; h++) {
            x.begin(w, h);
            if (x.run(600, 0) > most) {
                most = x.run(600, 0);
                least = h;
            }
        }
        x.begin(w, from);
        due(19, "FROM by which PROGRAMMES are most", x.start(w, 0), least);
        due(19, "PROGRAMMES", x.start(w, 1), most);
        due(19, "FROM stays", x.told(w, 2), from);
    }

    private static void promise19EachFrom() {
        NineHeaps x = with(0, 0, 8);
        due(19, "of like ones the least", x.start(0, 0), 0);
        // A round takes 9 * 14 + 8 + 20 = 154 SECONDS; four are done in SECOND 596 if the long step isn't needed at last.
        for (int best = 0; best < 9; best++) {
            NineHeaps y = with(0, 0, 0);
            law(y, "takes 14;steps 1+19*(heap=" + (best + 8) % 9 + ");minds 1;");
            for (int h = 0; h < 9; h++) {
                y.begin(0, h);
                due(19, "the only best HEAP, whatever FROM is", y.start(0, 0), best);
                due(19, "PROGRAMMES from there", y.start(0, 1), 4);
                due(12, "PROGRAMMES from HEAP " + h, y.run(600, 0), h == best ? 4 : 3);
            }
        }
        NineHeaps y = with(4, 6, 5, 2, 5, 4, 4, 4, 5, 1, 7, 2, 3, 2, 8);
        NineHeaps z = with(0, 0, 0, 0, 0, 0, 0, 0, 0, 0, 0, 0, 5, 1, 0);
        for (int w = 0; w < 5; w++) {
            startIsThatOfAll(y, w);
            startIsThatOfAll(z, w);
        }
    }

    // ---- promises 20, 21

    private static void promise20Sit() {
        NineHeaps x = new NineHeaps();
        for (int what : NO_WHATS_OF_2) {
            due(20, "BAD ahead of -1: what " + what, x.sit(what), -2);
        }
        due(20, "-1: there are none", x.sit(0), -1);
        due(20, "-1: there are none", x.sit(1), -1);
        x.walker(0, 0, 0);
        for (int what : NO_WHATS_OF_2) {
            due(20, "BAD: what " + what, x.sit(what), -2);
        }
        due(20, "the one there is", x.sit(0), 0);
        due(20, "nobody goes then", x.sit(1), 0);
        for (int w = 1; w < 5; w++) {
            x.walker(0, 0, 2 * w);
            due(20, "of like ones the first", x.sit(0), 0);
            due(20, "all others go", x.sit(1), 22 * w);
        }
        for (int slow = 0; slow < 5; slow++) {
            NineHeaps y = new NineHeaps();
            for (int w = 0; w < 5; w++) {
                y.walker(w == slow ? 4 : 0, 9, 2 * w);
            }
            due(20, "the one who holds up the others", y.sit(0), slow);
            due(20, "without that one", y.sit(1), 88);
        }
    }

    private static void promise21Worth() {
        NineHeaps x = new NineHeaps();
        due(21, "-1000: no WALKERS", x.worth(0), -1000);
        x.walker(0, 0, 0);
        due(21, "the only one", x.worth(0), 22);
        for (int w = 1; w < 5; w++) {
            due(21, "-1000: no such one yet", x.worth(w), -1000);
            x.walker(0, 0, 2 * w);
            due(21, "the last one", x.worth(w), 22);
        }
        int[] no = {LEAST, -1000, -1, 5, MOST};
        for (int w : no) {
            due(21, "-1000: no WALKER " + w, x.worth(w), -1000);
        }
        NineHeaps y = with(4, 9, 0, 0, 0, 2, 0, 0, 4);
        due(21, "below 0: one who holds up the others", y.worth(0), y.run(600, 0) - 44);
        due(21, "it is below 0", y.worth(0) < 0 ? 1 : 0, 1);
        NineHeaps z = with(0, 0, 0);
        law(z, "takes 20;steps 20;minds 1;");
        z.walker(2, 9, 1);
        due(21, "0: nothing done, nothing less", z.worth(1), z.run(600, 0) - 1);
    }

    private static void promise20And21ManyAndNumbers() {
        NineHeaps x = with(0, 0, 0, 0, 0, 0);
        law(x, "takes many;steps 1+walker;minds 1;");
        // Alone WALKER 0 is done each 27 SECONDS, WALKER 1 each 36: many are two, whoever goes.
        due(20, "all are many, WALKER 0 alone", x.sit(1), 22);
        due(20, "WALKER 1 sits", x.sit(0), 1);
        due(21, "WALKER 1 goes by its own number", x.worth(0), x.run(600, 0) - 16);
        due(21, "WALKER 0 goes by its own number", x.worth(1), x.run(600, 0) - 22);
    }

    // ---- promise 22

    private static void promise22Refusals() {
        NineHeaps[] both = {new NineHeaps(), quickOne()};
        int[] no = {LEAST, -1, 9, MOST};
        for (NineHeaps x : both) {
            for (int h : no) {
                due(22, "BAD: no HEAP " + h, x.more(h), -2);
            }
            x.set(0, 0, 50);
            due(22, "none is needed", x.more(0), 0);
            due(22, "none is needed", x.more(8), 0);
        }
        NineHeaps x = new NineHeaps();
        x.set(0, 8, 0);
        due(22, "no WALKERS: none is needed", x.more(8), 0);
    }

    /** 34 are lifted of HEAP 0; by STICK the first 33 of these take more, the last one takes what there is. */
    private static void promise22Least() {
        for (int stick = 0; stick <= 9; stick++) {
            NineHeaps x = quickOne();
            x.set(1, 0, stick);
            int needs = 34 + (stick == 0 ? 0 : 33 / stick);
            int[] highs = {0, 1, needs - 1, needs, needs + 1, 200};
            for (int high : highs) {
                x.set(0, 0, high);
                due(22, "STICK " + stick + ", HIGH " + high, x.more(0), Math.max(0, needs - high));
                due(22, "it stays as HIGH", x.heap(0, 0), high);
            }
        }
    }

    /** HEAP 2 is lifted in SECOND 599 a 34th time, HEAP 3 would be in 601. */
    private static void promise22LastSecond() {
        NineHeaps x = quickOne();
        for (int h = 0; h < 9; h++) {
            x.set(0, h, 33);
            due(22, "33 are enough from HEAP 3 on, HEAP " + h, x.more(h), h < 3 ? 1 : 0);
            x.set(0, h, 0);
            due(22, "of 0, HEAP " + h, x.more(h), h < 3 ? 34 : 33);
        }
    }

    private static void promise22TwoHundred() {
        NineHeaps x = with(0, 0, 0, 0, 0, 2, 0, 0, 4, 0, 0, 6, 0, 0, 8);
        law(x, "takes 1;steps 1;minds 1;");
        // 167 are lifted of HEAP 0: STICK 5 takes 33 more of the first 166, STICK 4 takes 41 more.
        x.set(1, 0, 5);
        x.set(0, 0, 0);
        due(22, "200 more are just enough", x.more(0), 200);
        x.set(0, 0, 199);
        due(22, "1 more is just enough", x.more(0), 1);
        x.set(0, 0, 200);
        due(22, "200 are just enough", x.more(0), 0);
        x.set(1, 0, 4);
        due(22, "-1: 200 are too few", x.more(0), -1);
        x.set(0, 0, 199);
        due(22, "-1: 200 are too few", x.more(0), -1);
        x.set(0, 0, 0);
        due(22, "-1: 200 are too few", x.more(0), -1);
    }

    // ---- promises 23, 24

    private static void promise23Refusals() {
        NineHeaps x = new NineHeaps();
        for (int what : NO_WHATS_OF_3) {
            due(23, "BAD ahead of -1: what " + what, x.stretch(what), -2);
        }
        for (int what = 0; what < 3; what++) {
            due(23, "-1: there are no WALKERS, what " + what, x.stretch(what), -1);
        }
        due(24, "-1: there are none", x.slowest(), -1);
        x.walker(0, 0, 0);
        for (int what : NO_WHATS_OF_3) {
            due(23, "BAD: what " + what, x.stretch(what), -2);
        }
        due(24, "the only one", x.slowest(), 0);
    }

    private static void way(String sentence, NineHeaps x, int most, int digits, int all, int slowest) {
        due(23, sentence + ": the most SECONDS", x.stretch(0), most);
        due(23, sentence + ": how many HEAPS each has", x.stretch(1), digits);
        int[] wants = {1, 2, 20, 200};
        for (int want : wants) {
            x.set(2, 0, want);
            due(23, sentence + ": for each of WANT less 1, WANT " + want, x.stretch(2), all + (want - 1) * most);
        }
        due(24, sentence + ": the first whose SECONDS are most", x.slowest(), slowest);
    }

    /** One WALKER is so slow, 21 SECONDS a HEAP, that the others, 2 SECONDS a HEAP, have all of them. */
    private static void promise23NoHeaps() {
        NineHeaps x = with(0, 0, 0);
        way("one has all", x, 27, 9, 27, 0);
        NineHeaps y = with(0, 0, 0, 0, 0, 0);
        law(y, "takes 1+19*(walker=0);steps 1;minds 1;");
        way("the first has none", y, 18, 9, 18, 1);
        law(y, "takes 1+19*(walker=1);steps 1;minds 1;");
        way("the last has none", y, 18, 90, 18, 0);
        NineHeaps z = with(0, 0, 0, 0, 0, 0, 0, 0, 0);
        law(z, "takes 1+19*(walker=1);steps 1;minds 1;");
        way("the one between has none", z, 10, 405, 18, 2);
        law(z, "takes 1+19*(walker<2);steps 1;minds 1;");
        way("the first two have none", z, 18, 9, 18, 2);
        law(z, "takes 1+19*(0<walker);steps 1;minds 1;");
        way("the last two have none", z, 18, 900, 18, 0);
        NineHeaps u = with(0, 0, 0, 0, 0, 0, 0, 0, 0, 0, 0, 0, 0, 0, 0);
        law(u, "takes 1+19*(walker<4);steps 1;minds 1;");
        way("the last of five has all", u, 18, 9, 18, 4);
        law(u, "takes 1+19*(0<walker);steps 1;minds 1;");
        way("the first of five has all", u, 18, 90000, 18, 0);
    }

    private static void promise23LikeOnes() {
        int[] digits = {9, 45, 333, 333, 12222};
        int[] mosts = {27, 15, 9, 9, 6};
        int[] slowests = {0, 1, 0, 1, 1};
        for (int n = 1; n <= 5; n++) {
            way("all are like, " + n, with(new int[3 * n]), mosts[n - 1], digits[n - 1], 27, slowests[n - 1]);
        }
        NineHeaps x = with(0, 0, 0, 0, 0, 0, 0, 0, 0);
        law(x, "takes 1+18*(heap=8);steps 1;minds 1;");
        way("a HEAP of 20 at the end", x, 20, 81, 36, 2);
        law(x, "takes 1+18*(heap=0);steps 1;minds 1;");
        way("a HEAP of 20 at the beginning", x, 20, 18, 36, 1);
    }

    /** Every way is tried, in the order that the document tells, by what the law says of KIND 0. */
    private static void waysOf(String law, int high) {
        NineHeaps x = with(0, 3, 0, 0, 5, 0, 0, 0, 0);
        law(x, law);
        int[][] ownOf = new int[3][9];
        for (int h = 0; h < 9; h++) {
            x.set(0, h, high + 3 * h);
            for (int w = 0; w < 3; w++) {
                int heapLeft = 1000 * h + high + 3 * h;
                ownOf[w][h] = x.asks(0, heapLeft, 1000 * w) + x.asks(1, heapLeft, 1000 * w);
            }
        }
        int most = MOST;
        int digits = -1;
        int all = 0;
        int slowest = -1;
        for (int a = 0; a <= 9; a++) {
            for (int b = 0; a + b <= 9; b++) {
                int first = sum(ownOf[0], 0, a);
                int second = sum(ownOf[1], a, a + b);
                int third = sum(ownOf[2], a + b, 9);
                int now = Math.max(first, Math.max(second, third));
                if (now < most) {
                    most = now;
                    digits = 100 * a + 10 * b + 9 - a - b;
                    all = first + second + third;
                    slowest = first == now ? 0 : second == now ? 1 : 2;
                }
            }
        }
        way(law, x, most, digits, all, slowest);
    }

    private static int sum(int[] seconds, int from, int to) {
        int sum = 0;
        for (int h = from; h < to; h++) {
            sum += seconds[h];
        }
        return sum;
    }

    private static void promise23AllWays() {
        waysOf("takes 2;steps 1;minds 1;", 50);
        waysOf("takes heap;steps 1;minds 1;", 50);
        waysOf("takes 9-heap;steps 1;minds 1;", 50);
        waysOf("takes left-50;steps 60-left;minds 1;", 50);
        waysOf("takes more*heap;steps 2+done;minds 1;", 50);
        waysOf("takes 1+walker*7;steps 1+5*(heap=4);minds 1;", 0);
        waysOf("takes 1+19*(heap=3);steps 1+19*(heap=5);minds 1;", 170);
        waysOf("takes 20-9*walker;steps many;minds 1;", 0);
    }

    private static void promise23Seconds() {
        NineHeaps x = with(4, 0, 0);
        law(x, "takes 3+done;steps 2+done;minds 1;");
        way("GRANDFATHER, DONE 0 isn't above MORE 0", x, 72, 9, 72, 0);
        x = with(4, 9, 0);
        law(x, "takes 20;steps 20;minds 1;");
        way("GRANDFATHER, TAKES 25, a STEP 40", x, 585, 9, 585, 0);
        x = with(5, 0, 0);
        law(x, "takes 5;steps 2;minds 1;");
        way("TWO, DONE 0 is MORE 0", x, 36, 9, 36, 0);
        x = with(5, 1, 0);
        law(x, "takes 5;steps 2;minds 1;");
        way("TWO, DONE 0 isn't MORE 1", x, 63, 9, 63, 0);
        x = with(1, 9, 0);
        law(x, "takes 1;steps 3;minds 1;");
        way("QUICK, a STEP 1 at least", x, 18, 9, 18, 0);
        x = with(3, 9, 0);
        law(x, "takes 1;steps 5;minds 1;");
        way("PASSING, TAKES 2, a STEP 2", x, 36, 9, 36, 0);
        x = with(2, 9, 0);
        law(x, "takes 1;steps 1;minds 1;");
        way("THUMBED, TAKES 5", x, 54, 9, 54, 0);
        x = with(0, 0, 0);
        law(x, "takes left;steps left-10;minds 1;");
        for (int h = 0; h < 9; h++) {
            x.set(0, h, h == 8 ? 12 : h);
        }
        way("each HEAP as HIGH as it is", x, 1 + 1 + 2 + 3 + 4 + 5 + 6 + 7 + 12 + 8 + 2, 9, 51, 0);
        x.set(0, 8, 0);
        way("each HEAP as HIGH as it is, 0", x, 1 + 1 + 2 + 3 + 4 + 5 + 6 + 7 + 1 + 9, 9, 39, 0);
        x.set(0, 8, 200);
        way("each HEAP as HIGH as it is, 200", x, 1 + 1 + 2 + 3 + 4 + 5 + 6 + 7 + 20 + 8 + 20, 9, 77, 0);
    }

    private static void promise24Slowest() {
        NineHeaps x = with(0, 0, 0, 0, 0, 0, 0, 0, 0);
        due(24, "of like ones the first", x.slowest(), 0);
        law(x, "takes 1+(heap=8)*9;steps 1;minds 1;");
        // 2 SECONDS a HEAP, 11 the last one: 11 is the most at least, 4, 4 and 1 by it, 3 and 5 being earlier.
        due(23, "so the first has as few as can be", x.stretch(1), 351);
        due(24, "the last one", x.slowest(), 2);
        law(x, "takes 1+(heap=4)*9;steps 1;minds 1;");
        due(23, "the long HEAP alone", x.stretch(1), 414);
        due(24, "the one between", x.slowest(), 1);
    }
}
