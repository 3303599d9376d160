/** Promises 9 to 17 at their edges, with KINDS, A GOING, LIFTS and PROGRAMMES that they rest on. */
public final class EdgeSecondsTest {
    private static final int LEAST = Integer.MIN_VALUE, MOST = Integer.MAX_VALUE;
    private static final int[] NO_SECONDS = {LEAST, -1, 601, MOST};

    private static int wrong;

    private static void due(int promise, String sentence, long got, long want) {
        if (got != want) {
            wrong++;
            System.out.println("promise " + promise + ": " + sentence + ": answered " + got + ", due is " + want);
        }
    }

    public static void main(String[] args) {
        promise9Numbers();
        promise9Full();
        promise10Begin();
        promise11Told();
        promise12Kinds();
        promise12StepsAndTakesHaveNoUpperEnd();
        promise12Refusals();
        promise12Nobody();
        promise12Waiting();
        promise12WaitedTimesMinds();
        promise12Wanted();
        promise12LastSecond();
        promise13Refusals();
        promise13RingsEnd();
        promise13NineSheets();
        promise13WhoHoldsWhom();
        promise13TheNextBehindOneWhoLifts();
        promise13AskedInTime();
        promise14Refusals();
        promise14Stick();
        promise14TheLastSheets();
        promise14RanOut();
        promise14CountIsOfTheHeap();
        promise14ShortOrWrong();
        promise15Go();
        promise16Off();
        promise16Forty();
        promise17Find();
        System.out.println(wrong == 0 ? "all answers are as due" : wrong + " answers are not as due");
        if (wrong != 0) {
            System.exit(1);
        }
    }

    private static void law(NineHeaps x, String text) {
        for (int i = 0; i < text.length(); i += 5) {
            int[] five = new int[5];
            int n = Math.min(5, text.length() - i);
            for (int k = 0; k < n; k++) {
                five[k] = text.charAt(i + k);
            }
            x.feed(n, five[0], five[1], five[2], five[3], five[4]);
        }
        x.force(x.text());
    }

    /** One alone from HEAP 0, who by this law LIFTS in each second SECOND, from SECOND 1 on. */
    private static NineHeaps quickOne() {
        NineHeaps x = new NineHeaps();
        x.walker(0, 0, 0);
        law(x, "takes 1;steps 1;minds 1;");
        return x;
    }

    // ---- promises 9 to 11

    private static void promise9Numbers() {
        NineHeaps x = new NineHeaps();
        int[] noKinds = {LEAST, -1, 6, MOST};
        for (int kind : noKinds) {
            due(9, "BAD: KIND " + kind, x.walker(kind, 0, 0), -2);
        }
        int[] noMores = {LEAST, -1, 10, MOST};
        for (int more : noMores) {
            due(9, "BAD: MORE " + more, x.walker(0, more, 0), -2);
        }
        int[] noHeaps = {LEAST, -1, 9, MOST};
        for (int h : noHeaps) {
            due(9, "BAD: HEAP " + h, x.walker(0, 0, h), -2);
        }
        due(9, "refused: no WALKERS", x.count(0), 0);
        due(9, "all the least", x.walker(0, 0, 0), 0);
        due(9, "all the most", x.walker(5, 9, 8), 1);
        int[] told = {0, 0, 0, 5, 9, 8};
        for (int i = 0; i < told.length; i++) {
            due(9, "as it came", x.told(i / 3, i % 3), told[i]);
        }
    }

    private static void promise9Full() {
        NineHeaps x = new NineHeaps();
        for (int w = 0; w < 5; w++) {
            due(9, "the number", x.walker(w, 9 - w, 2 * w), w);
        }
        due(9, "FULL: 5 at most", x.walker(0, 0, 0), -4);
        due(9, "BAD ahead of FULL, KIND", x.walker(6, 0, 0), -2);
        due(9, "BAD ahead of FULL, MORE", x.walker(0, 10, 0), -2);
        due(9, "BAD ahead of FULL, HEAP", x.walker(0, 0, 9), -2);
        due(9, "refused: 5 still", x.count(0), 5);
        for (int w = 0; w < 5; w++) {
            due(9, "refused: KIND as it was", x.told(w, 0), w);
            due(9, "refused: MORE as it was", x.told(w, 1), 9 - w);
            due(9, "refused: FROM as it was", x.told(w, 2), 2 * w);
        }
    }

    private static void promise10Begin() {
        NineHeaps x = new NineHeaps();
        due(10, "-5: no WALKERS", x.begin(0, 0), -5);
        x.walker(0, 0, 4);
        x.walker(0, 0, 5);
        int[] noWalkers = {LEAST, -1, 2, 5, MOST};
        for (int w : noWalkers) {
            due(10, "-5: no WALKER " + w, x.begin(w, 0), -5);
            due(10, "-5 ahead of -7", x.begin(w, 9), -5);
        }
        int[] noHeaps = {LEAST, -1, 9, MOST};
        for (int h : noHeaps) {
            due(10, "-7: HEAP " + h, x.begin(1, h), -7);
        }
        due(10, "refused: as it was", x.told(1, 2), 5);
        due(10, "the first HEAP", x.begin(1, 0), 5);
        due(10, "the last HEAP", x.begin(1, 8), 0);
        due(10, "which it was", x.begin(1, 8), 8);
        due(10, "FROM is that", x.told(1, 2), 8);
        due(10, "the other one stays", x.told(0, 2), 4);
        due(10, "one begins there", x.one(1, 0, 0), 8);
    }

    private static void promise11Told() {
        NineHeaps x = new NineHeaps();
        due(11, "-5: no WALKERS", x.told(0, 0), -5);
        for (int kind = 5; kind > 0; kind--) {
            x.walker(kind, kind + 4, kind + 3);
        }
        for (int w = 0; w < 5; w++) {
            due(11, "KIND", x.told(w, 0), 5 - w);
            due(11, "MORE", x.told(w, 1), 9 - w);
            due(11, "FROM", x.told(w, 2), 8 - w);
            due(11, "one WAITS for others, but PASSING", x.told(w, 3), w == 2 ? 0 : 1);
        }
        int[] noWalkers = {LEAST, -1, 5, MOST};
        for (int w : noWalkers) {
            due(11, "-5: no WALKER " + w, x.told(w, 3), -5);
            due(11, "-5 ahead of -7", x.told(w, 4), -5);
        }
        int[] noWhats = {LEAST, -1, 4, MOST};
        for (int what : noWhats) {
            due(11, "-7: what " + what, x.told(0, what), -7);
            due(11, "-7: what " + what, x.told(4, what), -7);
        }
        NineHeaps y = new NineHeaps();
        y.walker(0, 0, 0);
        due(11, "KIND 0", y.told(0, 0), 0);
        due(11, "KIND 0 WAITS", y.told(0, 3), 1);
    }

    // ---- promise 12: KINDS

    private static final int[] BY_3 = {0, 0, 0, 1, 1, 1, 2, 2, 2, 3};
    private static final int[] BY_2 = {0, 0, 1, 1, 2, 2, 3, 3, 4, 4};

    private static int takesDue(int kind, int more, int said, int done) {
        int[] takes = {said, said, said + BY_2[more], said + 1, said + BY_2[more] + 1, said};
        if (kind == 4 && done > more) {
            return takes[4] + 1;
        }
        if (kind == 5 && done >= more) {
            return said == 1 ? 1 : said / 2;
        }
        return takes[kind];
    }

    private static int stepDue(int kind, int more, int said) {
        int less = said > BY_3[more] ? said - BY_3[more] : 1;
        int[] steps = {said, less, said, less, said + said, said};
        return steps[kind];
    }

    /** One alone has done a PROGRAMME behind nine TAKES and eight STEPS, a ninth being ahead of each further one. */
    private static void kindTakesItsTime(int kind, int more, int takes, int steps) {
        NineHeaps x = new NineHeaps();
        x.walker(kind, more, 3);
        law(x, "takes " + takes + ";steps " + steps + ";minds 1;");
        int second = 0;
        for (int done = 0; done < 33; done++) {
            second += 9 * takesDue(kind, more, takes, done) + 8 * stepDue(kind, more, steps);
            String sentence = "KIND " + kind + ", MORE " + more + ", takes " + takes + ", steps " + steps + ", PROGRAMME " + done;
            x.set(2, 0, done + 1);
            due(12, sentence, x.run(600, 4), second < 600 ? second : -1);
            if (second >= 600) {
                due(12, sentence + " is not done", x.run(600, 0), done);
                return;
            }
            second += stepDue(kind, more, steps);
        }
    }

    private static void promise12Kinds() {
        int[][] laws = {{1, 1}, {2, 1}, {1, 2}, {3, 3}, {2, 4}, {5, 1}};
        for (int kind = 0; kind < 6; kind++) {
            for (int more = 0; more < 10; more++) {
                for (int[] law : laws) {
                    kindTakesItsTime(kind, more, law[0], law[1]);
                }
            }
        }
    }

    /** What the text says ends at 20, what a KIND makes of it doesn't. */
    private static void promise12StepsAndTakesHaveNoUpperEnd() {
        NineHeaps x = new NineHeaps();
        x.walker(4, 9, 0);
        law(x, "takes 20;steps 20;minds 1;");
        due(12, "TAKES 20 and 4 and 1, a STEP 40", x.run(600, 4), -1);
        x.set(2, 0, 1);
        due(12, "TAKES 20 and 4 and 1, a STEP 40", x.run(600, 4), 9 * 25 + 8 * 40);
        NineHeaps y = new NineHeaps();
        y.walker(2, 9, 0);
        y.set(2, 0, 1);
        law(y, "takes 99;steps 99;minds 1;");
        due(12, "TAKES 20 and 4, a STEP 20", y.run(600, 4), 9 * 24 + 8 * 20);
    }

    // ---- promise 12

    private static void promise12Refusals() {
        NineHeaps[] both = {new NineHeaps(), quickOne()};
        for (NineHeaps x : both) {
            for (int seconds : NO_SECONDS) {
                for (int what = 0; what < 5; what++) {
                    due(12, "BAD: SECONDS " + seconds + ", what " + what, x.run(seconds, what), -2);
                }
            }
            int[] noWhats = {LEAST, -1, 5, MOST};
            for (int what : noWhats) {
                due(12, "BAD: what " + what, x.run(0, what), -2);
                due(12, "BAD: what " + what, x.run(600, what), -2);
            }
        }
    }

    private static void promise12Nobody() {
        NineHeaps x = new NineHeaps();
        x.set(0, 0, 0);
        int[] seconds = {0, 1, 600};
        for (int n : seconds) {
            for (int what = 0; what < 4; what++) {
                due(12, "no WALKERS, behind " + n + ", what " + what, x.run(n, what), 0);
            }
            due(12, "no WALKERS: not yet", x.run(n, 4), -1);
        }
        NineHeaps y = quickOne();
        for (int what = 0; what < 4; what++) {
            due(12, "behind 0 SECONDS, what " + what, y.run(0, what), 0);
        }
        due(12, "behind 0 SECONDS: not yet", y.run(0, 4), -1);
    }

    private static void promise12Waiting() {
        NineHeaps x = new NineHeaps();
        for (int w = 0; w < 5; w++) {
            x.walker(0, 0, 0);
        }
        // The first takes in SECONDS 0, 1 and LIFTS in 2; the next one takes in that SECOND, and so on.
        int[] waited = {0, 4, 8, 11, 14, 16, 18, 19, 20, 20, 20};
        for (int n = 0; n < waited.length; n++) {
            due(12, "WAITED of all behind " + n, x.run(n, 3), waited[n]);
        }
        for (int w = 0; w < 5; w++) {
            due(13, "WAITED of one", x.one(w, 600, 3), 2 * w);
        }
        due(12, "they go one behind the other then", x.run(600, 3), 20);
        NineHeaps y = new NineHeaps();
        for (int w = 0; w < 5; w++) {
            y.walker(3, 0, 0);
        }
        due(12, "PASSING ones never wait", y.run(600, 3), 0);
    }

    private static void promise12WaitedTimesMinds() {
        NineHeaps x = new NineHeaps();
        x.walker(0, 0, 0);
        x.walker(0, 9, 0);
        x.walker(0, 4, 0);
        law(x, "takes 3;steps 1;minds 20*walker+more+done+heap+left;");
        // One has WAITED 3 SECONDS, another 6: HEAP 0, left 0, however HIGH it is, wherever one is.
        due(12, "behind 1", x.run(1, 3), 29 + 44);
        due(12, "behind 3", x.run(3, 3), 3 * 29 + 3 * 44);
        due(12, "behind 6", x.run(6, 3), 3 * 29 + 6 * 44);
        due(12, "behind 35", x.run(35, 3), 3 * 29 + 6 * 44);
        due(12, "DONE counts: one done in SECOND 38", x.run(39, 3), 3 * 30 + 6 * 44);
        due(12, "DONE counts: another in SECOND 41", x.run(42, 3), 3 * 30 + 6 * 45);
        NineHeaps y = new NineHeaps();
        y.walker(0, 1, 0);
        y.walker(2, 8, 1);
        law(y, "takes 2;steps 1;minds 3+more;");
        due(12, "the first one waits, the second one doesn't", y.run(600, 3) - y.one(1, 600, 3) * 11, 4 * y.one(0, 600, 3));
        due(12, "the first one has WAITED 4 SECONDS behind 7", y.run(7, 3), 16);
        law(x, "takes 3;steps 1;minds many*7;");
        due(12, "many: how many WALKERS there are", x.run(600, 3), 21 * 9);
        law(x, "takes 3;steps 1;minds 0;");
        due(12, "minds 0", x.run(600, 3), 0);
        law(x, "takes 3;steps 1;minds 9999;");
        due(12, "minds 99 at most", x.run(600, 3), 99 * 9);
    }

    private static void promise12Wanted() {
        NineHeaps x = quickOne();
        for (int n = 1; n <= 33; n++) {
            x.set(2, 0, n);
            due(12, "not yet", x.run(18 * n - 1, 4), -1);
            due(12, "in this SECOND", x.run(18 * n, 4), 18 * n - 1);
            due(12, "as many are done", x.run(18 * n, 0), n);
            due(12, "one less is done", x.run(18 * n - 1, 0), n - 1);
            due(12, "it stays so", x.run(600, 4), 18 * n - 1);
        }
        x.set(2, 0, 34);
        due(12, "one more is never done", x.run(600, 4), -1);
        x.set(2, 0, 200);
        due(12, "200 are never done", x.run(600, 4), -1);
        NineHeaps y = new NineHeaps();
        y.walker(0, 0, 0);
        y.walker(0, 0, 3);
        y.walker(0, 0, 6);
        for (int n = 1; n <= 6; n++) {
            y.set(2, 0, n);
            due(12, "three are done in the same SECOND", y.run(600, 4), n <= 3 ? 26 : 53);
        }
    }

    /** Takes 4, steps 13: four PROGRAMMES take 36 * 17 - 13 = 599 SECONDS; takes 5, steps 12: 600. */
    private static void promise12LastSecond() {
        NineHeaps x = new NineHeaps();
        x.walker(0, 0, 8);
        x.set(2, 0, 4);
        x.set(0, 7, 4);
        law(x, "takes 4;steps 13;minds 1;");
        due(12, "done in SECOND 599", x.run(600, 4), 599);
        due(12, "done in SECOND 599", x.run(600, 0), 4);
        due(12, "not yet behind 599 SECONDS", x.run(599, 4), -1);
        due(12, "not yet behind 599 SECONDS", x.run(599, 0), 3);
        due(14, "RAN OUT in SECOND 599", x.height(7, 600, 1), 599);
        due(14, "not yet behind 599 SECONDS", x.height(7, 599, 1), -1);
        law(x, "takes 5;steps 12;minds 1;");
        due(12, "SECOND 600 is none of these", x.run(600, 4), -1);
        due(12, "SECOND 600 is none of these", x.run(600, 0), 3);
        due(14, "SECOND 600 is none of these", x.height(7, 600, 0), 1);
        due(14, "SECOND 600 is none of these", x.height(7, 600, 1), -1);
    }

    // ---- promise 13

    private static void promise13Refusals() {
        NineHeaps x = new NineHeaps();
        due(13, "-5: no WALKERS", x.one(0, 0, 0), -5);
        x.walker(0, 0, 6);
        x.walker(0, 0, 6);
        int[] noWalkers = {LEAST, -1, 2, 5, MOST};
        for (int w : noWalkers) {
            due(13, "-5: no WALKER " + w, x.one(w, 0, 0), -5);
            due(13, "-5 ahead of -7, SECONDS", x.one(w, 601, 0), -5);
            due(13, "-5 ahead of -7, what", x.one(w, 0, 5), -5);
        }
        for (int seconds : NO_SECONDS) {
            for (int what = 0; what < 5; what++) {
                due(13, "-7: SECONDS " + seconds, x.one(1, seconds, what), -7);
            }
        }
        int[] noWhats = {LEAST, -1, 5, MOST};
        for (int what : noWhats) {
            due(13, "-7: what " + what, x.one(1, 0, what), -7);
            due(13, "-7: what " + what, x.one(1, 600, what), -7);
        }
        int[] atFirst = {6, 1, 0, 0, 0};
        for (int what = 0; what < 5; what++) {
            due(13, "behind 0 SECONDS, what " + what, x.one(1, 0, what), atFirst[what]);
        }
    }

    private static void is(NineHeaps x, int w, int seconds, int at, int does, int has) {
        String sentence = "WALKER " + w + " behind " + seconds + ": ";
        due(13, sentence + "AT", x.one(w, seconds, 0), at);
        due(13, sentence + "does", x.one(w, seconds, 1), does);
        due(13, sentence + "has", x.one(w, seconds, 4), has);
    }

    /** HEAP 8 before HEAP 0; one is AT the next HEAP as soon as one walks. */
    private static void promise13RingsEnd() {
        NineHeaps x = new NineHeaps();
        x.walker(0, 0, 7);
        law(x, "takes 3;steps 2;minds 1;");
        is(x, 0, 0, 7, 1, 0);
        is(x, 0, 1, 7, 2, 0);
        is(x, 0, 3, 7, 2, 0);
        is(x, 0, 4, 8, 0, 1);
        is(x, 0, 5, 8, 0, 1);
        is(x, 0, 6, 8, 2, 1);
        is(x, 0, 8, 8, 2, 1);
        is(x, 0, 9, 0, 0, 2);
        is(x, 0, 10, 0, 0, 2);
        is(x, 0, 11, 0, 2, 2);
        is(x, 0, 14, 1, 0, 3);
        for (int h = 0; h < 9; h++) {
            x.begin(0, h);
            is(x, 0, 4, h == 8 ? 0 : h + 1, 0, 1);
            due(14, "from HEAP " + h + " one sheet goes", x.height(h, 4, 0), 49);
            due(14, "none of the next one", x.height(h == 8 ? 0 : h + 1, 4, 0), 50);
        }
    }

    private static void promise13NineSheets() {
        NineHeaps x = quickOne();
        for (int n = 0; n <= 20; n++) {
            due(13, "of nine one has, lifts " + n, x.one(0, 2 * n, 4), n % 9);
            due(13, "DONE, lifts " + n, x.one(0, 2 * n, 2), n / 9);
        }
        due(13, "DONE behind 600", x.one(0, 600, 2), 33);
        due(13, "of nine behind 600", x.one(0, 600, 4), 3);
        for (int h = 0; h < 9; h++) {
            x.set(0, h, 0);
        }
        due(13, "what is MISSED counts, too", x.one(0, 16, 4), 8);
        due(13, "what is MISSED counts, too", x.one(0, 18, 2), 1);
    }

    private static void promise13WhoHoldsWhom() {
        NineHeaps x = new NineHeaps();
        x.walker(0, 0, 0);
        x.walker(0, 0, 1);
        law(x, "takes 2+6*walker;steps 1;minds 1;");
        // WALKER 0 comes to HEAP 1 in SECOND 3; WALKER 1 takes there till SECOND 8, being behind in the order.
        is(x, 0, 3, 1, 0, 1);
        is(x, 0, 4, 1, 1, 1);
        is(x, 0, 8, 1, 1, 1);
        is(x, 0, 9, 1, 1, 1);
        is(x, 0, 10, 1, 2, 1);
        due(13, "WAITED in SECONDS 3 .. 8", x.one(0, 600, 3) >= 6 ? 6 : 0, 6);
        due(13, "WAITED, the first SECOND", x.one(0, 4, 3), 1);
        due(13, "WAITED, the last SECOND", x.one(0, 9, 3), 6);
        due(13, "WAITED no more", x.one(0, 10, 3), 6);
        due(13, "one who takes alone hasn't WAITED", x.one(1, 10, 3), 0);
        // Who waits holds nobody: of two who wait the first in the order takes.
        NineHeaps y = new NineHeaps();
        y.walker(0, 0, 0);
        y.walker(0, 0, 0);
        y.walker(0, 0, 0);
        is(y, 1, 3, 0, 2, 0);
        is(y, 2, 3, 0, 1, 0);
        is(y, 2, 4, 0, 1, 0);
        is(y, 2, 5, 0, 2, 0);
        // Who takes AT another HEAP holds nobody, nor does who walks to this one.
        NineHeaps z = new NineHeaps();
        z.walker(0, 0, 0);
        z.walker(0, 0, 8);
        law(z, "takes 3;steps 9-2*walker;minds 1;");
        is(z, 1, 10, 0, 0, 1);
        is(z, 1, 11, 0, 2, 1);
        due(13, "nobody has held one", z.one(1, 11, 3), 0);
        due(13, "nobody has held the other", z.one(0, 11, 3), 0);
        // PASSING ones hold others.
        NineHeaps u = new NineHeaps();
        u.walker(3, 0, 0);
        u.walker(0, 0, 0);
        due(13, "a PASSING one holds one who WAITS", u.one(1, 1, 3), 1);
        due(13, "a PASSING one isn't held", u.one(0, 600, 3), 0);
    }

    private static void promise13TheNextBehindOneWhoLifts() {
        NineHeaps x = new NineHeaps();
        x.walker(0, 0, 0);
        x.walker(0, 0, 0);
        due(13, "behind in the order: takes in the SECOND of the LIFT", x.one(1, 3, 1), 2);
        due(13, "and LIFTS as many SECONDS later", x.one(1, 4, 4), 0);
        due(13, "and LIFTS as many SECONDS later", x.one(1, 5, 4), 1);
        NineHeaps y = new NineHeaps();
        y.walker(0, 0, 0);
        y.walker(2, 8, 1);
        // WALKER 1 takes 6 from SECOND 0 on and LIFTS in SECOND 6; WALKER 0 waits from SECOND 3 on.
        due(13, "ahead in the order: waits in the SECOND of the LIFT", y.one(0, 7, 1), 1);
        due(13, "ahead in the order: WAITED", y.one(0, 7, 3), 4);
        due(13, "and takes in the next one", y.one(0, 8, 1), 2);
        due(13, "and has WAITED no more", y.one(0, 8, 3), 4);
    }

    private static void promise13AskedInTime() {
        NineHeaps x = new NineHeaps();
        x.walker(0, 0, 8);
        x.set(0, 8, 7);
        x.set(0, 0, 0);
        law(x, "takes left+1;steps left-2;minds 1;");
        // TAKES 8 at 7 HIGH; then a STEP of 4, HEAP 8 being 6 HIGH; then TAKES 1 at 0 HIGH.
        is(x, 0, 8, 8, 2, 0);
        is(x, 0, 9, 0, 0, 1);
        is(x, 0, 12, 0, 0, 1);
        is(x, 0, 13, 0, 2, 1);
        is(x, 0, 14, 1, 0, 2);
        NineHeaps y = quickOne();
        law(y, "takes 1+done*2;steps 1+done*4;minds 1;");
        // The ninth LIFT is in SECOND 17; DONE is 1 then, so a STEP is 5, and TAKES is 3.
        is(y, 0, 18, 0, 0, 0);
        is(y, 0, 22, 0, 0, 0);
        is(y, 0, 23, 0, 2, 0);
        is(y, 0, 25, 0, 2, 0);
        is(y, 0, 26, 1, 0, 1);
    }

    // ---- promise 14: LIFTS

    private static void promise14Refusals() {
        NineHeaps[] both = {new NineHeaps(), quickOne()};
        int[] noHeaps = {LEAST, -1, 9, MOST};
        int[] noWhats = {LEAST, -1, 2, MOST};
        for (NineHeaps x : both) {
            for (int h : noHeaps) {
                due(14, "-6: no HEAP " + h, x.height(h, 0, 0), -6);
                due(14, "-6 ahead of -7, SECONDS", x.height(h, 601, 0), -6);
                due(14, "-6 ahead of -7, what", x.height(h, 0, 2), -6);
            }
            for (int seconds : NO_SECONDS) {
                due(14, "-7: SECONDS " + seconds, x.height(8, seconds, 0), -7);
                due(14, "-7: SECONDS " + seconds, x.height(8, seconds, 1), -7);
            }
            for (int what : noWhats) {
                due(14, "-7: what " + what, x.height(0, 0, what), -7);
                due(14, "-7: what " + what, x.height(0, 600, what), -7);
            }
            due(14, "as HIGH as it is, behind 0", x.height(8, 0, 0), 50);
            due(14, "it hasn't RUN OUT", x.height(8, 600, 1), -1);
        }
    }

    /** One alone LIFTS 34 of HEAP 0: in SECONDS 1, 19 .. */
    private static void promise14Stick() {
        for (int stick = 0; stick <= 9; stick++) {
            NineHeaps x = quickOne();
            x.set(0, 0, 200);
            x.set(1, 0, stick);
            int gone = 0;
            for (int n = 1; n <= 34; n++) {
                boolean two = stick != 0 && n % stick == 0;
                due(14, "STICK " + stick + ", ahead of the sheet " + n, x.height(0, 18 * n - 17, 0), 200 - gone);
                gone += two ? 2 : 1;
                due(14, "STICK " + stick + ", behind the sheet " + n, x.height(0, 18 * n - 16, 0), 200 - gone);
            }
            due(12, "WRONG by STICK " + stick, x.run(600, 1), stick == 0 ? 0 : 33 / stick);
            due(12, "none SHORT", x.run(600, 2), 0);
            due(16, "the first OFF by STICK " + stick, x.off(0), stick == 0 ? -1 : stick - 1);
            due(14, "another HEAP: 33 are lifted, the last one in SECOND 593", x.height(8, 600, 0), 17);
            due(14, "another HEAP: the 34th is lifted in SECOND 599", x.height(2, 599, 0), 17);
            due(14, "another HEAP: the 34th is lifted in SECOND 599", x.height(2, 600, 0), 16);
        }
    }

    /** The sheet that STICK tells: 1 goes if it is the last one there, 2 if 2 are there. */
    private static void promise14TheLastSheets() {
        for (int stick = 1; stick <= 9; stick++) {
            NineHeaps x = quickOne();
            x.set(1, 0, stick);
            x.set(0, 0, stick);
            int lift = 18 * stick - 17;
            due(14, "1 is there", x.height(0, lift, 0), 1);
            due(14, "1 goes", x.height(0, lift + 1, 0), 0);
            due(14, "RAN OUT", x.height(0, 600, 1), lift);
            due(12, "1 goes: not WRONG", x.run(18 * stick, 1), 0);
            due(12, "1 goes: not SHORT", x.run(18 * stick, 2), 0);
            due(12, "the next one is SHORT", x.run(18 * stick + 18, 2), 1);
            x.set(0, 0, stick + 1);
            due(14, "2 are there", x.height(0, lift, 0), 2);
            due(14, "2 go", x.height(0, lift + 1, 0), 0);
            due(14, "RAN OUT", x.height(0, 600, 1), lift);
            due(12, "2 go: WRONG", x.run(18 * stick, 1), 1);
            due(12, "2 go: not SHORT", x.run(18 * stick, 2), 0);
            due(12, "the next one is SHORT", x.run(18 * stick + 18, 2), 1);
            x.set(0, 0, stick + 2);
            due(14, "3 are there: 2 go", x.height(0, lift + 1, 0), 1);
            due(14, "3 are there: not yet", x.height(0, lift + 18, 1), -1);
            due(14, "3 are there: RAN OUT with the next sheet", x.height(0, 600, 1), lift + 18);
        }
    }

    private static void promise14RanOut() {
        NineHeaps x = quickOne();
        x.set(0, 0, 0);
        due(14, "0 HIGH at first: it hasn't", x.height(0, 600, 1), -1);
        due(14, "0 HIGH stays", x.height(0, 600, 0), 0);
        due(12, "each is SHORT", x.run(600, 2), 33);
        for (int high = 1; high <= 34; high++) {
            x.set(0, 0, high);
            due(14, "not yet, HIGH " + high, x.height(0, 18 * high - 17, 1), -1);
            due(14, "in this SECOND, HIGH " + high, x.height(0, 18 * high - 16, 1), 18 * high - 17);
            due(14, "once for all, HIGH " + high, x.height(0, 600, 1), 18 * high - 17);
            due(14, "0 HIGH then, HIGH " + high, x.height(0, 600, 0), 0);
            due(12, "SHORT, HIGH " + high, x.run(600, 2), high >= 33 ? 0 : 33 - high);
        }
        x.set(0, 0, 35);
        due(14, "34 are lifted: 1 is left", x.height(0, 600, 0), 1);
        due(14, "34 are lifted: it hasn't", x.height(0, 600, 1), -1);
        NineHeaps y = new NineHeaps();
        y.walker(0, 0, 0);
        y.set(0, 0, 1);
        due(14, "in SECOND 0 at least: it hasn't", y.height(0, 0, 1), -1);
        due(14, "not yet", y.height(0, 2, 1), -1);
        due(14, "RAN OUT in SECOND 2", y.height(0, 3, 1), 2);
    }

    private static void promise14CountIsOfTheHeap() {
        NineHeaps x = new NineHeaps();
        x.walker(0, 0, 0);
        x.walker(0, 0, 0);
        x.walker(0, 0, 0);
        x.set(1, 0, 2);
        due(14, "the second sheet of all is another one's", x.height(0, 5, 0), 47);
        due(14, "the third one", x.height(0, 7, 0), 46);
        due(14, "the fourth one", x.height(0, 30, 0), 44);
        due(16, "the second one's first is OFF", x.off(0), 1);
        due(16, "then the first and third one's second", x.off(1), 3);
        due(16, "then the first and third one's second", x.off(2), 5);
        due(16, "then the second one's third", x.off(3), 7);
        NineHeaps y = quickOne();
        y.set(1, 0, 9);
        y.set(1, 8, 9);
        due(14, "each HEAP has its own count", y.height(8, 18 * 9 - 1, 0), 42);
        due(14, "each HEAP has its own count", y.height(8, 18 * 9, 0), 40);
    }

    private static void promise14ShortOrWrong() {
        NineHeaps x = quickOne();
        x.set(1, 0, 1);
        x.set(0, 8, 0);
        due(12, "SHORT though WRONG before", x.run(18, 2), 1);
        due(12, "not WRONG then", x.run(18, 1), 0);
        NineHeaps y = quickOne();
        y.set(0, 0, 0);
        y.set(1, 8, 1);
        due(12, "SHORT, two sheets behind", y.run(18, 2), 1);
        due(12, "not WRONG then", y.run(18, 1), 0);
        NineHeaps z = quickOne();
        z.set(0, 0, 0);
        z.set(0, 8, 0);
        due(12, "SHORT but once", z.run(18, 2), 1);
        NineHeaps u = quickOne();
        u.set(1, 0, 1);
        u.set(1, 8, 1);
        due(12, "WRONG but once", u.run(18, 1), 1);
        u.set(1, 0, 3);
        u.set(1, 8, 3);
        due(12, "the next one is neither again", u.run(72, 1), 1);
        due(16, "the third one", u.off(0), 2);
        due(16, "the sixth one", u.off(1), 5);
        NineHeaps v = quickOne();
        v.set(0, 4, 1);
        v.set(1, 0, 1);
        due(12, "WRONG first, SHORT then", v.run(36, 1), 1);
        due(12, "WRONG first, SHORT then", v.run(36, 2), 1);
    }

    // ---- promise 15

    private static void promise15Go() {
        NineHeaps x = quickOne();
        x.set(1, 0, 2);
        x.set(0, 1, 1);
        x.set(2, 0, 7);
        for (int seconds : NO_SECONDS) {
            due(15, "BAD: SECONDS " + seconds, x.go(seconds), -2);
        }
        due(15, "refused: as HIGH as it was", x.heap(0, 0), 50);
        due(15, "behind 0", x.go(0), 0);
        due(15, "behind 0: as HIGH as it was", x.heap(0, 0), 50);
        due(15, "behind 1", x.go(1), 0);
        due(15, "behind 1: as HIGH as it was", x.heap(0, 0), 50);
        due(15, "behind 2", x.go(2), 0);
        due(15, "behind 2: as HIGH as then", x.heap(0, 0), 49);
        due(15, "a GOING begins anew: the count, too", x.go(2), 0);
        due(15, "a GOING begins anew: the count, too", x.heap(0, 0), 48);
        due(15, "PROGRAMMES", x.go(18), 1);
        due(15, "HEAP 1 is 0 HIGH truly", x.heap(1, 0), 0);
        due(15, "HEAP 8 is as HIGH as then", x.heap(8, 0), 49);
        due(15, "behind 600", x.go(600), 33);
        due(15, "behind 600: HEAP 0, 34 and 17 more", x.heap(0, 0), 0);
        due(15, "behind 600: HEAP 8", x.heap(8, 0), 16);
        due(15, "STICK stays", x.heap(0, 1), 2);
        due(15, "WANT stays", x.count(1), 7);
        due(15, "FROM stays", x.told(0, 2), 0);
        due(15, "behind 600 again: HEAP 8", x.go(600), 33);
        due(15, "behind 600 again: HEAP 8", x.heap(8, 0), 0);
        NineHeaps y = new NineHeaps();
        due(15, "no WALKERS", y.go(600), 0);
        due(15, "no WALKERS: as HIGH as it was", y.heap(8, 0), 50);
    }

    // ---- promises 16, 17

    private static void promise16Off() {
        NineHeaps x = new NineHeaps();
        int[] no = {LEAST, -1, 40, MOST};
        for (int k : no) {
            due(16, "BAD: k " + k, x.off(k), -2);
        }
        due(16, "-1: none is OFF", x.off(0), -1);
        due(16, "-1: none is OFF", x.off(39), -1);
        NineHeaps y = quickOne();
        y.set(0, 5, 0);
        for (int k : no) {
            due(16, "BAD: k " + k, y.off(k), -2);
        }
        due(16, "the first", y.off(0), 0);
        due(16, "the last", y.off(32), 32);
        due(16, "-1: there is none", y.off(33), -1);
        y.set(0, 5, 32);
        due(16, "only the last one", y.off(0), 32);
        due(16, "-1: there is none", y.off(1), -1);
        y.set(0, 5, 33);
        due(16, "-1: none is OFF", y.off(0), -1);
    }

    /** Three in turn do 66; HEAP 4 is lifted by WALKERS 1, 0, 2 in each round, so that as many as it is HIGH are well. */
    private static NineHeaps threeInTurn(int high) {
        NineHeaps x = new NineHeaps();
        x.walker(0, 0, 0);
        x.walker(0, 0, 3);
        x.walker(0, 0, 6);
        x.set(0, 4, high);
        return x;
    }

    private static void promise16Forty() {
        NineHeaps less = threeInTurn(27);
        due(16, "39 are OFF: the first", less.off(0), 27);
        due(16, "39 are OFF: the last", less.off(38), 65);
        due(16, "39 are OFF: no 40th", less.off(39), -1);
        due(17, "39 are OFF: from the first one on", less.find(600, 0), 39);
        due(17, "39 are OFF: on to the last one", less.find(600, 1), 66);
        NineHeaps just = threeInTurn(26);
        due(16, "40 are OFF: the first", just.off(0), 26);
        due(16, "40 are OFF: the last", just.off(39), 65);
        due(17, "40 are OFF: from the first one on", just.find(600, 0), 40);
        due(17, "40 are OFF: on to the last one", just.find(600, 1), 66);
        NineHeaps more = threeInTurn(25);
        due(16, "41 are OFF: the first", more.off(0), 24);
        due(16, "41 are OFF: one is well between", more.off(1), 26);
        due(16, "41 are OFF: the 40th", more.off(39), 64);
        due(17, "41 are OFF: from the first one on", more.find(600, 0), 42);
        due(17, "41 are OFF: on to the 40th", more.find(600, 1), 65);
        NineHeaps all = threeInTurn(0);
        due(16, "all are OFF: the 40th", all.off(39), 39);
        due(17, "all are OFF: from the first one on to the last one done", all.find(600, 0), 66);
        due(17, "all are OFF: on to the 40th", all.find(600, 1), 40);
        due(12, "all are OFF", all.run(600, 2), 66);
    }

    private static void promise17Find() {
        NineHeaps[] both = {new NineHeaps(), quickOne()};
        int[] noWhats = {LEAST, -1, 2, MOST};
        for (NineHeaps x : both) {
            for (int seconds : NO_SECONDS) {
                due(17, "BAD: SECONDS " + seconds, x.find(seconds, 0), -2);
                due(17, "BAD: SECONDS " + seconds, x.find(seconds, 1), -2);
            }
            for (int what : noWhats) {
                due(17, "BAD: what " + what, x.find(0, what), -2);
                due(17, "BAD: what " + what, x.find(600, what), -2);
            }
            int[] seconds = {0, 1, 600};
            for (int n : seconds) {
                due(17, "0: none is OFF", x.find(n, 0), 0);
                due(17, "0: none is OFF", x.find(n, 1), 0);
            }
        }
        NineHeaps y = quickOne();
        y.set(1, 2, 4);
        // OFF are 3, 7, 11 ..: the first is done in SECOND 71.
        due(17, "behind 71: none is done", y.find(71, 0), 0);
        due(17, "behind 71: none is done", y.find(71, 1), 0);
        due(17, "behind 72: this one too", y.find(72, 0), 1);
        due(17, "behind 72: this one too", y.find(72, 1), 4);
        due(17, "behind 89: no other is done", y.find(89, 0), 1);
        due(17, "behind 90: to the last one done", y.find(90, 0), 2);
        due(17, "behind 90: to the last that is OFF", y.find(90, 1), 4);
        due(17, "behind 144: two are OFF", y.find(144, 0), 5);
        due(17, "behind 144: two are OFF", y.find(144, 1), 8);
        due(17, "behind 600: to the last one done", y.find(600, 0), 30);
        due(17, "behind 600: to the last that is OFF", y.find(600, 1), 32);
        y.set(0, 0, 0);
        due(17, "number 0 is OFF", y.find(18, 0), 1);
        due(17, "number 0 is OFF", y.find(18, 1), 1);
    }
}
