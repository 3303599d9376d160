import java.math.BigInteger;

/** Promises 25 to 34 at their edges: told heaps, heaps by lot, images. */
public final class EdgeToldTest {
    private static final int LEAST = Integer.MIN_VALUE, MOST = Integer.MAX_VALUE;
    private static final int[] NO_SECONDS = {LEAST, -1, 601, MOST}, NO_SHEETS = {LEAST, -1, 4, MOST};
    private static final long NO = -(1L << 62);

    private static int wrong;

    private static void due(int promise, String sentence, long got, long want) {
        if (got != want) {
            wrong++;
            System.out.println("promise " + promise + ": " + sentence + ": answered " + got + ", due is " + want);
        }
    }

    public static void main(String[] args) {
        promises25To29Sheets();
        promises25To29Seconds();
        promise25First();
        promise25Sorts();
        promise26When();
        promise26Refusals();
        promise27Sticks();
        promise27Heaps();
        promise28Packed();
        promise28Kinds();
        promise28From();
        promise29Laws();
        promise30Film();
        promise31Refusals();
        promise31EachSeed();
        promise32Refusals();
        promise32LowestTerms();
        promise32EachSeed();
        promise33And34None();
        promise34AllThatItKeeps();
        promise34WhatItDoesNotKeep();
        promise34TheLastImage();
        promise34Walkers();
        System.out.println(wrong == 0 ? "all answers are as due" : wrong + " answers are not as due");
        if (wrong != 0) {
            System.exit(1);
        }
    }

    private static int text(NineHeaps x, String text) {
        for (int i = 0; i < text.length(); i += 5) {
            int[] five = new int[5];
            int n = Math.min(5, text.length() - i);
            for (int k = 0; k < n; k++) {
                five[k] = text.charAt(i + k);
            }
            x.feed(n, five[0], five[1], five[2], five[3], five[4]);
        }
        return x.text();
    }

    /** One alone from HEAP 0, who LIFTS in each second SECOND, from SECOND 1 on. */
    private static NineHeaps quickOne() {
        NineHeaps x = new NineHeaps();
        x.walker(0, 0, 0);
        x.force(text(x, "takes 1;steps 1;minds 1;"));
        return x;
    }

    private static void tell(NineHeaps x, int s, int sort, int... high) {
        x.sheet(s, sort, high.length);
        for (int i = 0; i < high.length; i++) {
            x.cell(s, i, high[i]);
        }
    }

    // ---- promises 25 to 29: what they refuse alike

    private static void allFive(String sentence, NineHeaps x, int s, int seconds, int answer) {
        due(25, sentence, x.judge(s, seconds), answer);
        due(26, sentence, x.when(s, seconds == 0 ? 0 : 2), answer);
        due(27, sentence, x.sticks(s, seconds, seconds == 0 ? 0 : 9), answer);
        due(28, sentence, x.kinds(s, seconds, seconds == 0 ? 0 : 999), answer);
        due(29, sentence, x.laws(s, seconds), answer);
    }

    private static void promises25To29Sheets() {
        NineHeaps x = new NineHeaps();
        x.walker(0, 0, 0);
        for (int s : NO_SHEETS) {
            allFive("BAD: SHEET " + s, x, s, 0, -2);
            allFive("BAD ahead of the rest: SHEET " + s, x, s, 601, -2);
        }
        for (int s = 0; s < 4; s++) {
            allFive("-11: missing SHEET " + s, x, s, 0, -11);
            allFive("-11 ahead of -7: SHEET " + s, x, s, 601, -11);
        }
        int[] lengths = {0, 1, 8, 10, 40};
        for (int sort = 0; sort < 3; sort++) {
            for (int n : lengths) {
                x.sheet(3, sort, n);
                allFive("BAD: it doesn't tell 9 but " + n, x, 3, 0, -2);
                allFive("BAD ahead of -7: it tells " + n, x, 3, 601, -2);
            }
            x.sheet(3, sort, 9);
            due(25, "it tells 9, of sort " + sort, x.judge(3, 0), 0);
            due(26, "it tells 9, of sort " + sort, x.when(3, 0), -1);
            due(27, "it tells 9, of sort " + sort, x.sticks(3, 0, 0), 0);
            due(28, "it tells 9, of sort " + sort, x.kinds(3, 0, 0), 0);
            due(29, "it tells 9, of sort " + sort, x.laws(3, 0), 0);
        }
        x.sheet(3, -1, 9);
        allFive("-11: missing again", x, 3, 0, -11);
    }

    private static void promises25To29Seconds() {
        NineHeaps x = new NineHeaps();
        x.walker(0, 0, 0);
        x.film(0, 0);
        for (int seconds : NO_SECONDS) {
            due(25, "-7: SECONDS " + seconds, x.judge(0, seconds), -7);
            due(27, "-7: SECONDS " + seconds, x.sticks(0, seconds, 0), -7);
            due(27, "-7 ahead of -6", x.sticks(0, seconds, 9), -7);
            due(28, "-7: SECONDS " + seconds, x.kinds(0, seconds, 0), -7);
            due(28, "-7 ahead of -5", x.kinds(0, seconds, 500), -7);
            due(29, "-7: SECONDS " + seconds, x.laws(0, seconds), -7);
        }
        due(25, "SECONDS 0", x.judge(0, 0), -1);
        due(27, "SECONDS 0", x.sticks(0, 0, 0), 1023);
        due(28, "SECONDS 0", x.kinds(0, 0, 0), 63);
        due(28, "SECONDS 0", x.kinds(0, 0, 1), 511);
        due(29, "SECONDS 0", x.laws(0, 0), 1);
        x.film(0, 600);
        due(25, "SECONDS 600", x.judge(0, 600), -1);
        due(27, "SECONDS 600", x.sticks(0, 600, 0), 1);
        due(28, "SECONDS 600", x.kinds(0, 600, 0) & 1, 1);
        due(28, "SECONDS 600", x.kinds(0, 600, 1) & 1, 1);
        due(29, "SECONDS 600", x.laws(0, 600), 1);
    }

    // ---- promise 25

    private static void promise25First() {
        NineHeaps x = new NineHeaps();
        int[] high = new int[9];
        for (int h = 0; h < 9; h++) {
            high[h] = 25 * h;
            x.set(0, h, high[h]);
        }
        tell(x, 0, 2, high);
        due(25, "-1: none", x.judge(0, 0), -1);
        due(25, "-1: none, nobody goes", x.judge(0, 600), -1);
        for (int h = 8; h >= 0; h--) {
            x.cell(0, h, high[h] + 1);
            due(25, "the first that is otherwise, all behind it being so", x.judge(0, 0), h);
        }
        for (int h = 0; h < 9; h++) {
            x.cell(0, h, high[h] - 1);
            due(25, "1 less is otherwise", x.judge(0, 0), h);
            x.cell(0, h, high[h]);
            due(25, "the next one then", x.judge(0, 0), h == 8 ? -1 : h + 1);
        }
        for (int h = 0; h < 9; h++) {
            x.cell(0, h, high[h] + 1);
            due(25, "the only one that is otherwise", x.judge(0, 600), h);
            x.cell(0, h, high[h]);
        }
        NineHeaps y = quickOne();
        y.film(0, 0);
        due(25, "not lifted behind 1", y.judge(0, 1), -1);
        due(25, "lifted behind 2", y.judge(0, 2), 0);
        y.cell(0, 0, 49);
        due(25, "told so", y.judge(0, 2), -1);
        due(25, "told so, behind 3", y.judge(0, 3), -1);
        due(25, "HEAP 1 behind 4", y.judge(0, 4), 1);
    }

    private static void promise25Sorts() {
        NineHeaps x = new NineHeaps();
        for (int h = 0; h < 9; h++) {
            x.set(0, h, 127);
        }
        for (int sort = 0; sort < 3; sort++) {
            tell(x, 0, sort, 127, 127, 127, 127, 127, 127, 127, 127, 127 + 256);
            due(25, "256 more is as many in bytes alone, sort " + sort, x.judge(0, 0), sort == 0 ? -1 : 8);
            x.cell(0, 8, 127 - 256);
            due(25, "256 less is as many in bytes alone, sort " + sort, x.judge(0, 0), sort == 0 ? -1 : 8);
            x.cell(0, 8, 127 + 65536);
            due(25, "65536 more is as many in shorts, too, sort " + sort, x.judge(0, 0), sort < 2 ? -1 : 8);
            x.cell(0, 8, 127 - 65536);
            due(25, "65536 less is as many in shorts, too, sort " + sort, x.judge(0, 0), sort < 2 ? -1 : 8);
        }
        for (int h = 0; h < 9; h++) {
            x.set(0, h, 200);
        }
        for (int sort = 1; sort < 3; sort++) {
            tell(x, 0, sort, 200, 200, 200, 200, 200, 200, 200, 200, 200);
            due(25, "200, sort " + sort, x.judge(0, 0), -1);
        }
        for (int h = 0; h < 9; h++) {
            x.set(0, h, 0);
        }
        for (int sort = 0; sort < 3; sort++) {
            x.sheet(0, sort, 9);
            due(25, "0, sort " + sort, x.judge(0, 0), -1);
        }
    }

    // ---- promise 26

    private static void when(String sentence, NineHeaps x, int first, int times) {
        due(26, sentence + ": at first", x.when(0, 0), first);
        due(26, sentence + ": how many", x.when(0, 1), times);
    }

    /** The heaps are likewise behind two numbers of SECONDS each; but behind 600 alone HEAP 2 has been lifted at last. */
    private static void promise26When() {
        NineHeaps x = new NineHeaps();
        x.film(0, 0);
        when("nobody goes: always", x, 0, 601);
        x.cell(0, 8, 49);
        when("nobody goes: never", x, -1, 0);
        NineHeaps y = quickOne();
        int[] behind = {0, 1, 2, 3, 17, 18, 300, 301, 597, 598, 599};
        for (int n : behind) {
            y.film(0, n);
            when("behind " + n, y, n - n % 2, 2);
        }
        y.film(0, 600);
        when("behind 600", y, 600, 1);
        y.cell(0, 3, 0);
        when("never", y, -1, 0);
        NineHeaps z = new NineHeaps();
        z.walker(0, 0, 4);
        z.force(text(z, "takes 20;steps 20;minds 1;"));
        for (int h = 0; h < 9; h++) {
            z.set(0, h, 0);
        }
        z.set(0, 4, 1);
        z.film(0, 600);
        when("from SECOND 20 on it stays so", z, 21, 580);
        z.film(0, 0);
        when("till SECOND 20 it was so", z, 0, 21);
    }

    private static void promise26Refusals() {
        NineHeaps x = quickOne();
        x.film(0, 0);
        int[] no = {LEAST, -1, 2, MOST};
        for (int what : no) {
            due(26, "-7: what " + what, x.when(0, what), -7);
            due(26, "-11 ahead of -7", x.when(1, what), -11);
            due(26, "BAD ahead of -7", x.when(4, what), -2);
        }
    }

    // ---- promise 27

    /** HEAP 0's sheets up to number n are lifted behind 18 * n - 16 SECONDS. */
    private static void promise27Sticks() {
        for (int n = 1; n <= 11; n++) {
            NineHeaps x = quickOne();
            for (int stick = 0; stick <= 9; stick++) {
                x.set(1, 0, stick);
                x.film(0, 18 * n - 16);
                int bits = 0;
                for (int other = 0; other <= 9; other++) {
                    int gone = stick == 0 ? 0 : n / stick;
                    int otherGone = other == 0 ? 0 : n / other;
                    bits += gone == otherGone ? 1 << other : 0;
                }
                due(27, n + " sheets, STICK " + stick, x.sticks(0, 18 * n - 16, 0), bits);
                due(27, "it stays", x.heap(0, 1), stick);
                due(27, "another HEAP's makes it no better", x.sticks(0, 18 * n - 17, 1), 0);
            }
        }
        NineHeaps x = quickOne();
        x.set(1, 0, 9);
        x.film(0, 18 * 9 - 16);
        due(27, "bits 5 .. 9 alone", x.sticks(0, 18 * 9 - 16, 0), 0x3e0);
        x.cell(0, 8, 0);
        due(27, "none", x.sticks(0, 18 * 9 - 16, 0), 0);
    }

    private static void promise27Heaps() {
        NineHeaps x = quickOne();
        x.film(0, 0);
        int[] no = {LEAST, -1, 9, MOST};
        for (int h : no) {
            due(27, "-6: no HEAP " + h, x.sticks(0, 0, h), -6);
            due(27, "-6: no HEAP " + h, x.sticks(0, 600, h), -6);
        }
        x.film(0, 18);
        for (int h = 0; h < 9; h++) {
            due(27, "1 sheet of HEAP " + h + ": all but STICK 1", x.sticks(0, 18, h), 1021);
            x.set(1, h, 5);
        }
        for (int h = 0; h < 9; h++) {
            due(27, "whatever STICK is now, HEAP " + h, x.sticks(0, 18, h), 1021);
            x.set(1, h, 1);
            due(27, "not by this one's STICK now", x.judge(0, 18), h);
            due(27, "whatever STICK is now, HEAP " + h, x.sticks(0, 18, h), 1021);
            due(27, "another one's is as it is", x.sticks(0, 18, h == 0 ? 8 : 0), 0);
            x.set(1, h, 5);
        }
    }

    // ---- promise 28

    private static void promise28Packed() {
        NineHeaps x = new NineHeaps();
        x.film(0, 0);
        due(28, "-5: no WALKERS", x.kinds(0, 0, 0), -5);
        due(28, "-5: no WALKERS", x.kinds(0, 0, 1), -5);
        for (int w = 0; w < 5; w++) {
            due(28, "-5: not yet, " + w, x.kinds(0, 0, 100 * w), -5);
            due(28, "-5: not yet, " + w, x.kinds(0, 0, 100 * w + 1), -5);
            due(28, "-5 ahead of -7, " + w, x.kinds(0, 0, 100 * w + 2), -5);
            x.walker(w, 0, w);
            due(28, "all KINDS of WALKER " + w, x.kinds(0, 0, 100 * w), 63);
            due(28, "all FROM of WALKER " + w, x.kinds(0, 0, 100 * w + 1), 511);
            due(28, "-7: sort 2 of WALKER " + w, x.kinds(0, 0, 100 * w + 2), -7);
            due(28, "-7: sort 99 of WALKER " + w, x.kinds(0, 0, 100 * w + 99), -7);
        }
        int[] no = {LEAST, -200, -100, 500, 501, 502, 1000, MOST};
        for (int walkerSort : no) {
            due(28, "-5: no WALKER, " + walkerSort, x.kinds(0, 0, walkerSort), -5);
        }
    }

    private static NineHeaps oneOfKind(int kind) {
        NineHeaps x = new NineHeaps();
        x.walker(0, 0, 4);
        x.walker(kind, 6, 0);
        x.force(text(x, "takes 7;steps 6;minds 1;"));
        return x;
    }

    /** MORE 6: TAKES 7 7 10 8 11 7, a STEP 6 4 6 4 12 6: {SECOND of the LIFT of HEAP 8, KINDS that LIFT it so}. */
    private static void promise28Kinds() {
        int[] ninth = {9 * 7 + 8 * 6, 9 * 7 + 8 * 4, 9 * 10 + 8 * 6, 9 * 8 + 8 * 4, 9 * 11 + 8 * 12, 9 * 7 + 8 * 6};
        int[] alike = {1 | 32, 2, 4, 8, 16, 1 | 32};
        for (int kind = 0; kind < 6; kind++) {
            NineHeaps x = oneOfKind(kind);
            // Those of other KINDS have not come so far yet, or are farther by then.
            int other = x.height(8, ninth[kind] + 1, 0) - x.height(8, ninth[kind], 0);
            due(14, "the LIFT by KIND " + kind, other, -1);
            x.film(0, ninth[kind] + 1);
            due(28, "KIND " + kind, x.kinds(0, ninth[kind] + 1, 100) & alike[kind], alike[kind]);
            due(28, "no other KIND than such", x.kinds(0, ninth[kind] + 1, 100), kindsByRuns(kind, ninth[kind] + 1));
            due(28, "it stays", x.told(1, 0), kind);
            due(28, "MORE stays", x.told(1, 1), 6);
            due(28, "FROM stays", x.told(1, 2), 0);
        }
    }

    private static int kindsByRuns(int kind, int seconds) {
        NineHeaps x = oneOfKind(kind);
        int bits = 0;
        for (int other = 0; other < 6; other++) {
            NineHeaps y = oneOfKind(other);
            boolean like = true;
            for (int h = 0; h < 9; h++) {
                like &= x.height(h, seconds, 0) == y.height(h, seconds, 0);
            }
            bits += like ? 1 << other : 0;
        }
        return bits;
    }

    private static void promise28From() {
        for (int from = 0; from < 9; from++) {
            NineHeaps x = new NineHeaps();
            x.walker(3, 5, (from + 3) % 9);
            x.walker(0, 0, from);
            x.film(0, 3);
            due(28, "FROM " + from + " alone", x.kinds(0, 3, 101), 1 << from);
            due(28, "it stays", x.told(1, 2), from);
            due(28, "any FROM, ahead of the first LIFT", x.kinds(0, 2, 101), 0);
            x.film(0, 2);
            due(28, "any FROM, ahead of the first LIFT", x.kinds(0, 2, 101), 511);
        }
        NineHeaps y = quickOne();
        y.film(0, 18);
        due(28, "a whole round: any FROM", y.kinds(0, 18, 1), 511);
        y.cell(0, 0, 0);
        due(28, "none", y.kinds(0, 18, 1), 0);
        due(28, "none", y.kinds(0, 18, 0), 0);
    }

    // ---- promise 29

    private static void promise29Laws() {
        NineHeaps x = new NineHeaps();
        x.walker(0, 0, 0);
        x.film(0, 0);
        int[] all = {1, 3, 7, 15, 31, 63};
        for (int t = 1; t < 6; t++) {
            due(29, "TEXTS so far", x.laws(0, 0), all[t - 1]);
            due(29, "none of them", x.laws(0, 600), 0);
            text(x, "takes " + (t + 2) + ";steps 1;minds 1;");
        }
        due(29, "6 TEXTS", x.laws(0, 0), 63);
        for (int t = 0; t < 6; t++) {
            x.force(t);
            x.film(0, 200);
            for (int now = 0; now < 6; now++) {
                x.force(now);
                due(29, "TEXT " + t + " alone, whichever is THE LAW", x.laws(0, 200), 1 << t);
                due(29, "THE LAW stays", x.count(3), now);
            }
        }
    }

    // ---- promise 30

    private static void promise30Film() {
        NineHeaps x = quickOne();
        x.set(0, 8, 200);
        for (int s : NO_SHEETS) {
            due(30, "BAD: SHEET " + s, x.film(s, 0), -2);
        }
        for (int seconds : NO_SECONDS) {
            due(30, "BAD: SECONDS " + seconds, x.film(3, seconds), -2);
        }
        due(30, "refused: missing as it was", x.cell(3, 0, 0), -11);
        x.sheet(3, 2, 12);
        due(30, "BAD: SECONDS 601", x.film(3, 601), -2);
        due(30, "refused: a row as it was", x.cell(3, 11, 0), 1);
        for (int s = 0; s < 4; s++) {
            int seconds = 200 * s;
            due(30, "9 of SHEET " + s, x.film(s, seconds), 9);
            due(30, "as HIGH as then", x.judge(s, seconds), -1);
            due(30, "place 9 is outside", x.cell(s, 9, 0), -12);
            x.sheet((s + 1) % 4, 1, 9);
            due(30, "shorts", x.copy(s, 0, (s + 1) % 4, 0, 9), 9);
            due(30, "as HIGH as then, the copy", x.judge((s + 1) % 4, seconds), -1);
            due(30, "HEAPS stay as HIGH", x.heap(0, 0), 50);
        }
        tell(x, 0, 1, 50, 50, 50, 50, 50, 50, 50, 50, 200);
        x.film(1, 0);
        due(30, "behind 0", x.judge(1, 0), -1);
        x.sheet(2, 0, 40);
        due(30, "whatever it was", x.film(2, 18), 9);
        due(30, "199 in shorts", x.judge(2, 18), -1);
    }

    // ---- promises 31, 32

    private static NineHeaps three() {
        NineHeaps x = new NineHeaps();
        x.walker(0, 0, 0);
        x.walker(1, 6, 3);
        x.walker(3, 3, 7);
        return x;
    }

    private static void stickBy(NineHeaps x, int seed) {
        BigInteger lot = BigInteger.valueOf(seed + 1);
        for (int h = 0; h < 9; h++) {
            lot = lot.multiply(BigInteger.valueOf(48271)).mod(BigInteger.valueOf(2147483647));
            x.set(1, h, lot.mod(BigInteger.TEN).intValue());
        }
    }

    private static void promise31Refusals() {
        NineHeaps[] both = {new NineHeaps(), three()};
        int[] noSeeds = {LEAST, -1, 100000, MOST};
        int[] noWhats = {LEAST, -1, 3, MOST};
        for (NineHeaps x : both) {
            for (int seed : noSeeds) {
                due(31, "BAD: SEED " + seed, x.drawn(seed, 0), -2);
            }
            for (int what : noWhats) {
                due(31, "BAD: what " + what, x.drawn(0, what), -2);
                due(31, "BAD: what " + what, x.drawn(99999, what), -2);
            }
        }
        NineHeaps x = new NineHeaps();
        for (int what = 0; what < 3; what++) {
            due(31, "no WALKERS", x.drawn(0, what), 0);
            due(31, "no WALKERS", x.drawn(99999, what), 0);
        }
    }

    private static void promise31EachSeed() {
        NineHeaps x = three();
        NineHeaps y = three();
        for (int h = 0; h < 9; h++) {
            x.set(0, h, 30 + 8 * h);
            y.set(0, h, 30 + 8 * h);
            x.set(1, h, h);
        }
        int[] seeds = {0, 1, 9, 44488, 44489, 65535, 99998, 99999};
        for (int seed : seeds) {
            stickBy(y, seed);
            for (int what = 0; what < 3; what++) {
                due(31, "SEED " + seed + ", what " + what, x.drawn(seed, what), y.run(600, what));
            }
        }
        due(31, "STICK stays", x.heap(8, 1), 8);
        NineHeaps z = quickOne();
        z.set(0, 0, 2);
        // SEED 0 draws 48271 first: STICK 1, so two sheets go in the first PROGRAMME, and all others are SHORT.
        due(31, "SEED 0: STICK 1 of HEAP 0", z.drawn(0, 2), 32);
        due(31, "SEED 1: STICK 2 of HEAP 0", z.drawn(1, 2), 31);
    }

    private static void promise32Refusals() {
        NineHeaps[] both = {new NineHeaps(), three()};
        int[] noSeeds = {LEAST, -1, 100000, MOST};
        int[] noManySeeds = {LEAST, -1, 0, 11, MOST};
        int[] noParts = {LEAST, -1, 2, MOST};
        for (NineHeaps x : both) {
            for (int seed : noSeeds) {
                due(32, "NO: SEED " + seed, x.odds(seed, 1, 600, 1), NO);
            }
            for (int seeds : noManySeeds) {
                due(32, "NO: seeds " + seeds, x.odds(0, seeds, 600, 1), NO);
            }
            for (int seconds : NO_SECONDS) {
                due(32, "NO: SECONDS " + seconds, x.odds(0, 1, seconds, 1), NO);
            }
            for (int part : noParts) {
                due(32, "NO: part " + part, x.odds(0, 1, 600, part), NO);
            }
        }
        due(32, "NO: no WALKERS, no PROGRAMMES", both[0].odds(0, 10, 600, 0), NO);
        due(32, "NO: no WALKERS, no PROGRAMMES", both[0].odds(0, 10, 600, 1), NO);
        due(32, "NO: behind 0 no PROGRAMMES", both[1].odds(0, 10, 0, 0), NO);
        due(32, "NO: behind 0 no PROGRAMMES", both[1].odds(0, 10, 0, 1), NO);
        NineHeaps y = quickOne();
        due(32, "NO: behind 17 no PROGRAMMES", y.odds(0, 1, 17, 1), NO);
        due(32, "behind 18 one", y.odds(0, 1, 18, 1), 1);
    }

    private static void odds(String sentence, NineHeaps x, int seed, int seeds, int seconds, int above, int below) {
        due(32, sentence + ": above", x.odds(seed, seeds, seconds, 0), above);
        due(32, sentence + ": below", x.odds(seed, seeds, seconds, 1), below);
    }

    private static void promise32LowestTerms() {
        NineHeaps x = quickOne();
        for (int h = 0; h < 9; h++) {
            x.set(0, h, 1);
        }
        // 1 sheet is there: whatever STICK is, the first one is well and all others are SHORT.
        for (int seeds = 1; seeds <= 10; seeds++) {
            odds("1 of 1 by " + seeds, x, 7, seeds, 18, 1, 1);
            odds("1 of 2 by " + seeds, x, 7, seeds, 36, 1, 2);
            odds("1 of 33 by " + seeds, x, 7, seeds, 600, 1, 33);
        }
        x.set(0, 0, 0);
        odds("0 of 1", x, 7, 1, 18, 0, 1);
        odds("0 of 330: in lowest terms", x, 7, 10, 600, 0, 1);
    }

    private static void promise32EachSeed() {
        int[][] cases = {{0, 1, 600}, {0, 10, 600}, {5, 3, 333}, {99999, 1, 600}, {99999, 10, 600}, {99995, 10, 271}, {44480, 10, 27}};
        for (int[] c : cases) {
            NineHeaps x = three();
            NineHeaps y = three();
            int all = 0;
            int fine = 0;
            for (int seed = c[0]; seed < c[0] + c[1]; seed++) {
                stickBy(y, seed);
                all += y.run(c[2], 0);
                fine += y.run(c[2], 0) - y.run(c[2], 1) - y.run(c[2], 2);
            }
            int common = BigInteger.valueOf(all).gcd(BigInteger.valueOf(fine)).intValue();
            odds("SEED " + c[0] + " and on, by " + c[1] + ", behind " + c[2], x, c[0], c[1], c[2], fine / common, all / common);
        }
    }

    // ---- promises 33, 34

    private static void promise33And34None() {
        NineHeaps x = new NineHeaps();
        x.walker(0, 0, 0);
        x.set(0, 0, 9);
        due(34, "STATE: there is none", x.back(), -3);
        due(34, "refused: WALKERS as they were", x.count(0), 1);
        due(34, "refused: HIGH as it was", x.heap(0, 0), 9);
        NineHeaps y = new NineHeaps();
        for (int w = 0; w <= 5; w++) {
            due(33, "how many WALKERS", y.image(), w);
            due(34, "how many there are", y.back(), w);
            y.walker(0, 0, 0);
        }
    }

    private static void promise34AllThatItKeeps() {
        NineHeaps x = new NineHeaps();
        for (int w = 0; w < 4; w++) {
            x.walker(w, w, 8 - w);
        }
        for (int h = 0; h < 9; h++) {
            x.set(0, h, 20 * h);
            x.set(1, h, 9 - h);
        }
        x.set(2, 0, 200);
        text(x, "takes 3;steps 1;minds 1;");
        x.force(1);
        due(33, "4 WALKERS", x.image(), 4);
        for (int again = 0; again < 2; again++) {
            x.force(text(x, "takes 4;steps 1;minds 1;"));
            x.walker(5, 5, 5);
            for (int w = 0; w < 5; w++) {
                x.begin(w, w);
            }
            for (int h = 0; h < 9; h++) {
                x.set(0, h, 1);
                x.set(1, h, 0);
            }
            x.set(2, 0, 1);
            due(34, "4 WALKERS again", x.back(), 4);
            for (int h = 0; h < 9; h++) {
                due(34, "HIGH, HEAP " + h, x.heap(h, 0), 20 * h);
                due(34, "STICK, HEAP " + h, x.heap(h, 1), 9 - h);
            }
            for (int w = 0; w < 4; w++) {
                due(34, "FROM, WALKER " + w, x.told(w, 2), 8 - w);
                due(34, "KIND, WALKER " + w, x.told(w, 0), w);
                due(34, "MORE, WALKER " + w, x.told(w, 1), w);
            }
            due(34, "WANT", x.count(1), 200);
            due(34, "THE LAW", x.count(3), 1);
            due(34, "how many WALKERS there are", x.count(0), 4);
            due(34, "who came since is none", x.told(4, 0), -5);
        }
    }

    private static void promise34WhatItDoesNotKeep() {
        NineHeaps x = new NineHeaps();
        x.sheet(0, 2, 3);
        x.feed(5, 't', 'a', 'k', 'e', 's');
        x.image();
        x.sheet(0, -1, 0);
        x.sheet(1, 2, 5);
        text(x, " 1;steps 1;minds 1;");
        x.feed(3, 1, 1, 1, 1, 1);
        x.back();
        due(34, "a SHEET stays as it is", x.cell(0, 0, 0), -11);
        due(34, "another SHEET stays", x.cell(1, 4, 0), 1);
        due(34, "TEXTS stay", x.count(2), 2);
        due(34, "THE TAPE stays", x.count(4), 3);
        due(34, "the TEXT may be THE LAW", x.force(1), 0);
        x.back();
        due(34, "THE LAW is as it was", x.count(3), 0);
        due(33, "nothing changes but THE IMAGE", x.image(), 0);
        due(33, "nothing changes but THE IMAGE", x.count(4), 3);
    }

    private static void promise34TheLastImage() {
        NineHeaps x = new NineHeaps();
        x.set(0, 0, 1);
        x.image();
        x.set(0, 0, 2);
        x.walker(0, 0, 0);
        due(33, "a later IMAGE", x.image(), 1);
        x.set(0, 0, 3);
        x.walker(0, 0, 0);
        due(34, "back to the later one", x.back(), 1);
        due(34, "back to the later one", x.heap(0, 0), 2);
        due(34, "THE IMAGE stays", x.back(), 1);
        x.set(0, 0, 4);
        due(34, "THE IMAGE stays", x.back(), 1);
        due(34, "THE IMAGE stays", x.heap(0, 0), 2);
        x.go(600);
        due(34, "what is done truly is undone", x.back(), 1);
        due(34, "what is done truly is undone", x.heap(0, 0), 2);
        due(34, "what is done truly is undone", x.heap(8, 0), 50);
    }

    private static void promise34Walkers() {
        NineHeaps x = new NineHeaps();
        x.walker(0, 0, 0);
        x.walker(0, 1, 1);
        x.image();
        x.walker(2, 2, 2);
        x.walker(3, 3, 3);
        x.walker(4, 4, 4);
        due(34, "5 are there", x.walker(5, 5, 5), -4);
        x.back();
        due(34, "no such one any more", x.begin(2, 0), -5);
        due(34, "no such one any more", x.worth(4), -1000);
        due(34, "nothing lies there", x.taken(11, 0), -11);
        due(34, "as many as then go", x.run(600, 0), 44);
        due(34, "another one's number", x.walker(5, 9, 8), 2);
        due(34, "it is that one", x.told(2, 0), 5);
        due(34, "it is that one", x.told(2, 1), 9);
        due(34, "it is that one", x.told(2, 2), 8);
        due(34, "room for two more", x.walker(0, 0, 0), 3);
        due(34, "room for two more", x.walker(0, 0, 0), 4);
        due(34, "5 are there", x.walker(0, 0, 0), -4);
        due(34, "back to two", x.back(), 2);
        NineHeaps y = new NineHeaps();
        y.image();
        for (int w = 0; w < 5; w++) {
            y.walker(0, 0, 0);
        }
        due(34, "back to none", y.back(), 0);
        due(34, "none is there", y.told(0, 0), -5);
        due(34, "none is there", y.sit(0), -1);
    }
}
