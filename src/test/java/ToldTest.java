/** Promises 25 to 34: told heaps, heaps by lot, images. */
public final class ToldTest {
    private static int wrong;

    private static void due(String call, long got, long want) {
        if (got != want) {
            wrong++;
            System.out.println(call + " answered " + got + ", due is " + want);
        }
    }

    public static void main(String[] args) {
        refusals();
        judgeTellsTheFirst();
        whenCounts();
        sticksTells();
        kindsTells();
        kindsTakesWhatIsPacked();
        lawsTells();
        filmTells();
        bytesAreSmall();
        drawnByLot();
        oddsInLowestTerms();
        imagesComeBack();
        imageLeavesTheRest();
        System.out.println(wrong == 0 ? "all answers are as due" : wrong + " answers are not as due");
        if (wrong != 0) {
            System.exit(1);
        }
    }

    private static int text(NineHeaps x, String text) {
        for (int i = 0; i < text.length(); i++) {
            x.feed(1, text.charAt(i), 0, 0, 0, 0);
        }
        return x.text();
    }

    /** SHEET 0 tells 50 of all HEAPS, less one of the first ones. */
    private static void tell(NineHeaps x, int sort, int lessOne) {
        x.sheet(0, sort, 9);
        for (int h = 0; h < 9; h++) {
            x.cell(0, h, h < lessOne ? 49 : 50);
        }
    }

    private static void refusals() {
        NineHeaps x = new NineHeaps();
        x.walker(0, 0, 0);
        x.sheet(1, 2, 8);
        x.sheet(2, 2, 10);
        x.sheet(3, 2, 9);
        int[] sheets = {-1, 4, 0, 1, 2};
        int[] answers = {-2, -2, -11, -2, -2};
        for (int i = 0; i < sheets.length; i++) {
            due("judge of " + sheets[i], x.judge(sheets[i], 601), answers[i]);
            due("when of " + sheets[i], x.when(sheets[i], 2), answers[i]);
            due("sticks of " + sheets[i], x.sticks(sheets[i], 601, 9), answers[i]);
            due("kinds of " + sheets[i], x.kinds(sheets[i], 601, 999), answers[i]);
            due("laws of " + sheets[i], x.laws(sheets[i], 601), answers[i]);
        }
        int[] seconds = {-1, 601};
        for (int n : seconds) {
            due("judge behind " + n, x.judge(3, n), -7);
            due("sticks behind " + n, x.sticks(3, n, 9), -7);
            due("kinds behind " + n, x.kinds(3, n, 999), -7);
            due("laws behind " + n, x.laws(3, n), -7);
            due("film behind " + n, x.film(3, n), -2);
        }
        due("when(3, 2)", x.when(3, 2), -7);
        due("when(3, -1)", x.when(3, -1), -7);
        due("sticks of no heap", x.sticks(3, 0, 9), -6);
        due("sticks of no heap", x.sticks(3, 0, -1), -6);
        due("kinds of no walker", x.kinds(3, 0, 102), -5);
        due("kinds of no sort", x.kinds(3, 0, 2), -7);
        due("kinds of no sort", x.kinds(3, 0, 99), -7);
        due("kinds below", x.kinds(3, 0, -100), -5);
        due("film(-1, 0)", x.film(-1, 0), -2);
        due("film(4, 0)", x.film(4, 0), -2);
    }

    private static void judgeTellsTheFirst() {
        NineHeaps x = new NineHeaps();
        x.walker(0, 0, 0);
        for (int sort = 0; sort < 3; sort++) {
            tell(x, sort, 2);
            due("judge behind 2", x.judge(0, 2), 0);
            due("judge behind 3", x.judge(0, 3), 1);
            due("judge behind 6", x.judge(0, 6), -1);
            due("judge behind 8", x.judge(0, 8), -1);
            due("judge behind 9", x.judge(0, 9), 2);
        }
        x.cell(0, 8, 51);
        due("judge of the last", x.judge(0, 6), 8);
        due("judge behind 600", x.judge(0, 600), 0);
        tell(x, 2, 0);
        due("judge behind 0", x.judge(0, 0), -1);
        x.cell(0, 0, 65536 + 50);
        due("judge of an int", x.judge(0, 0), 0);
    }

    private static void whenCounts() {
        NineHeaps x = new NineHeaps();
        tell(x, 1, 0);
        due("nobody: first", x.when(0, 0), 0);
        due("nobody: how many", x.when(0, 1), 601);
        x.walker(0, 0, 0);
        due("first", x.when(0, 0), 0);
        due("how many", x.when(0, 1), 3);
        tell(x, 1, 2);
        due("first", x.when(0, 0), 6);
        due("how many", x.when(0, 1), 3);
        x.cell(0, 8, 49);
        due("never", x.when(0, 0), -1);
        due("never", x.when(0, 1), 0);
        x.film(0, 600);
        due("the last ones", x.when(0, 0), 600);
        due("the last ones", x.when(0, 1), 1);
    }

    private static void sticksTells() {
        NineHeaps x = new NineHeaps();
        x.walker(0, 0, 0);
        x.set(1, 0, 3);
        x.film(0, 27 * 4);
        // Of four takings the third one sticks; by 4 the fourth one does; by 1 and 2 more go.
        due("sticks of heap 0", x.sticks(0, 27 * 4, 0), 1 << 3 | 1 << 4);
        due("sticks of heap 1", x.sticks(0, 27 * 4, 1), 1 | 0x3e0);
        due("sticks behind 0", x.sticks(0, 0, 0), 0);
        x.film(0, 0);
        due("sticks behind 0", x.sticks(0, 0, 8), 0x3ff);
        due("nothing changed", x.heap(0, 1), 3);
    }

    private static void kindsTells() {
        NineHeaps x = new NineHeaps();
        x.walker(0, 7, 4);
        x.walker(0, 3, 0);
        x.force(text(x, "takes 5 ; steps 4 ; minds 1 ;"));
        x.film(0, 15);
        // Behind 15 seconds 0, 1 (steps 3) and 5 have lifted two; 3 (takes 6, steps 3) is a second too late for that.
        due("kinds of 1", x.kinds(0, 15, 100), 1 | 2 | 32);
        due("kinds of 1 behind 6", x.kinds(0, 6, 100), 0);
        x.film(0, 6);
        due("kinds of 1 behind 6", x.kinds(0, 6, 100), 1 | 2 | 32);
        due("kinds of 0 behind 6", x.kinds(0, 6, 0), 1 | 2 | 32);
        due("beginnings of 1", x.kinds(0, 6, 101), 1);
        due("beginnings of 0", x.kinds(0, 6, 1), 1 << 4);
        x.film(0, 0);
        due("kinds behind 0", x.kinds(0, 0, 0), 63);
        due("beginnings behind 5: nobody has lifted", x.kinds(0, 5, 101), 511);
        due("beginnings behind 0", x.kinds(0, 0, 101), 511);
        due("nothing changed", x.told(1, 0), 0);
        due("nothing changed", x.told(1, 2), 0);
        NineHeaps y = new NineHeaps();
        y.walker(3, 0, 0);
        y.walker(4, 0, 2);
        y.film(0, 70);
        due("the own kind is one", y.kinds(0, 70, 0) >> 3 & 1, 1);
        due("the own kind is one", y.kinds(0, 70, 100) >> 4 & 1, 1);
        due("the own beginning is one", y.kinds(0, 70, 101) >> 2 & 1, 1);
    }

    private static void kindsTakesWhatIsPacked() {
        NineHeaps x = new NineHeaps();
        x.film(0, 0);
        due("nobody", x.kinds(0, 0, 0), -5);
        for (int w = 0; w < 5; w++) {
            x.walker(w, 0, 2 * w);
        }
        due("kinds of 4", x.kinds(0, 0, 400), 63);
        due("beginnings of 4", x.kinds(0, 0, 401), 511);
        due("kinds of 5", x.kinds(0, 0, 500), -5);
        due("kinds far out", x.kinds(0, 0, Integer.MAX_VALUE), -5);
        due("kinds far below", x.kinds(0, 0, Integer.MIN_VALUE), -5);
    }

    private static void lawsTells() {
        NineHeaps x = new NineHeaps();
        x.walker(0, 0, 0);
        due("text", text(x, "takes 2 ; steps 9 ; minds 1 ;"), 1);
        due("text", text(x, "takes 3 ; steps 1 ; minds 1 ;"), 2);
        due("text", text(x, "takes many*2 ; steps done+1 ; minds 1 ;"), 3);
        x.film(0, 3);
        due("laws behind 3", x.laws(0, 3), 1 | 2 | 8);
        x.film(0, 27);
        due("laws behind 27", x.laws(0, 27), 1 | 8);
        due("laws behind 26", x.laws(0, 26), 0);
        x.film(0, 40);
        due("laws behind 40", x.laws(0, 40), 1);
        due("nothing changed", x.count(3), 0);
        x.force(2);
        due("laws whatever rules now", x.laws(0, 40), 1);
        due("but judged by that", x.judge(0, 40) == -1 ? 1 : 0, 0);
    }

    private static void filmTells() {
        NineHeaps x = new NineHeaps();
        x.walker(0, 0, 8);
        x.set(0, 8, 200);
        x.sheet(2, 0, 40);
        due("film(2, 3)", x.film(2, 3), 9);
        due("judge(2, 3)", x.judge(2, 3), -1);
        due("judge(2, 0)", x.judge(2, 0), 8);
        due("nothing changed", x.heap(8, 0), 200);
        due("nine of them", x.cell(2, 9, 0), -12);
        x.sheet(3, 1, 9);
        due("they are shorts", x.copy(2, 0, 3, 0, 9), 9);
        due("judge of the copy", x.judge(3, 3), -1);
        due("film(0, 600)", x.film(0, 600), 9);
        due("another sheet stays", x.judge(3, 3), -1);
    }

    private static void bytesAreSmall() {
        NineHeaps x = new NineHeaps();
        tell(x, 0, 0);
        x.cell(0, 4, 256 + 50);
        due("the lowest 8 bits", x.judge(0, 0), -1);
        x.cell(0, 4, 50 - 256);
        due("the lowest 8 bits", x.judge(0, 0), -1);
        x.cell(0, 4, 51);
        due("otherwise", x.judge(0, 0), 4);
        tell(x, 1, 0);
        x.cell(0, 4, 256 + 50);
        due("shorts have more", x.judge(0, 0), 4);
        x.cell(0, 4, 65536 * 3 + 50);
        due("the lowest 16 bits", x.judge(0, 0), -1);
    }

    /** The first LOT of SEED 0 is 48271: STICK of HEAP 0 would be 1. */
    private static void drawnByLot() {
        NineHeaps x = new NineHeaps();
        due("drawn(-1, 0)", x.drawn(-1, 0), -2);
        due("drawn(100000, 0)", x.drawn(100000, 0), -2);
        due("drawn(0, 3)", x.drawn(0, 3), -2);
        due("drawn(0, -1)", x.drawn(0, -1), -2);
        due("nobody", x.drawn(0, 0), 0);
        x.walker(0, 0, 0);
        NineHeaps y = new NineHeaps();
        y.walker(0, 0, 0);
        int[] seeds = {0, 1, 7, 4711, 99999};
        for (int seed : seeds) {
            long lot = seed + 1;
            for (int h = 0; h < 9; h++) {
                lot = lot * 48271 % 2147483647;
                y.set(1, h, (int) (lot % 10));
            }
            for (int what = 0; what < 3; what++) {
                due("drawn(" + seed + ", " + what + ")", x.drawn(seed, what), y.run(600, what));
            }
        }
        // 48271, then 48271 * 48271 modulo 2147483647 = 182605794 and so on: 1 4 ..
        x.set(0, 0, 2);
        due("SEED 0: the first one is wrong, all others short", x.drawn(0, 2), 21);
        due("nothing changed", x.heap(0, 1), 0);
    }

    private static void oddsInLowestTerms() {
        NineHeaps x = new NineHeaps();
        due("nobody", x.odds(0, 1, 600, 0), NineHeaps.NO);
        x.walker(0, 3, 0);
        x.walker(1, 7, 0);
        x.walker(2, 4, 5);
        due("odds(5, 4, 200, 0)", x.odds(5, 4, 200, 0), 1);
        due("odds(5, 4, 200, 1)", x.odds(5, 4, 200, 1), 16);
        due("no programmes", x.odds(0, 10, 20, 1), NineHeaps.NO);
        due("seconds -1", x.odds(0, 1, -1, 0), NineHeaps.NO);
        due("seconds 601", x.odds(0, 1, 601, 0), NineHeaps.NO);
        due("seeds 0", x.odds(0, 0, 600, 0), NineHeaps.NO);
        due("seeds 11", x.odds(0, 11, 600, 0), NineHeaps.NO);
        due("seed -1", x.odds(-1, 1, 600, 0), NineHeaps.NO);
        due("seed 100000", x.odds(100000, 1, 600, 0), NineHeaps.NO);
        due("part -1", x.odds(0, 1, 600, -1), NineHeaps.NO);
        due("part 2", x.odds(0, 1, 600, 2), NineHeaps.NO);
        due("seed 0, seeds 1", x.odds(0, 1, 600, 1) > 0 ? 1 : 0, 1);
        due("seconds 0", x.odds(0, 1, 0, 1), NineHeaps.NO);
        due("they may pass 99999", x.odds(99999, 10, 600, 1) > 0 ? 1 : 0, 1);
        NineHeaps y = new NineHeaps();
        y.walker(0, 0, 0);
        int fine = y.drawn(8, 0) - y.drawn(8, 1) - y.drawn(8, 2) + y.drawn(9, 0) - y.drawn(9, 1) - y.drawn(9, 2);
        due("two together", 44 * y.odds(8, 2, 600, 0), fine * y.odds(8, 2, 600, 1));
        for (int h = 0; h < 9; h++) {
            y.set(0, h, 1);
        }
        due("one of two is fine", y.odds(3, 10, 54, 0), 1);
        due("one of two is fine", y.odds(3, 10, 54, 1), 2);
        due("all are", y.odds(3, 10, 53, 0), 1);
        due("all are", y.odds(3, 10, 53, 1), 1);
        y.set(0, 0, 0);
        due("none is", y.odds(3, 10, 54, 0), 0);
        due("none is", y.odds(3, 10, 54, 1), 1);
    }

    private static void imagesComeBack() {
        NineHeaps x = new NineHeaps();
        due("back()", x.back(), -3);
        x.walker(0, 1, 2);
        x.walker(1, 2, 3);
        x.set(0, 5, 99);
        x.set(1, 6, 7);
        x.set(2, 0, 11);
        due("text", text(x, "takes 3;steps 1;minds 1;"), 1);
        due("image()", x.image(), 2);
        x.walker(5, 9, 8);
        x.begin(0, 7);
        x.set(0, 5, 1);
        x.set(1, 6, 1);
        x.set(2, 0, 1);
        x.force(1);
        x.go(100);
        for (int again = 0; again < 2; again++) {
            due("back()", x.back(), 2);
            due("count(0)", x.count(0), 2);
            due("told(0, 2)", x.told(0, 2), 2);
            due("told(2, 0)", x.told(2, 0), -5);
            due("heap(5, 0)", x.heap(5, 0), 99);
            due("heap(0, 0)", x.heap(0, 0), 50);
            due("heap(6, 1)", x.heap(6, 1), 7);
            due("count(1)", x.count(1), 11);
            due("count(3)", x.count(3), 0);
            due("another comes", x.walker(2, 4, 4), 2);
            due("told(2, 0)", x.told(2, 0), 2);
            due("told(2, 1)", x.told(2, 1), 4);
        }
        x.set(0, 5, 42);
        x.begin(2, 6);
        due("a later image", x.image(), 3);
        x.set(0, 5, 43);
        x.begin(2, 1);
        due("back to that", x.back(), 3);
        due("heap(5, 0)", x.heap(5, 0), 42);
        due("told(2, 2)", x.told(2, 2), 6);
    }

    private static void imageLeavesTheRest() {
        NineHeaps x = new NineHeaps();
        due("image()", x.image(), 0);
        x.feed(2, 'a', 'b', 0, 0, 0);
        x.sheet(1, 2, 3);
        due("back()", x.back(), 0);
        due("the tape stays", x.count(4), 2);
        due("sheets stay", x.cell(1, 2, 0), 1);
        x.text();
        due("text", text(x, "takes 3;steps 1;minds 1;"), 1);
        x.walker(0, 0, 0);
        due("back()", x.back(), 0);
        due("texts stay", x.count(2), 2);
        due("no walkers", x.run(600, 0), 0);
        due("a walker", x.walker(0, 0, 0), 0);
    }
}
