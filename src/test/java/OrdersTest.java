/** Promises 18 to 24: orders, beginnings, own stretches. */
public final class OrdersTest {
    private static int wrong;

    private static void due(String call, long got, long want) {
        if (got != want) {
            wrong++;
            System.out.println(call + " answered " + got + ", due is " + want);
        }
    }

    public static void main(String[] args) {
        bestOfLikeOnesIsTheFirst();
        bestIsTheEarliest();
        bestOfManyPrefersProgrammes();
        startIsTheBest();
        sitAndWorth();
        manyAreAll();
        moreSheets();
        stretches();
        stretchesOfLikeOnes();
        System.out.println(wrong == 0 ? "all answers are as due" : wrong + " answers are not as due");
        if (wrong != 0) {
            System.exit(1);
        }
    }

    private static void law(NineHeaps x, String text) {
        for (int i = 0; i < text.length(); i++) {
            x.feed(1, text.charAt(i), 0, 0, 0, 0);
        }
        int t = x.text();
        due("law " + text, t >= 0 ? 1 : t, 1);
        x.force(t);
    }

    private static void best(String name, NineHeaps x, int second, int programmes, int order) {
        due(name + ": best(0)", x.best(0), second);
        due(name + ": best(1)", x.best(1), programmes);
        due(name + ": best(2)", x.best(2), order);
    }

    private static void bestOfLikeOnesIsTheFirst() {
        NineHeaps x = new NineHeaps();
        due("best(-1)", x.best(-1), -2);
        due("best(3)", x.best(3), -2);
        best("nobody", x, -1, 0, 0);
        x.walker(0, 0, 0);
        best("one", x, 539, 22, 1);
        x.set(2, 0, 200);
        best("never", x, -1, 22, 1);
        for (int w = 1; w < 5; w++) {
            x.walker(0, 0, 0);
        }
        due("like ones: best(2)", x.best(2), 12345);
        due("nothing changed", x.told(4, 2), 0);
    }

    /** Both begin at heap 0: who comes first there has done one 2 or 3 seconds earlier. */
    private static void bestIsTheEarliest() {
        NineHeaps x = new NineHeaps();
        x.walker(2, 2, 0);
        x.walker(0, 0, 0);
        x.set(2, 0, 1);
        due("by numbers", x.run(600, 4), 35);
        best("the quicker one first, held up behind the other later", x, 26, 33, 21);
    }

    private static void bestOfManyPrefersProgrammes() {
        NineHeaps x = new NineHeaps();
        x.walker(0, 3, 0);
        x.walker(1, 7, 0);
        x.walker(2, 4, 5);
        best("three", x, 293, 39, 312);
        x.set(2, 0, 40);
        due("never", x.best(0), x.best(1) < 40 ? -1 : x.best(0));
    }

    private static void startIsTheBest() {
        NineHeaps x = new NineHeaps();
        due("start(0, 0)", x.start(0, 0), -5);
        x.walker(0, 0, 6);
        due("of like ones the least", x.start(0, 0), 0);
        due("programmes", x.start(0, 1), 22);
        due("start(0, 2)", x.start(0, 2), -7);
        due("start(0, -1)", x.start(0, -1), -7);
        due("start(1, 2)", x.start(1, 2), -5);
        due("start(-1, 0)", x.start(-1, 0), -5);
        due("still there", x.told(0, 2), 6);
        NineHeaps y = new NineHeaps();
        y.walker(0, 3, 0);
        y.walker(1, 7, 0);
        y.walker(2, 4, 5);
        due("start(0, 0)", y.start(0, 0), 5);
        due("start(0, 1)", y.start(0, 1), 40);
        due("start(2, 0)", y.start(2, 0), 0);
        due("start(2, 1)", y.start(2, 1), 41);
    }

    private static void sitAndWorth() {
        NineHeaps x = new NineHeaps();
        due("sit(0), nobody", x.sit(0), -1);
        due("sit(1), nobody", x.sit(1), -1);
        due("sit(2), nobody", x.sit(2), -2);
        due("sit(-1)", x.sit(-1), -2);
        due("worth(0)", x.worth(0), -1000);
        x.walker(0, 0, 0);
        due("sit(0), one", x.sit(0), 0);
        due("sit(1), one", x.sit(1), 0);
        due("worth(0), one", x.worth(0), 22);
        x.walker(0, 0, 4);
        due("sit(0), of like ones the first", x.sit(0), 0);
        due("sit(1)", x.sit(1), 22);
        due("worth(1)", x.worth(1), 22);
        due("worth(2)", x.worth(2), -1000);
        due("worth(-1)", x.worth(-1), -1000);
        NineHeaps y = new NineHeaps();
        y.walker(0, 3, 0);
        y.walker(1, 7, 0);
        y.walker(2, 4, 5);
        due("sit(0)", y.sit(0), 2);
        due("sit(1)", y.sit(1), 44);
        due("worth(2), below 0", y.worth(2), -5);
    }

    /** Who sits still counts among those that a law calls many, and numbers stay. */
    private static void manyAreAll() {
        NineHeaps x = new NineHeaps();
        x.walker(0, 0, 0);
        x.walker(0, 0, 0);
        law(x, "takes many ; steps walker + 1 ; minds 1 ;");
        due("sit(1)", x.sit(1), 22);
        due("sit(0)", x.sit(0), 1);
        due("worth(0)", x.worth(0), x.run(600, 0) - 16);
    }

    private static void moreSheets() {
        NineHeaps x = new NineHeaps();
        due("more(-1)", x.more(-1), -2);
        due("more(9)", x.more(9), -2);
        x.set(0, 3, 0);
        due("nobody", x.more(3), 0);
        x.walker(0, 0, 0);
        due("none there", x.more(3), 22);
        due("enough", x.more(4), 0);
        x.set(0, 0, 22);
        due("just missed: 23 are lifted", x.more(0), 1);
        x.set(0, 0, 23);
        due("just enough", x.more(0), 0);
        x.set(0, 1, 22);
        due("missed in the last second", x.more(1), 1);
        due("nothing changed", x.heap(3, 0), 0);
        x.set(1, 3, 1);
        due("each lifts two", x.more(3), 43);
        NineHeaps y = new NineHeaps();
        y.walker(0, 0, 0);
        law(y, "takes 1 ; steps 1 ; minds 1 ;");
        for (int w = 1; w < 5; w++) {
            y.walker(0, 0, 2 * w);
        }
        due("so many go", y.run(600, 0), 165);
        y.set(1, 0, 1);
        due("200 are too few", y.more(0), -1);
        y.set(1, 0, 0);
        due("167 are enough", y.more(0), 117);
        y.set(1, 0, 5);
        due("200 are just enough for 167 and 33 that stick", y.more(0), 150);
        y.set(0, 0, 0);
        due("200 are just enough", y.more(0), 200);
        y.set(1, 0, 4);
        due("200 are too few", y.more(0), -1);
        y.set(0, 0, 200);
        y.set(1, 0, 1);
        due("no more have room", y.more(0), -1);
    }

    private static void stretches() {
        NineHeaps x = new NineHeaps();
        due("stretch(0), nobody", x.stretch(0), -1);
        due("stretch(3), nobody", x.stretch(3), -2);
        due("stretch(-1), nobody", x.stretch(-1), -2);
        due("slowest(), nobody", x.slowest(), -1);
        x.walker(0, 0, 5);
        due("one: stretch(0)", x.stretch(0), 27);
        due("one: stretch(1)", x.stretch(1), 9);
        due("one: stretch(2)", x.stretch(2), 27 + 19 * 27);
        due("one: slowest()", x.slowest(), 0);
        NineHeaps y = new NineHeaps();
        y.walker(0, 3, 0);
        y.walker(1, 7, 0);
        y.walker(2, 4, 5);
        due("three: stretch(0)", y.stretch(0), 12);
        due("three: stretch(1)", y.stretch(1), 342);
        due("three: stretch(2)", y.stretch(2), 9 + 12 + 10 + 19 * 12);
        due("three: slowest()", y.slowest(), 1);
        y.set(2, 0, 1);
        due("three, one wanted", y.stretch(2), 31);
        law(y, "takes left - 49 + heap * (heap = 8) * 2 ; steps 1 ; minds 1 ;");
        y.set(0, 0, 60);
        due("as high as it is: stretch(0)", y.stretch(0), 20);
        due("as high as it is: stretch(1)", y.stretch(1), 171);
    }

    private static void stretchesOfLikeOnes() {
        // A heap of 20 + 1 seconds is more than all others together: the first may have none of these.
        NineHeaps x = new NineHeaps();
        x.walker(0, 0, 0);
        x.walker(0, 0, 0);
        x.walker(0, 0, 0);
        law(x, "takes 1 + 19 * (heap = 0) ; steps 1 ; minds 1 ;");
        due("stretch(0)", x.stretch(0), 21);
        due("stretch(1): the first by how few", x.stretch(1), 18);
        due("stretch(2)", x.stretch(2), 21 + 16 + 19 * 21);
        due("slowest()", x.slowest(), 1);
        NineHeaps y = new NineHeaps();
        for (int w = 0; w < 5; w++) {
            y.walker(0, 0, 0);
        }
        due("five: stretch(0)", y.stretch(0), 6);
        due("five: stretch(1)", y.stretch(1), 12222);
        due("five: slowest(), of like ones the first", y.slowest(), 1);
        // The slowest one is so by the heaps that are its own.
        NineHeaps u = new NineHeaps();
        for (int w = 0; w < 3; w++) {
            u.walker(0, 0, 0);
        }
        law(u, "takes 1 + 9 * (heap < 2) + 8 * (heap = 8) + 20 * done ; steps 1 + done ; minds 1 ;");
        due("slowest: stretch(0)", u.stretch(0), 17);
        due("slowest: stretch(1)", u.stretch(1), 144);
        due("slowest: stretch(2)", u.stretch(2), 11 + 17 + 16 + 19 * 17);
        due("slowest()", u.slowest(), 1);
        // DONE 0: TWO halves only if MORE is 0.
        NineHeaps z = new NineHeaps();
        z.walker(5, 0, 0);
        z.walker(5, 1, 0);
        law(z, "takes 6 ; steps 2 ; minds 1 ;");
        due("two: stretch(1)", z.stretch(1), 63);
        due("two: stretch(0)", z.stretch(0), 30);
    }
}
