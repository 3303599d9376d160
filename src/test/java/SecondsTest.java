/** Promises 9 to 17: the walkers, and what they do second by second. */
public final class SecondsTest {
    private static int wrong;

    private static void due(String call, long got, long want) {
        if (got != want) {
            wrong++;
            System.out.println(call + " answered " + got + ", due is " + want);
        }
    }

    public static void main(String[] args) {
        walkersCome();
        beginMoves();
        toldTells();
        oneAlone();
        twoAtOneHeap();
        onePasses();
        kindsTakeTheirTime();
        textsAreAskedInTime();
        waitingIsBad();
        runRefuses();
        oneRefuses();
        heightsFall();
        sheetsStick();
        wrongAndShortAreNotBoth();
        goIsTrue();
        offAndFindEdges();
        System.out.println(wrong == 0 ? "all answers are as due" : wrong + " answers are not as due");
        if (wrong != 0) {
            System.exit(1);
        }
    }

    private static void law(NineHeaps x, String text) {
        for (int i = 0; i < text.length(); i++) {
            x.feed(1, text.charAt(i), 0, 0, 0, 0);
        }
        int t = x.text();
        due("law " + text, t >= 0 ? 1 : t, 1);
        x.force(t);
    }

    private static void walkersCome() {
        NineHeaps x = new NineHeaps();
        due("walker(-1, 0, 0)", x.walker(-1, 0, 0), -2);
        due("walker(6, 0, 0)", x.walker(6, 0, 0), -2);
        due("walker(0, -1, 0)", x.walker(0, -1, 0), -2);
        due("walker(0, 10, 0)", x.walker(0, 10, 0), -2);
        due("walker(0, 0, -1)", x.walker(0, 0, -1), -2);
        due("walker(0, 0, 9)", x.walker(0, 0, 9), -2);
        for (int w = 0; w < 5; w++) {
            due("walker " + w, x.walker(w + 1, 9 - w, 8 - w), w);
        }
        due("walker 5", x.walker(0, 0, 0), -4);
        due("walker 5, bad", x.walker(6, 0, 0), -2);
        due("count(0)", x.count(0), 5);
    }

    private static void beginMoves() {
        NineHeaps x = new NineHeaps();
        due("begin(0, 0)", x.begin(0, 0), -5);
        x.walker(0, 0, 7);
        due("begin(0, 8)", x.begin(0, 8), 7);
        due("begin(0, 0)", x.begin(0, 0), 8);
        due("begin(0, 9)", x.begin(0, 9), -7);
        due("begin(0, -1)", x.begin(0, -1), -7);
        due("begin(1, 9)", x.begin(1, 9), -5);
        due("begin(-1, 0)", x.begin(-1, 0), -5);
        due("told(0, 2)", x.told(0, 2), 0);
        due("one(0, 0, 0)", x.one(0, 0, 0), 0);
        x.begin(0, 4);
        due("one(0, 0, 0)", x.one(0, 0, 0), 4);
    }

    private static void toldTells() {
        NineHeaps x = new NineHeaps();
        due("told(0, 0)", x.told(0, 0), -5);
        for (int kind = 0; kind < 5; kind++) {
            x.walker(kind, 9 - kind, kind + 2);
            due("told kind", x.told(kind, 0), kind);
            due("told more", x.told(kind, 1), 9 - kind);
            due("told from", x.told(kind, 2), kind + 2);
            due("told waits", x.told(kind, 3), kind == 3 ? 0 : 1);
        }
        due("told(0, 4)", x.told(0, 4), -7);
        due("told(0, -1)", x.told(0, -1), -7);
        due("told(5, 4)", x.told(5, 4), -5);
        due("told(-1, 0)", x.told(-1, 0), -5);
        NineHeaps y = new NineHeaps();
        y.walker(5, 0, 0);
        due("told TWO", y.told(0, 0), 5);
        due("told TWO waits", y.told(0, 3), 1);
    }

    /** By the first law one lifts in second 2, then in each third one. */
    private static void oneAlone() {
        NineHeaps x = new NineHeaps();
        due("nobody", x.run(600, 0), 0);
        x.walker(0, 0, 7);
        int[] at = {7, 7, 7, 8, 8, 8, 0, 0, 0, 1};
        int[] does = {1, 2, 2, 0, 2, 2, 0, 2, 2, 0};
        int[] has = {0, 0, 0, 1, 1, 1, 2, 2, 2, 3};
        for (int seconds = 0; seconds < at.length; seconds++) {
            due("at behind " + seconds, x.one(0, seconds, 0), at[seconds]);
            due("does behind " + seconds, x.one(0, seconds, 1), does[seconds]);
            due("done behind " + seconds, x.one(0, seconds, 2), 0);
            due("waited behind " + seconds, x.one(0, seconds, 3), 0);
            due("has behind " + seconds, x.one(0, seconds, 4), has[seconds]);
        }
        due("has behind 26", x.one(0, 26, 4), 8);
        due("run(26, 0)", x.run(26, 0), 0);
        due("run(27, 0)", x.run(27, 0), 1);
        due("has behind 27", x.one(0, 27, 4), 0);
        due("done behind 27", x.one(0, 27, 2), 1);
        due("at behind 27", x.one(0, 27, 0), 7);
        due("run(600, 0)", x.run(600, 0), 22);
        due("run(600, 1)", x.run(600, 1), 0);
        due("run(600, 2)", x.run(600, 2), 0);
        due("run(600, 3)", x.run(600, 3), 0);
        due("run(539, 4)", x.run(539, 4), -1);
        due("run(540, 4)", x.run(540, 4), 539);
        x.set(2, 0, 1);
        due("run(600, 4)", x.run(600, 4), 26);
        due("run(26, 4)", x.run(26, 4), -1);
        due("run(27, 4)", x.run(27, 4), 26);
        x.set(2, 0, 23);
        due("run(600, 4)", x.run(600, 4), -1);
        due("nothing was truly done", x.heap(0, 0), 50);
        due("lifts in second 599, the last of all", x.height(1, 599, 0) - x.height(1, 600, 0), 0);
        x.begin(0, 0);
        due("lifts in second 599, the last of all", x.height(1, 599, 0) - x.height(1, 600, 0), 1);
    }

    private static void twoAtOneHeap() {
        NineHeaps x = new NineHeaps();
        x.walker(0, 0, 0);
        x.walker(0, 0, 0);
        due("first takes", x.one(0, 1, 1), 2);
        due("second waits", x.one(1, 1, 1), 1);
        due("second waited", x.one(1, 1, 3), 1);
        due("second waited", x.one(1, 2, 3), 2);
        due("second takes as soon as the first lifts", x.one(1, 3, 1), 2);
        due("second waited", x.one(1, 3, 3), 2);
        due("second lifts", x.one(1, 5, 4), 1);
        due("second waited no more", x.one(1, 600, 3), 2);
        due("first never waited", x.one(0, 600, 3), 0);
        due("run(600, 3)", x.run(600, 3), 2);
        due("run(600, 0)", x.run(600, 0), 44);
        // Who comes ahead of the taker in the order still waits in the second in which that one lifts.
        NineHeaps y = new NineHeaps();
        y.walker(0, 0, 1);
        y.walker(0, 0, 0);
        y.walker(0, 0, 1);
        due("third waits for the first", y.one(2, 2, 3), 2);
        due("third waited", y.one(2, 600, 3), 2);
        due("second waits for the third", y.one(1, 5, 1), 1);
        due("second takes then", y.one(1, 6, 1), 2);
        due("second waited", y.one(1, 600, 3), 2);
    }

    private static void onePasses() {
        NineHeaps x = new NineHeaps();
        x.walker(0, 0, 0);
        x.walker(3, 0, 0);
        x.walker(0, 0, 0);
        due("passing takes too", x.one(1, 1, 1), 2);
        due("passing has not waited", x.one(1, 600, 3), 0);
        due("passing takes 1 more", x.one(1, 3, 4), 0);
        due("passing takes 1 more", x.one(1, 4, 4), 1);
        due("who waits, waits for the passing one, too", x.one(2, 3, 1), 1);
        due("who waits, waits for the passing one, too", x.one(2, 4, 1), 2);
        due("who waits, waited", x.one(2, 4, 3), 3);
    }

    /** The SECOND in which one alone has done as many by that law. */
    private static void doneIn(int kind, int more, String text, int programmes, int second) {
        NineHeaps x = new NineHeaps();
        x.walker(kind, more, 0);
        law(x, text);
        x.set(2, 0, programmes);
        due("kind " + kind + ", more " + more + ", " + text + " " + programmes, x.run(600, 4), second);
    }

    /** One alone is done in the SECOND that is nine times TAKES and eight times a STEP. */
    private static void kindsTakeTheirTime() {
        String law = "takes 5 ; steps 4 ; minds 1 ;";
        doneIn(0, 7, law, 1, 45 + 32);
        doneIn(0, 7, law, 2, 77 + 4 + 45 + 32);
        doneIn(1, 2, law, 1, 45 + 32);
        doneIn(1, 3, law, 1, 45 + 24);
        doneIn(1, 7, law, 1, 45 + 16);
        doneIn(1, 9, "takes 5;steps 3;minds 1;", 1, 45 + 8);
        doneIn(1, 9, "takes 5;steps 1;minds 1;", 1, 45 + 8);
        doneIn(2, 1, law, 1, 45 + 32);
        doneIn(2, 7, law, 1, 72 + 32);
        doneIn(3, 7, law, 1, 54 + 16);
        doneIn(3, 0, law, 1, 54 + 32);
        doneIn(4, 7, law, 1, 81 + 64);
        doneIn(4, 0, law, 1, 54 + 64);
        doneIn(4, 0, law, 2, 118 + 8 + 63 + 64);
        doneIn(4, 1, law, 2, 118 + 8 + 54 + 64);
        doneIn(4, 1, law, 3, 244 + 8 + 63 + 64);
        doneIn(4, 1, "takes 20;steps 20;minds 1;", 1, 189 + 320);
        doneIn(5, 0, law, 1, 18 + 32);
        doneIn(5, 1, law, 1, 45 + 32);
        doneIn(5, 1, law, 2, 77 + 4 + 18 + 32);
        doneIn(5, 0, "takes 1;steps 1;minds 1;", 1, 9 + 8);
        doneIn(0, 0, "takes 1;steps 1;minds 1;", 33, 18 * 33 - 1);
    }

    private static void textsAreAskedInTime() {
        // TAKES of the heap one is at; a STEP of the heap that one comes from.
        NineHeaps x = new NineHeaps();
        x.walker(0, 0, 7);
        law(x, "takes heap ; steps heap - 5 ; minds 1 ;");
        due("takes 7", x.one(0, 7, 4), 0);
        due("takes 7", x.one(0, 8, 4), 1);
        due("steps 2", x.one(0, 9, 1), 0);
        due("steps 2", x.one(0, 10, 1), 2);
        due("takes 8", x.one(0, 17, 4), 1);
        due("takes 8", x.one(0, 18, 4), 2);
        due("steps 3", x.one(0, 20, 1), 0);
        due("steps 3 from 8", x.one(0, 21, 1), 2);
        due("takes 1 at 0", x.one(0, 22, 4), 3);
        // TAKES as high as it is when one begins; a STEP as high as it is behind that.
        NineHeaps y = new NineHeaps();
        y.walker(0, 0, 0);
        y.set(0, 0, 9);
        law(y, "takes left ; steps left ; minds 1 ;");
        due("takes 9", y.one(0, 9, 4), 0);
        due("takes 9", y.one(0, 10, 4), 1);
        due("steps 8", y.one(0, 17, 1), 0);
        due("steps 8", y.one(0, 18, 1), 2);
        // A STEP with DONE as it is when the ninth is lifted.
        NineHeaps z = new NineHeaps();
        z.walker(0, 0, 0);
        law(z, "takes 1 ; steps 1 + done * 9 ; minds 1 ;");
        due("done in 17", z.one(0, 18, 2), 1);
        due("steps 10 then", z.one(0, 27, 1), 0);
        due("steps 10 then", z.one(0, 28, 1), 2);
        // All WALKERS are many, and each has a number.
        NineHeaps u = new NineHeaps();
        u.walker(0, 0, 0);
        u.walker(0, 5, 4);
        law(u, "takes many * 2 + walker * 3 + more ; steps 1 ; minds 1 ;");
        due("takes 4", u.one(0, 4, 4), 0);
        due("takes 4", u.one(0, 5, 4), 1);
        due("takes 12", u.one(1, 12, 4), 0);
        due("takes 12", u.one(1, 13, 4), 1);
    }

    private static void waitingIsBad() {
        NineHeaps x = new NineHeaps();
        x.set(0, 0, 200);
        x.walker(0, 0, 0);
        x.walker(0, 3, 0);
        x.walker(0, 1, 0);
        law(x, "takes 2 ; steps 1 ; minds 10 * walker + more + done + heap + left ;");
        due("behind 0", x.run(0, 3), 0);
        due("behind 2", x.run(2, 3), 2 * 13 + 2 * 21);
        due("behind 4", x.run(4, 3), 2 * 13 + 4 * 21);
        due("behind 29", x.run(29, 3), 2 * 14 + 4 * 21);
        due("behind 31", x.run(31, 3), 2 * 14 + 4 * 22);
        NineHeaps y = new NineHeaps();
        y.walker(0, 0, 0);
        y.walker(2, 8, 1);
        law(y, "takes 2 ; steps 1 ; minds 5 + walker ;");
        due("the first waits, in the second in which the other lifts, too", y.run(7, 3), 4 * 5);
        due("the first takes", y.one(0, 8, 1), 2);
    }

    private static void runRefuses() {
        NineHeaps x = new NineHeaps();
        due("run(-1, 0)", x.run(-1, 0), -2);
        due("run(601, 0)", x.run(601, 0), -2);
        due("run(0, -1)", x.run(0, -1), -2);
        due("run(0, 5)", x.run(0, 5), -2);
        due("run(600, 4)", x.run(600, 4), -1);
    }

    private static void oneRefuses() {
        NineHeaps x = new NineHeaps();
        due("one(0, 0, 0)", x.one(0, 0, 0), -5);
        x.walker(0, 0, 0);
        due("one(1, 601, 5)", x.one(1, 601, 5), -5);
        due("one(-1, 0, 0)", x.one(-1, 0, 0), -5);
        due("one(0, 601, 0)", x.one(0, 601, 0), -7);
        due("one(0, -1, 0)", x.one(0, -1, 0), -7);
        due("one(0, 0, 5)", x.one(0, 0, 5), -7);
        due("one(0, 0, -1)", x.one(0, 0, -1), -7);
    }

    private static void heightsFall() {
        NineHeaps x = new NineHeaps();
        x.walker(0, 0, 0);
        x.set(0, 0, 2);
        x.set(0, 1, 0);
        due("height(0, 2, 0)", x.height(0, 2, 0), 2);
        due("height(0, 3, 0)", x.height(0, 3, 0), 1);
        due("height(0, 29, 1)", x.height(0, 29, 1), -1);
        due("height(0, 30, 1)", x.height(0, 30, 1), 29);
        due("height(0, 600, 1)", x.height(0, 600, 1), 29);
        due("height(0, 600, 0)", x.height(0, 600, 0), 0);
        due("height(1, 600, 1): was so at first", x.height(1, 600, 1), -1);
        due("height(8, 26, 0)", x.height(8, 26, 0), 50);
        due("height(8, 27, 0)", x.height(8, 27, 0), 49);
        due("height(8, 600, 0)", x.height(8, 600, 0), 28);
        due("run(600, 2): all lack one", x.run(600, 2), 22);
        due("height(9, 601, 2)", x.height(9, 601, 2), -6);
        due("height(-1, 0, 0)", x.height(-1, 0, 0), -6);
        due("height(0, 601, 0)", x.height(0, 601, 0), -7);
        due("height(0, -1, 0)", x.height(0, -1, 0), -7);
        due("height(0, 0, 2)", x.height(0, 0, 2), -7);
        due("height(0, 0, -1)", x.height(0, 0, -1), -7);
    }

    /** Of five sheets every second sticks: 1 goes, then 2, then 1, then the last one, which nothing sticks to. */
    private static void sheetsStick() {
        NineHeaps x = new NineHeaps();
        x.walker(0, 0, 0);
        x.set(0, 0, 5);
        x.set(1, 0, 2);
        int[] high = {5, 4, 2, 1, 0, 0};
        for (int k = 0; k < high.length; k++) {
            due("height of round " + k, x.height(0, 27 * k, 0), high[k]);
        }
        due("ran out", x.height(0, 600, 1), 83);
        due("run(600, 1)", x.run(600, 1), 1);
        due("run(600, 2)", x.run(600, 2), 18);
        due("off(0)", x.off(0), 1);
        due("off(1)", x.off(1), 4);
        due("off(18)", x.off(18), 21);
        due("off(19)", x.off(19), -1);
        due("find(53, 0)", x.find(53, 0), 0);
        due("find(53, 1)", x.find(53, 1), 0);
        due("find(54, 0)", x.find(54, 0), 1);
        due("find(54, 1)", x.find(54, 1), 2);
        due("find(108, 0)", x.find(108, 0), 3);
        due("find(108, 1)", x.find(108, 1), 2);
        due("find(600, 0)", x.find(600, 0), 21);
        due("find(600, 1)", x.find(600, 1), 22);
        x.set(1, 0, 1);
        due("each sticks", x.height(0, 54, 0), 1);
        due("each sticks: wrong", x.run(600, 1), 2);
        due("ran out", x.height(0, 600, 1), 56);
        x.set(0, 0, 2);
        due("two go at once", x.height(0, 3, 0), 0);
        due("ran out so", x.height(0, 600, 1), 2);
        x.set(0, 0, 200);
        x.set(1, 0, 9);
        due("the ninth sticks", x.off(0), 8);
        due("the eighteenth sticks", x.off(1), 17);
        due("no other", x.off(2), -1);
    }

    private static void wrongAndShortAreNotBoth() {
        NineHeaps x = new NineHeaps();
        x.walker(0, 0, 0);
        x.set(1, 0, 1);
        x.set(0, 1, 1);
        due("wrong", x.run(27, 1), 1);
        due("short", x.run(27, 2), 0);
        due("wrong, one of them", x.run(600, 1), 1);
        due("short, though wrong before", x.run(600, 2), 21);
        NineHeaps y = new NineHeaps();
        y.walker(0, 0, 0);
        y.set(0, 0, 0);
        y.set(1, 1, 1);
        due("wrong, though short before", y.run(600, 1), 0);
        due("short", y.run(600, 2), 22);
    }

    private static void goIsTrue() {
        NineHeaps x = new NineHeaps();
        x.walker(0, 0, 0);
        x.set(1, 0, 2);
        due("go(-1)", x.go(-1), -2);
        due("go(601)", x.go(601), -2);
        due("go(0)", x.go(0), 0);
        due("heap(0, 0)", x.heap(0, 0), 50);
        due("go(57)", x.go(57), 2);
        due("heap(0, 0)", x.heap(0, 0), 46);
        due("heap(1, 0)", x.heap(1, 0), 48);
        due("heap(0, 1)", x.heap(0, 1), 2);
        due("a new going begins at the beginning", x.one(0, 0, 0), 0);
        due("a new going counts from 1 on", x.height(0, 27, 0), 45);
        due("go(600)", x.go(600), 22);
        due("heap(0, 0)", x.heap(0, 0), 46 - 34);
        due("heap(8, 0)", x.heap(8, 0), 48 - 22);
    }

    private static void offAndFindEdges() {
        NineHeaps x = new NineHeaps();
        due("off(-1)", x.off(-1), -2);
        due("off(40)", x.off(40), -2);
        due("off(39)", x.off(39), -1);
        due("find(-1, 0)", x.find(-1, 0), -2);
        due("find(601, 0)", x.find(601, 0), -2);
        due("find(0, 2)", x.find(0, 2), -2);
        due("find(0, -1)", x.find(0, -1), -2);
        due("find(600, 0)", x.find(600, 0), 0);
        for (int w = 0; w < 3; w++) {
            x.walker(0, 0, 3 * w);
        }
        x.set(0, 4, 0);
        due("all are off", x.run(600, 2), 66);
        due("off(39)", x.off(39), 39);
        due("find(600, 0): to the last one done", x.find(600, 0), 66);
        due("find(600, 1): of the first 40", x.find(600, 1), 40);
    }
}
