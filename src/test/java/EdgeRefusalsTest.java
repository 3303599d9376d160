import java.util.ArrayList;
import java.util.Arrays;
import java.util.List;

/** What is refused and what is but asked changes nothing: after each such call an object is as one that was spared it. */
public final class EdgeRefusalsTest {
    private static final int LEAST = Integer.MIN_VALUE, MOST = Integer.MAX_VALUE;
    private static final long NO = -(1L << 62);

    private static int wrong;

    private interface Call {
        long on(NineHeaps x);
    }

    private interface State {
        NineHeaps made();
    }

    public static void main(String[] args) {
        refusedWhenThereIsMuch();
        refusedWhenFull();
        refusedWhenNothingHasCome();
        askedChangesNothing();
        sameTwice();
        System.out.println(wrong == 0 ? "all answers are as due" : wrong + " answers are not as due");
        if (wrong != 0) {
            System.exit(1);
        }
    }

    private static void complain(int promise, String sentence, String what) {
        wrong++;
        System.out.println("promise " + promise + ": " + sentence + ": " + what);
    }

    // ---- objects

    private static void feedAll(NineHeaps x, String text) {
        for (int i = 0; i < text.length(); i += 5) {
            int[] five = new int[5];
            int n = Math.min(5, text.length() - i);
            for (int k = 0; k < n; k++) {
                five[k] = text.charAt(i + k);
            }
            x.feed(n, five[0], five[1], five[2], five[3], five[4]);
        }
    }

    private static final int[] TOLD = {3, 1, 4, 1, 5, 9, 2, 6, 5};

    /** Something of all; SHEETS 0 .. 2 of each sort, 3 missing; half a TEXT on THE TAPE; an IMAGE of another state. */
    private static NineHeaps much() {
        NineHeaps x = new NineHeaps();
        x.walker(0, 2, 3);
        x.walker(5, 1, 8);
        x.image();
        x.begin(0, 4);
        x.walker(2, 7, 4);
        for (int h = 0; h < 9; h++) {
            x.set(0, h, 12 + 5 * h);
            x.set(1, h, (4 * h + 3) % 10);
        }
        x.set(2, 0, 11);
        feedAll(x, "takes 1+heap*(left<30);steps 1;minds walker+1;");
        x.force(x.text());
        for (int s = 0; s < 3; s++) {
            x.sheet(s, s, 9);
            for (int i = 0; i < 9; i++) {
                x.cell(s, i, TOLD[i] + s);
            }
        }
        feedAll(x, "takes 3;steps 2;mi");
        return x;
    }

    private static NineHeaps full() {
        NineHeaps x = much();
        x.text();
        while (x.count(0) < 5) {
            x.walker(x.count(0), 9, x.count(0));
        }
        while (x.count(2) < 6) {
            feedAll(x, "takes " + x.count(2) + ";steps 1;minds 1;");
            x.text();
        }
        feedAll(x, "takes 3;steps 2;mi" + " ".repeat(142));
        return x;
    }

    /** All that can be seen from outside, at last by calls that change what is there. */
    private static long[] seen(NineHeaps x) {
        List<Long> all = new ArrayList<>();
        look(x, all);
        for (int s = 0; s < 4; s++) {
            for (int h = 0; h < 9; h++) {
                x.set(0, h, TOLD[h] + s);
            }
            all.add((long) x.judge(s, 0));
            all.add((long) x.copy(s, 9, s, 9, 0));
            all.add((long) x.copy(s, 10, s, 10, 0));
            all.add((long) x.copy(s, 0, 0, 0, 0));
            all.add((long) x.copy(s, 0, 1, 0, 0));
            all.add((long) x.copy(s, 0, 2, 0, 0));
        }
        feedAll(x, "nds 1;");
        all.add((long) x.text());
        all.add((long) x.count(2));
        all.add((long) x.back());
        look(x, all);
        long[] seen = new long[all.size()];
        for (int i = 0; i < seen.length; i++) {
            seen[i] = all.get(i);
        }
        return seen;
    }

    private static void look(NineHeaps x, List<Long> all) {
        for (int what = 0; what < 5; what++) {
            all.add((long) x.count(what));
            all.add((long) x.run(600, what));
            all.add((long) x.one(what, 333, 0));
            for (int part = 0; part < 4; part++) {
                all.add((long) x.told(what, part));
            }
            all.add((long) x.asks(what, 3029, 1001));
        }
        for (int h = 0; h < 9; h++) {
            all.add((long) x.heap(h, 0));
            all.add((long) x.heap(h, 1));
            all.add((long) x.height(h, 77, 0));
        }
    }

    private static void refused(int promise, String sentence, State state, long due, Call call) {
        NineHeaps x = state.made();
        long got = call.on(x);
        if (got != due) {
            complain(promise, sentence, "answered " + got + ", due is " + due);
        }
        unchanged(promise, "refused: " + sentence, state, x);
    }

    private static void asked(int promise, String sentence, State state, Call call) {
        NineHeaps x = state.made();
        if (call.on(x) < -1) {
            complain(promise, sentence, "was refused");
        }
        unchanged(promise, "asked: " + sentence, state, x);
    }

    private static void unchanged(int promise, String sentence, State state, NineHeaps x) {
        long[] due = seen(state.made());
        long[] got = seen(x);
        if (!Arrays.equals(due, got)) {
            complain(promise, sentence, "something is not as it was: " + Arrays.toString(got) + ", due is " + Arrays.toString(due));
        }
    }

    // ---- refused

    private static void refusedWhenThereIsMuch() {
        heapsAndLaw(EdgeRefusalsTest::much);
        walkersAndSeconds(EdgeRefusalsTest::much);
        ordersAndStretches(EdgeRefusalsTest::much);
        toldHeaps(EdgeRefusalsTest::much);
        lotsAndHost(EdgeRefusalsTest::much);
        fewSheets(EdgeRefusalsTest::much);
    }

    private static void heapsAndLaw(State state) {
        refused(2, "count(5)", state, -2, x -> x.count(5));
        refused(2, "count(-1)", state, -2, x -> x.count(-1));
        refused(3, "set(3, ..)", state, -5, x -> x.set(3, 0, 1));
        refused(3, "set(-1, ..)", state, -5, x -> x.set(-1, 0, 1));
        refused(3, "set HEAP 9", state, -6, x -> x.set(0, 9, 1));
        refused(3, "set HEAP -1", state, -6, x -> x.set(1, -1, 1));
        refused(3, "set HIGH 201", state, -7, x -> x.set(0, 0, 201));
        refused(3, "set HIGH -1", state, -7, x -> x.set(0, 8, -1));
        refused(3, "set STICK 10", state, -7, x -> x.set(1, 0, 10));
        refused(3, "set STICK -1", state, -7, x -> x.set(1, 8, -1));
        refused(3, "set WANT 0", state, -7, x -> x.set(2, 0, 0));
        refused(3, "set WANT 201", state, -7, x -> x.set(2, 0, 201));
        refused(4, "heap(9, 0)", state, -6, x -> x.heap(9, 0));
        refused(4, "heap(0, 2)", state, -7, x -> x.heap(0, 2));
        refused(5, "feed n 0", state, -2, x -> x.feed(0, 97, 97, 97, 97, 97));
        refused(5, "feed n 6", state, -2, x -> x.feed(6, 97, 97, 97, 97, 97));
        refused(5, "feed 256 first", state, -2, x -> x.feed(5, 256, 97, 97, 97, 97));
        refused(5, "feed 256 last", state, -2, x -> x.feed(5, 97, 97, 97, 97, 256));
        refused(5, "feed -1 behind the first n", state, -2, x -> x.feed(1, 97, -1, 97, 97, 97));
        refused(7, "force(-1)", state, -2, x -> x.force(-1));
        refused(7, "force(6)", state, -2, x -> x.force(6));
        refused(8, "asks part 3", state, -2, x -> x.asks(3, 0, 0));
        refused(8, "asks HEAP 9", state, -2, x -> x.asks(0, 9000, 0));
        refused(8, "asks left 201", state, -2, x -> x.asks(0, 201, 0));
        refused(8, "asks WALKER 5", state, -2, x -> x.asks(0, 0, 5000));
    }

    private static void walkersAndSeconds(State state) {
        refused(9, "walker KIND 6", state, -2, x -> x.walker(6, 0, 0));
        refused(9, "walker KIND -1", state, -2, x -> x.walker(-1, 0, 0));
        refused(9, "walker MORE 10", state, -2, x -> x.walker(0, 10, 0));
        refused(9, "walker MORE -1", state, -2, x -> x.walker(0, -1, 0));
        refused(9, "walker HEAP 9", state, -2, x -> x.walker(0, 0, 9));
        refused(9, "walker HEAP -1", state, -2, x -> x.walker(0, 0, -1));
        refused(10, "begin WALKER 5", state, -5, x -> x.begin(5, 0));
        refused(10, "begin WALKER -1", state, -5, x -> x.begin(-1, 0));
        refused(10, "begin HEAP 9", state, -7, x -> x.begin(0, 9));
        refused(10, "begin HEAP -1", state, -7, x -> x.begin(1, -1));
        refused(11, "told WALKER 5", state, -5, x -> x.told(5, 0));
        refused(11, "told what 4", state, -7, x -> x.told(0, 4));
        refused(12, "run behind 601", state, -2, x -> x.run(601, 0));
        refused(12, "run behind -1", state, -2, x -> x.run(-1, 0));
        refused(12, "run what 5", state, -2, x -> x.run(600, 5));
        refused(13, "one WALKER 5", state, -5, x -> x.one(5, 0, 0));
        refused(13, "one behind 601", state, -7, x -> x.one(0, 601, 0));
        refused(13, "one what 5", state, -7, x -> x.one(0, 600, 5));
        refused(14, "height HEAP 9", state, -6, x -> x.height(9, 600, 0));
        refused(14, "height behind 601", state, -7, x -> x.height(0, 601, 0));
        refused(14, "height what 2", state, -7, x -> x.height(0, 600, 2));
        refused(15, "go(601)", state, -2, x -> x.go(601));
        refused(15, "go(-1)", state, -2, x -> x.go(-1));
        refused(15, "go far out", state, -2, x -> x.go(MOST));
        refused(16, "off(40)", state, -2, x -> x.off(40));
        refused(16, "off(-1)", state, -2, x -> x.off(-1));
        refused(17, "find behind 601", state, -2, x -> x.find(601, 0));
        refused(17, "find what 2", state, -2, x -> x.find(600, 2));
    }

    private static void ordersAndStretches(State state) {
        refused(18, "best(3)", state, -2, x -> x.best(3));
        refused(18, "best(-1)", state, -2, x -> x.best(-1));
        refused(19, "start WALKER 5", state, -5, x -> x.start(5, 0));
        refused(19, "start what 2", state, -7, x -> x.start(0, 2));
        refused(20, "sit(2)", state, -2, x -> x.sit(2));
        refused(20, "sit(-1)", state, -2, x -> x.sit(-1));
        refused(21, "worth(5)", state, -1000, x -> x.worth(5));
        refused(21, "worth(-1)", state, -1000, x -> x.worth(-1));
        refused(22, "more(9)", state, -2, x -> x.more(9));
        refused(22, "more(-1)", state, -2, x -> x.more(-1));
        refused(23, "stretch(3)", state, -2, x -> x.stretch(3));
        refused(23, "stretch(-1)", state, -2, x -> x.stretch(-1));
    }

    private static void toldHeaps(State state) {
        refused(25, "judge SHEET 4", state, -2, x -> x.judge(4, 0));
        refused(25, "judge a missing one", state, -11, x -> x.judge(3, 0));
        refused(25, "judge behind 601", state, -7, x -> x.judge(0, 601));
        refused(26, "when SHEET -1", state, -2, x -> x.when(-1, 0));
        refused(26, "when a missing one", state, -11, x -> x.when(3, 0));
        refused(26, "when what 2", state, -7, x -> x.when(0, 2));
        refused(27, "sticks SHEET 4", state, -2, x -> x.sticks(4, 0, 0));
        refused(27, "sticks of a missing one", state, -11, x -> x.sticks(3, 0, 0));
        refused(27, "sticks behind -1", state, -7, x -> x.sticks(0, -1, 0));
        refused(27, "sticks HEAP 9", state, -6, x -> x.sticks(0, 0, 9));
        refused(28, "kinds SHEET 4", state, -2, x -> x.kinds(4, 0, 0));
        refused(28, "kinds of a missing one", state, -11, x -> x.kinds(3, 0, 0));
        refused(28, "kinds behind 601", state, -7, x -> x.kinds(0, 601, 0));
        refused(28, "kinds WALKER 5", state, -5, x -> x.kinds(0, 0, 500));
        refused(28, "kinds sort 2", state, -7, x -> x.kinds(0, 0, 2));
        refused(29, "laws SHEET 4", state, -2, x -> x.laws(4, 0));
        refused(29, "laws of a missing one", state, -11, x -> x.laws(3, 0));
        refused(29, "laws behind 601", state, -7, x -> x.laws(0, 601));
        refused(30, "film SHEET 4", state, -2, x -> x.film(4, 0));
        refused(30, "film SHEET -1", state, -2, x -> x.film(-1, 0));
        refused(30, "film behind 601", state, -2, x -> x.film(0, 601));
        refused(30, "film behind -1", state, -2, x -> x.film(2, -1));
        refused(30, "film behind 601 on a missing one", state, -2, x -> x.film(3, 601));
    }

    private static void lotsAndHost(State state) {
        refused(31, "drawn SEED 100000", state, -2, x -> x.drawn(100000, 0));
        refused(31, "drawn SEED -1", state, -2, x -> x.drawn(-1, 0));
        refused(31, "drawn what 3", state, -2, x -> x.drawn(0, 3));
        refused(32, "odds SEED 100000", state, NO, x -> x.odds(100000, 1, 600, 0));
        refused(32, "odds of 0 seeds", state, NO, x -> x.odds(0, 0, 600, 0));
        refused(32, "odds of 11 seeds", state, NO, x -> x.odds(0, 11, 600, 0));
        refused(32, "odds behind 601", state, NO, x -> x.odds(0, 1, 601, 0));
        refused(32, "odds part 2", state, NO, x -> x.odds(0, 1, 600, 2));
        refused(32, "odds of no PROGRAMMES", state, NO, x -> x.odds(0, 10, 0, 0));
        refused(35, "sheet SHEET 4", state, -2, x -> x.sheet(4, 0, 9));
        refused(35, "sheet sort 3", state, -2, x -> x.sheet(0, 3, 9));
        refused(35, "sheet sort -2", state, -2, x -> x.sheet(0, -2, 9));
        refused(35, "sheet n 41", state, -2, x -> x.sheet(0, 0, 41));
        refused(35, "sheet n 41 of a missing one", state, -2, x -> x.sheet(3, 0, 41));
        refused(35, "sheet n -1", state, -14, x -> x.sheet(0, 0, -1));
        refused(35, "sheet n -1 of a missing one", state, -14, x -> x.sheet(3, 2, -1));
        refused(36, "cell SHEET 4", state, -2, x -> x.cell(4, 0, 77));
        refused(36, "cell SHEET -1", state, -2, x -> x.cell(-1, 0, 77));
        refused(36, "cell of a missing one", state, -11, x -> x.cell(3, 0, 77));
        refused(36, "cell -1", state, -12, x -> x.cell(0, -1, 77));
        refused(36, "cell 9", state, -12, x -> x.cell(2, 9, 77));
        refused(39, "taken kind 7", state, -2, x -> x.taken(0, 7));
        refused(39, "taken place 14", state, -12, x -> x.taken(14, 0));
        refused(39, "taken of another KIND", state, -13, x -> x.taken(9, 6));
        refused(39, "taken of a HEAP", state, -13, x -> x.taken(0, 0));
    }

    private static void fewSheets(State state) {
        refused(37, "copy SHEET 4", state, -2, x -> x.copy(4, 0, 0, 0, 9));
        refused(37, "copy to SHEET -1", state, -2, x -> x.copy(0, 0, -1, 0, 9));
        refused(37, "copy of a missing one", state, -11, x -> x.copy(3, 0, 0, 0, 9));
        refused(37, "copy to a missing one", state, -11, x -> x.copy(0, 0, 3, 0, 9));
        refused(37, "copy of unlike sorts", state, -13, x -> x.copy(0, 0, 1, 0, 9));
        refused(37, "copy of unlike sorts", state, -13, x -> x.copy(2, 0, 1, 0, 9));
        refused(37, "copy from 1, 9", state, -12, x -> x.copy(0, 1, 0, 0, 9));
        refused(37, "copy to 1, 9", state, -12, x -> x.copy(0, 0, 0, 1, 9));
        refused(37, "copy from -1", state, -12, x -> x.copy(2, -1, 2, 0, 9));
        refused(37, "copy to -1", state, -12, x -> x.copy(2, 0, 2, -1, 9));
        refused(37, "copy of -1", state, -12, x -> x.copy(2, 3, 2, 0, -1));
        refused(37, "copy of none from 10", state, -12, x -> x.copy(1, 10, 1, 0, 0));
        refused(37, "copy of far too many", state, -12, x -> x.copy(1, 8, 1, 0, MOST));
        refused(38, "walkersBy SHEET 4", state, -2, x -> x.walkersBy(4, 0, 0, 1));
        refused(38, "walkersBy sort 3", state, -2, x -> x.walkersBy(0, 3, 0, 1));
        refused(38, "walkersBy n 6", state, -2, x -> x.walkersBy(0, 0, 0, 6));
        refused(38, "walkersBy n -1", state, -2, x -> x.walkersBy(0, 0, 0, -1));
        refused(38, "walkersBy a missing one", state, -11, x -> x.walkersBy(3, 0, 0, 1));
        refused(38, "walkersBy another sort", state, -13, x -> x.walkersBy(0, 1, 0, 1));
        refused(38, "walkersBy from -1", state, -12, x -> x.walkersBy(0, 0, -1, 1));
        refused(38, "walkersBy from 7", state, -12, x -> x.walkersBy(0, 0, 7, 1));
        refused(38, "walkersBy from far out", state, -12, x -> x.walkersBy(0, 0, LEAST, 5));
    }

    private static void refusedWhenFull() {
        State state = EdgeRefusalsTest::full;
        refused(5, "feed a full TAPE", state, -4, x -> x.feed(1, 97, 97, 97, 97, 97));
        refused(5, "feed a full TAPE five", state, -4, x -> x.feed(5, 97, 97, 97, 97, 97));
        refused(6, "text when 6 are there", state, -4, x -> x.text());
        refused(9, "walker when 5 are there", state, -4, x -> x.walker(0, 0, 0));
        refused(9, "walker KIND 6", state, -2, x -> x.walker(6, 0, 0));
        refused(38, "walkersBy when 5 are there", state, 0, x -> x.walkersBy(0, 0, 0, 3));
        refused(7, "force(6)", state, -2, x -> x.force(6));
        refused(28, "kinds WALKER 5", state, -5, x -> x.kinds(0, 0, 500));
        refused(30, "film behind 601", state, -2, x -> x.film(0, 601));
    }

    private static void refusedWhenNothingHasCome() {
        State state = NineHeaps::new;
        refused(8, "asks of no WALKER", state, -2, x -> x.asks(0, 0, 0));
        refused(10, "begin of no WALKER", state, -5, x -> x.begin(0, 0));
        refused(11, "told of no WALKER", state, -5, x -> x.told(0, 0));
        refused(13, "one of no WALKER", state, -5, x -> x.one(0, 0, 0));
        refused(18, "best of no WALKERS", state, -1, x -> x.best(0));
        refused(19, "start of no WALKER", state, -5, x -> x.start(0, 0));
        refused(20, "sit of no WALKERS", state, -1, x -> x.sit(0));
        refused(21, "worth of no WALKER", state, -1000, x -> x.worth(0));
        refused(23, "stretch of no WALKERS", state, -1, x -> x.stretch(0));
        refused(24, "slowest of no WALKERS", state, -1, x -> x.slowest());
        refused(25, "judge of no SHEET", state, -11, x -> x.judge(0, 0));
        refused(32, "odds of no WALKERS", state, NO, x -> x.odds(0, 1, 600, 0));
        refused(34, "back to no IMAGE", state, -3, x -> x.back());
        refused(36, "cell of no SHEET", state, -11, x -> x.cell(0, 0, 77));
        refused(37, "copy of no SHEET", state, -11, x -> x.copy(0, 0, 0, 0, 0));
        refused(38, "walkersBy no SHEET", state, -11, x -> x.walkersBy(0, 0, 0, 1));
        refused(39, "taken of no WALKER", state, -11, x -> x.taken(9, 0));
        refused(15, "go of no WALKERS", state, 0, x -> x.go(600));
    }

    // ---- asked

    private static void askedChangesNothing() {
        State[] states = {EdgeRefusalsTest::much, EdgeRefusalsTest::full};
        for (State state : states) {
            asked(2, "count", state, x -> x.count(0));
            asked(4, "heap", state, x -> x.heap(8, 1));
            asked(8, "asks", state, x -> x.asks(0, 8200, 1999));
            asked(11, "told", state, x -> x.told(1, 3));
            asked(12, "run", state, x -> x.run(600, 3));
            asked(13, "one", state, x -> x.one(1, 600, 0));
            asked(14, "height", state, x -> x.height(8, 600, 0));
            asked(15, "go(0)", state, x -> x.go(0));
            asked(16, "off", state, x -> x.off(0));
            asked(17, "find", state, x -> x.find(600, 1));
            asked(18, "best", state, x -> x.best(2));
            asked(19, "start", state, x -> x.start(0, 0));
            asked(20, "sit", state, x -> x.sit(0));
            asked(21, "worth", state, x -> x.worth(0) + 100);
            asked(22, "more", state, x -> x.more(0));
            asked(23, "stretch", state, x -> x.stretch(1));
            asked(24, "slowest", state, x -> x.slowest());
            asked(25, "judge", state, x -> x.judge(0, 600));
            asked(26, "when", state, x -> x.when(1, 0));
            asked(27, "sticks", state, x -> x.sticks(2, 600, 0));
            asked(28, "kinds", state, x -> x.kinds(0, 600, 0));
            asked(28, "kinds, FROM", state, x -> x.kinds(0, 600, 101));
            asked(29, "laws", state, x -> x.laws(0, 600));
            asked(31, "drawn", state, x -> x.drawn(7, 0));
            asked(32, "odds", state, x -> x.odds(99999, 10, 600, 1));
            asked(37, "copy of none", state, x -> x.copy(0, 9, 0, 0, 0));
            asked(38, "walkersBy, none", state, x -> x.walkersBy(0, 0, 0, 0));
            asked(39, "taken", state, x -> x.taken(10, 5));
        }
    }

    /** The same call again answers the same, whatever was asked between. */
    private static void sameTwice() {
        Call[] calls = {x -> x.run(600, 0), x -> x.run(600, 3), x -> x.one(1, 599, 3), x -> x.height(3, 600, 1), x -> x.off(0),
            x -> x.find(600, 0), x -> x.best(0), x -> x.best(2), x -> x.start(1, 0), x -> x.start(0, 1), x -> x.sit(0), x -> x.sit(1),
            x -> x.worth(0), x -> x.more(2), x -> x.stretch(0), x -> x.stretch(2), x -> x.slowest(), x -> x.judge(0, 55),
            x -> x.when(0, 1), x -> x.sticks(0, 9, 4), x -> x.kinds(1, 9, 100), x -> x.kinds(1, 9, 1), x -> x.laws(2, 9),
            x -> x.drawn(3, 1), x -> x.odds(3, 3, 600, 1), x -> x.asks(0, 1012, 0)};
        for (int i = 0; i < calls.length; i++) {
            NineHeaps x = much();
            long first = calls[i].on(x);
            for (int j = 0; j < calls.length; j++) {
                calls[j].on(x);
                long again = calls[i].on(x);
                if (again != first) {
                    complain(0, "call " + i + " behind call " + j, "answered " + again + ", due is " + first);
                }
            }
        }
    }
}
