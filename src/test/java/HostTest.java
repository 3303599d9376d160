/** Promises 35 to 39: the host's SHEETS and what lies where. */
public final class HostTest {
    private static int wrong;

    private static void due(String call, long got, long want) {
        if (got != want) {
            wrong++;
            System.out.println(call + " answered " + got + ", due is " + want);
        }
    }

    public static void main(String[] args) {
        sheetsBecomeRows();
        cellsAreWithin();
        copyRefuses();
        copyMoves();
        walkersComeBySheet();
        walkersByRefuses();
        takenFor();
        whateverIsHandedIn();
        System.out.println(wrong == 0 ? "all answers are as due" : wrong + " answers are not as due");
        if (wrong != 0) {
            System.exit(1);
        }
    }

    private static void sheetsBecomeRows() {
        NineHeaps x = new NineHeaps();
        due("sheet(-1, 0, 1)", x.sheet(-1, 0, 1), -2);
        due("sheet(4, 0, 1)", x.sheet(4, 0, 1), -2);
        due("sheet(0, -2, 1)", x.sheet(0, -2, 1), -2);
        due("sheet(0, 3, 1)", x.sheet(0, 3, 1), -2);
        due("sheet(0, 3, -1)", x.sheet(0, 3, -1), -2);
        due("sheet(0, 0, 41)", x.sheet(0, 0, 41), -2);
        due("sheet(0, 0, -1)", x.sheet(0, 0, -1), -14);
        due("sheet(0, 2, least)", x.sheet(0, 2, Integer.MIN_VALUE), -14);
        due("refused: nothing there", x.cell(0, 0, 0), -11);
        due("sheet(0, 2, 0)", x.sheet(0, 2, 0), 1);
        due("none within", x.cell(0, 0, 0), -12);
        due("sheet(0, 2, 40)", x.sheet(0, 2, 40), 1);
        due("the last", x.cell(0, 39, 7), 1);
        due("behind it", x.cell(0, 40, 7), -12);
        due("sheet(0, -1, 41)", x.sheet(0, -1, 41), 1);
        due("missing", x.cell(0, 0, 0), -11);
        due("sheet(0, -1, -1)", x.sheet(0, -1, -1), 1);
        due("sheet(1, 2, 9)", x.sheet(1, 2, 9), 1);
        for (int h = 0; h < 9; h++) {
            x.cell(1, h, 50);
        }
        due("as told", x.judge(1, 0), -1);
        due("sheet(1, 2, 9)", x.sheet(1, 2, 9), 1);
        due("all 0 again", x.judge(1, 0), 0);
        for (int h = 0; h < 9; h++) {
            x.set(0, h, 0);
        }
        due("all 0", x.judge(1, 0), -1);
    }

    private static void cellsAreWithin() {
        NineHeaps x = new NineHeaps();
        due("cell(-1, 0, 0)", x.cell(-1, 0, 0), -2);
        due("cell(4, 99, 0)", x.cell(4, 99, 0), -2);
        due("cell(2, 99, 0)", x.cell(2, 99, 0), -11);
        x.sheet(2, 1, 3);
        due("cell(2, -1, 0)", x.cell(2, -1, 0), -12);
        due("cell(2, 3, 0)", x.cell(2, 3, 0), -12);
        due("cell(2, most, 0)", x.cell(2, Integer.MAX_VALUE, 0), -12);
        due("cell(2, 2, 0)", x.cell(2, 2, 0), 1);
        due("cell(2, 0, least)", x.cell(2, 0, Integer.MIN_VALUE), 1);
    }

    private static void copyRefuses() {
        NineHeaps x = new NineHeaps();
        x.sheet(0, 2, 5);
        x.sheet(1, 1, 5);
        x.sheet(2, 2, 0);
        due("no sheet", x.copy(-1, 9, 0, 9, -1), -2);
        due("no other sheet", x.copy(3, 9, 4, 9, -1), -2);
        due("missing", x.copy(3, 9, 1, 9, -1), -11);
        due("missing other", x.copy(1, 9, 3, 9, -1), -11);
        due("unlike", x.copy(0, 9, 1, 9, -1), -13);
        due("n below 0", x.copy(0, 0, 0, 0, -1), -12);
        due("n least", x.copy(0, 0, 0, 0, Integer.MIN_VALUE), -12);
        due("i below 0", x.copy(0, -1, 0, 0, 1), -12);
        due("j below 0", x.copy(0, 0, 0, -1, 0), -12);
        due("i too far", x.copy(0, 5, 0, 0, 1), -12);
        due("j too far", x.copy(0, 0, 0, 5, 1), -12);
        due("n too many", x.copy(0, 0, 0, 0, 6), -12);
        due("all wraps", x.copy(0, Integer.MAX_VALUE, 0, 1, Integer.MAX_VALUE), -12);
        due("n 0 at the end", x.copy(0, 5, 0, 5, 0), 0);
        due("n 0, i behind", x.copy(0, 6, 0, 0, 0), -12);
        due("n 0, j behind", x.copy(0, 0, 0, 6, 0), -12);
        due("n 0 of none", x.copy(2, 0, 0, 5, 0), 0);
        due("n 1 of none", x.copy(2, 0, 0, 0, 1), -12);
    }

    /** HEAPS as HIGH as a row is after a copy. */
    private static void row(String name, NineHeaps x, int... high) {
        for (int h = 0; h < 9; h++) {
            x.set(0, h, high[h]);
        }
        due(name, x.judge(0, 0), -1);
    }

    private static void fill(NineHeaps x, int s) {
        for (int i = 0; i < 9; i++) {
            x.cell(s, i, i + 1);
        }
    }

    private static void copyMoves() {
        NineHeaps x = new NineHeaps();
        for (int sort = 0; sort < 3; sort++) {
            x.sheet(0, sort, 9);
            fill(x, 0);
            due("up", x.copy(0, 0, 0, 2, 5), 5);
            row("as they were, up", x, 1, 2, 1, 2, 3, 4, 5, 8, 9);
            fill(x, 0);
            due("down", x.copy(0, 3, 0, 1, 6), 6);
            row("as they were, down", x, 1, 4, 5, 6, 7, 8, 9, 8, 9);
            x.sheet(1, sort, 40);
            x.cell(1, 39, 77);
            due("from another", x.copy(1, 38, 0, 7, 2), 2);
            row("from another", x, 1, 4, 5, 6, 7, 8, 9, 0, 77);
            due("to another", x.copy(0, 0, 1, 31, 9), 9);
            due("all", x.copy(1, 31, 0, 0, 9), 9);
            row("there and back", x, 1, 4, 5, 6, 7, 8, 9, 0, 77);
        }
    }

    private static void walkersComeBySheet() {
        NineHeaps x = new NineHeaps();
        int[] row = {9, 4, 3, 8, 6, 0, 0, 5, 9, 0, 1, 10, 0, 2, 0, 9, 0, 1, 2};
        x.sheet(0, 1, row.length);
        for (int i = 0; i < row.length; i++) {
            x.cell(0, i, row[i]);
        }
        due("none of them", x.walkersBy(0, 1, 1, 0), 0);
        due("four of them: two are left out", x.walkersBy(0, 1, 1, 4), 2);
        due("count(0)", x.count(0), 2);
        int[] told = {4, 3, 8, 5, 9, 0};
        for (int i = 0; i < told.length; i++) {
            due("told " + i, x.told(i / 3, i % 3), told[i]);
        }
        due("the last three", x.walkersBy(0, 1, 16, 1), 1);
        due("told(2, 2)", x.told(2, 2), 2);
        due("what stood ahead came", x.walkersBy(0, 1, 16, 2), -12);
        due("count(0)", x.count(0), 4);
        due("only one has room", x.walkersBy(0, 1, 1, 3), 1);
        due("count(0)", x.count(0), 5);
        due("none has room", x.walkersBy(0, 1, 1, 5), 0);
        due("none has room, one is outside", x.walkersBy(0, 1, 7, 5), -12);
    }

    private static void walkersByRefuses() {
        NineHeaps x = new NineHeaps();
        x.sheet(0, 0, 6);
        due("no sheet", x.walkersBy(4, 0, 0, 1), -2);
        due("no sheet", x.walkersBy(-1, 0, 0, 1), -2);
        due("sort 3", x.walkersBy(0, 3, 0, 1), -2);
        due("sort -1", x.walkersBy(0, -1, 0, 1), -2);
        due("n -1", x.walkersBy(0, 0, 0, -1), -2);
        due("n 6", x.walkersBy(1, 1, 0, 6), -2);
        due("missing", x.walkersBy(1, 0, 9, 1), -11);
        due("other sort", x.walkersBy(0, 1, 9, 1), -13);
        due("outside", x.walkersBy(0, 0, 4, 1), -12);
        due("below", x.walkersBy(0, 0, -1, 1), -12);
        due("far out", x.walkersBy(0, 0, Integer.MAX_VALUE, 5), -12);
        due("far below", x.walkersBy(0, 0, Integer.MIN_VALUE, 5), -12);
        due("nobody came", x.count(0), 0);
        x.sheet(3, 2, 3);
        due("by ints", x.walkersBy(3, 2, 0, 1), 1);
        due("both", x.walkersBy(0, 0, 0, 2), 2);
        due("a byte below 0 is no kind", x.cell(0, 0, 255), 1);
        due("left out", x.walkersBy(0, 0, 0, 2), 1);
        x.cell(0, 0, 256 + 3);
        due("a byte's lowest bits", x.walkersBy(0, 0, 0, 1), 1);
        due("told(4, 0)", x.told(4, 0), 3);
    }

    private static void takenFor() {
        NineHeaps x = new NineHeaps();
        due("nobody", x.taken(9, 0), -11);
        for (int kind = 1; kind < 6; kind++) {
            x.walker(kind, 0, 0);
        }
        String[] areOf = {"0", "01", "02", "013", "024", "05"};
        for (int w = 0; w < 5; w++) {
            for (int kind = 0; kind < 6; kind++) {
                boolean is = areOf[w + 1].indexOf('0' + kind) >= 0;
                due("taken(" + (9 + w) + ", " + kind + ")", x.taken(9 + w, kind), is ? w : -13);
            }
            due("a walker is no heap", x.taken(9 + w, 6), -13);
        }
        x.set(0, 8, 7);
        x.set(0, 3, 0);
        due("taken(8, 6)", x.taken(8, 6), 7);
        due("taken(0, 6)", x.taken(0, 6), 50);
        due("a heap is no walker", x.taken(8, 0), -13);
        due("taken(3, 6)", x.taken(3, 6), -11);
        due("taken(3, 0)", x.taken(3, 0), -11);
        due("taken(14, 6)", x.taken(14, 6), -12);
        due("taken(-1, 6)", x.taken(-1, 6), -12);
        due("taken(14, 7)", x.taken(14, 7), -2);
        due("taken(0, -1)", x.taken(0, -1), -2);
        NineHeaps y = new NineHeaps();
        y.walker(0, 0, 0);
        due("a plain walker", y.taken(9, 0), 0);
        due("a plain walker is no TWO", y.taken(9, 5), -13);
        due("nothing lies there", y.taken(10, 6), -11);
    }

    private static NineHeaps fullObject() {
        NineHeaps x = new NineHeaps();
        for (int w = 0; w < 5; w++) {
            x.walker(w, 9, w);
        }
        for (int s = 0; s < 3; s++) {
            x.sheet(s, s, 9);
        }
        return x;
    }

    /** Every call answers, whatever numbers come, in an object that is as full as can be. */
    private static void whateverIsHandedIn() {
        int[] v = {Integer.MIN_VALUE, -1001, -100, -1, 0, 1, 5, 9, 41, 600, 601, 1000, Integer.MAX_VALUE};
        int sum = 0;
        for (int a : v) {
            NineHeaps y = fullObject();
            sum += y.count(a) + y.force(a) + y.go(a) + y.off(a) + y.best(a) + y.sit(a) + y.worth(a) + y.more(a) + y.stretch(a);
            for (int b : v) {
                NineHeaps x = fullObject();
                sum += x.heap(a, b) + x.begin(a, b) + x.told(a, b) + x.run(a, b) + x.find(a, b) + x.start(a, b);
                sum += x.judge(a, b) + x.when(a, b) + x.laws(a, b) + x.film(a, b) + x.drawn(a, b) + x.taken(a, b);
                for (int c : v) {
                    sum += x.set(a, b, c) + x.asks(a, b, c) + x.walker(a, b, c) + x.one(a, b, c) + x.height(a, b, c);
                    sum += x.sticks(a, b, c) + x.kinds(a, b, c) + x.sheet(a, b, c) + x.cell(a, b, c);
                    sum += x.feed(a, b, c, b, c, a) + x.text() + x.image() + x.back() + x.slowest();
                    sum += (int) x.odds(a, b, c, a) + x.walkersBy(a, b, c, a) + x.copy(a, b, c, a, b);
                }
            }
        }
        due("all answered", sum == Integer.MIN_VALUE ? 0 : 1, 1);
    }
}
