/** Promises 35 to 39 at their edges: SHEETS, and what lies where. */
public final class EdgeHostTest {
    private static final int LEAST = Integer.MIN_VALUE, MOST = Integer.MAX_VALUE;
    private static final int[] NO_SHEETS = {LEAST, -1, 4, MOST};

    private static int wrong;

    private static void due(int promise, String sentence, long got, long want) {
        if (got != want) {
            wrong++;
            System.out.println("promise " + promise + ": " + sentence + ": answered " + got + ", due is " + want);
        }
    }

    public static void main(String[] args) {
        promise35Numbers();
        promise35RowOrMissing();
        promise35AllZero();
        promise36Refusals();
        promise36LowestBits();
        promise36OneCell();
        promise37Sheets();
        promise37Sorts();
        promise37Places();
        promise37NoNumbers();
        promise37AsTheyWere();
        promise37WholeNumbers();
        promise38Refusals();
        promise38Places();
        promise38WhatStoodAheadCame();
        promise38LeftOut();
        promise38Sorts();
        promise39Refusals();
        promise39Heaps();
        promise39Walkers();
        System.out.println(wrong == 0 ? "all answers are as due" : wrong + " answers are not as due");
        if (wrong != 0) {
            System.exit(1);
        }
    }

    private static void tell(NineHeaps x, int s, int sort, int... numbers) {
        x.sheet(s, sort, numbers.length);
        for (int i = 0; i < numbers.length; i++) {
            x.cell(s, i, numbers[i]);
        }
    }

    /** A SHEET of nine numbers holds these: HEAPS as HIGH as they tell are all as told. */
    private static void holds(int promise, String sentence, NineHeaps x, int s, int... numbers) {
        for (int h = 0; h < 9; h++) {
            x.set(0, h, numbers[h]);
        }
        due(promise, sentence, x.judge(s, 0), -1);
    }

    /** How many numbers a SHEET has: the last place that a copy of none may name. */
    private static int length(NineHeaps x, int s) {
        int n = -1;
        while (x.copy(s, n + 1, s, 0, 0) == 0) {
            n++;
        }
        return n;
    }

    // ---- promise 35

    private static void promise35Numbers() {
        NineHeaps x = new NineHeaps();
        int[] noSorts = {LEAST, -2, 3, MOST};
        int[] tooMany = {41, MOST};
        int[] below = {-1, LEAST};
        for (int s : NO_SHEETS) {
            due(35, "BAD: SHEET " + s, x.sheet(s, 0, 1), -2);
            due(35, "BAD: SHEET " + s + ", missing", x.sheet(s, -1, 0), -2);
            due(35, "BAD ahead of -14: SHEET " + s, x.sheet(s, 0, -1), -2);
        }
        for (int sort : noSorts) {
            due(35, "BAD: sort " + sort, x.sheet(0, sort, 1), -2);
            due(35, "BAD ahead of -14: sort " + sort, x.sheet(3, sort, -1), -2);
        }
        for (int sort = 0; sort < 3; sort++) {
            for (int n : tooMany) {
                due(35, "BAD: n " + n + " of sort " + sort, x.sheet(0, sort, n), -2);
            }
            for (int n : below) {
                due(35, "-14: n " + n + " of sort " + sort, x.sheet(0, sort, n), -14);
            }
        }
        for (int s = 0; s < 4; s++) {
            due(35, "refused: missing as it was, " + s, x.cell(s, 0, 0), -11);
        }
        for (int s = 0; s < 4; s++) {
            for (int sort = 0; sort < 3; sort++) {
                due(35, "n 0", x.sheet(s, sort, 0), 1);
                due(35, "no numbers", length(x, s), 0);
                due(35, "n 1", x.sheet(s, sort, 1), 1);
                due(35, "one number", length(x, s), 1);
            }
        }
        for (int sort = 0; sort < 3; sort++) {
            due(35, "n 40 of sort " + sort, x.sheet(sort, sort, 40), 1);
            due(35, "40 numbers", length(x, sort), 40);
        }
    }

    private static void promise35RowOrMissing() {
        NineHeaps x = new NineHeaps();
        int[] any = {LEAST, -1, 0, 40, 41, MOST};
        for (int n : any) {
            x.sheet(2, 1, 9);
            due(35, "sort -1: n " + n + " does not matter", x.sheet(2, -1, n), 1);
            due(35, "missing", x.cell(2, 0, 0), -11);
            due(35, "missing already, n " + n, x.sheet(2, -1, n), 1);
        }
        tell(x, 0, 2, 1, 2, 3, 4, 5, 6, 7, 8, 9);
        due(35, "refused", x.sheet(0, 2, 41), -2);
        due(35, "refused", x.sheet(0, 2, -1), -14);
        due(35, "refused", x.sheet(0, 3, 9), -2);
        holds(35, "refused: the row is as it was", x, 0, 1, 2, 3, 4, 5, 6, 7, 8, 9);
        due(35, "other SHEETS stay", x.sheet(1, 0, 9), 1);
        holds(35, "other SHEETS stay", x, 0, 1, 2, 3, 4, 5, 6, 7, 8, 9);
    }

    private static void promise35AllZero() {
        NineHeaps x = new NineHeaps();
        for (int sort = 0; sort < 3; sort++) {
            tell(x, 0, sort, 1, 2, 3, 4, 5, 6, 7, 8, 9);
            due(35, "a row anew", x.sheet(0, sort, 9), 1);
            holds(35, "all 0, sort " + sort, x, 0, 0, 0, 0, 0, 0, 0, 0, 0, 0);
            tell(x, 0, sort, 1, 2, 3, 4, 5, 6, 7, 8, 9);
            x.sheet(0, -1, 0);
            x.sheet(0, (sort + 1) % 3, 9);
            holds(35, "all 0, of another sort", x, 0, 0, 0, 0, 0, 0, 0, 0, 0, 0);
            tell(x, 0, sort, 1, 2, 3, 4, 5, 6, 7, 8, 9);
            x.sheet(0, sort, 3);
            x.sheet(0, sort, 9);
            holds(35, "all 0, longer again", x, 0, 0, 0, 0, 0, 0, 0, 0, 0, 0);
        }
    }

    // ---- promise 36

    private static void promise36Refusals() {
        NineHeaps x = new NineHeaps();
        for (int s : NO_SHEETS) {
            due(36, "BAD: SHEET " + s, x.cell(s, 0, 0), -2);
            due(36, "BAD ahead of -12: SHEET " + s, x.cell(s, 99, 0), -2);
        }
        for (int s = 0; s < 4; s++) {
            due(36, "-11: missing, " + s, x.cell(s, 0, 0), -11);
            due(36, "-11 ahead of -12", x.cell(s, 99, 0), -11);
        }
        int[] lengths = {0, 1, 9, 39, 40};
        for (int n : lengths) {
            for (int sort = 0; sort < 3; sort++) {
                x.sheet(3, sort, n);
                int[] outside = {LEAST, -1, n, n + 1, 40, 41, MOST};
                for (int i : outside) {
                    due(36, "-12: place " + i + " of " + n, x.cell(3, i, 0), -12);
                }
                if (n > 0) {
                    due(36, "the first place", x.cell(3, 0, LEAST), 1);
                    due(36, "the last place", x.cell(3, n - 1, MOST), 1);
                }
            }
        }
    }

    private static void promise36LowestBits() {
        NineHeaps x = new NineHeaps();
        tell(x, 0, 0, 256 + 1, -256 + 2, 65536 + 3, LEAST + 4, 127, 0x7f05, -250, 512, -1024);
        holds(36, "bytes: the lowest 8 bits", x, 0, 1, 2, 3, 4, 127, 5, 6, 0, 0);
        tell(x, 1, 1, 65536 + 1, -65536 + 2, LEAST + 3, 200, 0x7fff0004, -65531, 131072, -131072, 199);
        holds(36, "shorts: the lowest 16 bits", x, 1, 1, 2, 3, 200, 4, 5, 0, 0, 199);
        tell(x, 2, 2, 0, 1, 2, 3, 4, 5, 6, 7, 200);
        holds(36, "ints", x, 2, 0, 1, 2, 3, 4, 5, 6, 7, 200);
        x.cell(1, 0, 256 + 1);
        holds(36, "shorts have more than 8 bits", x, 2, 0, 1, 2, 3, 4, 5, 6, 7, 200);
        int[] others = {256, -256, 65536, -65536, LEAST};
        for (int more : others) {
            x.cell(2, 0, more);
            due(36, "ints have all bits, 0 and " + more, x.judge(2, 0), 0);
        }
        x.set(0, 0, 1);
        due(36, "shorts: 257 is not 1", x.judge(1, 0), 0);
        x.cell(1, 0, -256 + 1);
        due(36, "shorts: -255 is not 1", x.judge(1, 0), 0);
    }

    private static void promise36OneCell() {
        NineHeaps x = new NineHeaps();
        for (int sort = 0; sort < 3; sort++) {
            tell(x, 0, sort, 10, 11, 12, 13, 14, 15, 16, 17, 18);
            tell(x, 1, sort, 10, 11, 12, 13, 14, 15, 16, 17, 18);
            for (int i = 0; i < 9; i++) {
                int[] due = {10, 11, 12, 13, 14, 15, 16, 17, 18};
                due[i] = 100;
                due(36, "it becomes v", x.cell(0, i, 100), 1);
                holds(36, "number " + i + " alone", x, 0, due);
                x.cell(0, i, 10 + i);
            }
            due(36, "refused", x.cell(0, 9, 99), -12);
            holds(36, "refused: as it was", x, 0, 10, 11, 12, 13, 14, 15, 16, 17, 18);
            holds(36, "another SHEET stays", x, 1, 10, 11, 12, 13, 14, 15, 16, 17, 18);
        }
    }

    // ---- promise 37

    private static void promise37Sheets() {
        NineHeaps x = new NineHeaps();
        x.sheet(0, 1, 9);
        x.sheet(3, 1, 9);
        for (int s : NO_SHEETS) {
            due(37, "BAD: SHEET " + s, x.copy(s, 0, 0, 0, 1), -2);
            due(37, "BAD: other " + s, x.copy(0, 0, s, 0, 1), -2);
            due(37, "BAD ahead of -11, SHEET " + s, x.copy(s, 0, 1, 0, 1), -2);
            due(37, "BAD ahead of -11, other " + s, x.copy(1, 0, s, 0, 1), -2);
            due(37, "BAD ahead of -12", x.copy(s, 99, 0, 99, -1), -2);
            due(37, "BAD ahead of -12", x.copy(0, 99, s, 99, -1), -2);
        }
        due(37, "-11: missing", x.copy(1, 0, 0, 0, 1), -11);
        due(37, "-11: the other one missing", x.copy(0, 0, 1, 0, 1), -11);
        due(37, "-11: both missing", x.copy(1, 0, 2, 0, 1), -11);
        due(37, "-11: its own, missing", x.copy(2, 0, 2, 0, 0), -11);
        due(37, "-11 ahead of -12", x.copy(1, 99, 0, 99, -1), -11);
        due(37, "-11 ahead of -12", x.copy(0, 99, 1, 99, -1), -11);
        due(37, "the first to the last", x.copy(0, 0, 3, 0, 9), 9);
        due(37, "the last to the first", x.copy(3, 0, 0, 0, 9), 9);
    }

    private static void promise37Sorts() {
        NineHeaps x = new NineHeaps();
        for (int sort = 0; sort < 3; sort++) {
            for (int other = 0; other < 3; other++) {
                x.sheet(0, sort, 9);
                x.sheet(1, other, 9);
                due(37, "sorts " + sort + ", " + other, x.copy(0, 0, 1, 0, 9), sort == other ? 9 : -13);
                due(37, "-13 for none, too", x.copy(0, 0, 1, 0, 0), sort == other ? 0 : -13);
                due(37, "-13 ahead of -12", x.copy(0, 9, 1, 9, 1), sort == other ? -12 : -13);
                due(37, "-13 ahead of -12", x.copy(0, 0, 1, 0, -1), sort == other ? -12 : -13);
                x.sheet(1, -1, 0);
                due(37, "-11 ahead of -13", x.copy(0, 0, 1, 0, 1), -11);
            }
        }
    }

    private static void promise37Places() {
        NineHeaps x = new NineHeaps();
        tell(x, 0, 1, 1, 2, 3, 4, 5);
        tell(x, 1, 1, 11, 12, 13, 14, 15, 16, 17, 18, 19);
        int[] outside = {LEAST, -1, 6, MOST};
        for (int i : outside) {
            due(37, "-12: i " + i, x.copy(0, i, 1, 0, 1), -12);
            due(37, "-12: j " + i, x.copy(1, 0, 0, i, 1), -12);
        }
        int[] noNumbers = {LEAST, -1, 6, 10, MOST};
        for (int n : noNumbers) {
            due(37, "-12: n " + n, x.copy(0, 0, 1, 0, n), -12);
            due(37, "-12: n " + n, x.copy(1, 0, 0, 0, n), -12);
        }
        due(37, "-12: one from behind the last", x.copy(0, 5, 1, 0, 1), -12);
        due(37, "-12: one to behind the last", x.copy(1, 0, 0, 5, 1), -12);
        due(37, "-12: from the last, two", x.copy(0, 4, 1, 0, 2), -12);
        due(37, "-12: to the last, two", x.copy(1, 0, 0, 4, 2), -12);
        due(37, "-12: 10 of its own 9", x.copy(1, 0, 1, 0, 10), -12);
        due(37, "-12: i and n wrap", x.copy(1, MOST, 1, 0, MOST), -12);
        due(37, "-12: j and n wrap", x.copy(1, 1, 1, MOST, MOST), -12);
        due(37, "-12: i and n wrap to 0", x.copy(1, MOST, 1, 0, 2), -12);
        holds(37, "refused: nothing came", x, 1, 11, 12, 13, 14, 15, 16, 17, 18, 19);
        due(37, "the last to the last", x.copy(0, 4, 1, 8, 1), 1);
        holds(37, "the last came", x, 1, 11, 12, 13, 14, 15, 16, 17, 18, 5);
        due(37, "the first to the first", x.copy(0, 0, 1, 0, 1), 1);
        holds(37, "the first came", x, 1, 1, 12, 13, 14, 15, 16, 17, 18, 5);
        due(37, "all to the end", x.copy(0, 0, 1, 4, 5), 5);
        holds(37, "all came", x, 1, 1, 12, 13, 14, 1, 2, 3, 4, 5);
        due(37, "from the end", x.copy(1, 4, 0, 0, 5), 5);
        due(37, "as many as it had", length(x, 0), 5);
    }

    private static void promise37NoNumbers() {
        NineHeaps x = new NineHeaps();
        tell(x, 0, 0, 1, 2, 3, 4, 5, 6, 7, 8, 9);
        x.sheet(1, 0, 4);
        x.sheet(2, 0, 0);
        due(37, "none, from the first", x.copy(0, 0, 1, 0, 0), 0);
        due(37, "none, i is how many there are", x.copy(0, 9, 1, 0, 0), 0);
        due(37, "none, j is how many there are", x.copy(0, 0, 1, 4, 0), 0);
        due(37, "-12: none, i is above", x.copy(0, 10, 1, 0, 0), -12);
        due(37, "-12: none, j is above", x.copy(0, 0, 1, 5, 0), -12);
        due(37, "-12: none, i far above", x.copy(0, MOST, 1, 0, 0), -12);
        due(37, "-12: none, j far above", x.copy(0, 0, 1, MOST, 0), -12);
        due(37, "-12: none, i below 0", x.copy(0, -1, 1, 0, 0), -12);
        due(37, "-12: none, j below 0", x.copy(0, 0, 1, -1, 0), -12);
        due(37, "none of none", x.copy(2, 0, 2, 0, 0), 0);
        due(37, "-12: none of none, i is above", x.copy(2, 1, 2, 0, 0), -12);
        due(37, "-12: one of none", x.copy(2, 0, 1, 0, 1), -12);
        due(37, "-12: one to none", x.copy(1, 0, 2, 0, 1), -12);
        holds(37, "nothing came", x, 0, 1, 2, 3, 4, 5, 6, 7, 8, 9);
    }

    /** Each piece of a row to each place of it: as they were, also where they lie over one another. */
    private static void promise37AsTheyWere() {
        for (int sort = 0; sort < 3; sort++) {
            for (int n = 0; n <= 9; n++) {
                NineHeaps x = new NineHeaps();
                for (int i = 0; i + n <= 9 && i < 3; i++) {
                    for (int j = 0; j + n <= 9 && j < 3; j++) {
                        tell(x, 0, sort, 1, 2, 3, 4, 5, 6, 7, 8, 9);
                        int[] due = {1, 2, 3, 4, 5, 6, 7, 8, 9};
                        for (int k = 0; k < n; k++) {
                            due[j + k] = i + k + 1;
                        }
                        due(37, "its own place " + j + " from " + i, x.copy(0, i, 0, j, n), n);
                        holds(37, "as they were, " + n + " from " + i + " to " + j, x, 0, due);
                    }
                }
            }
        }
    }

    private static void promise37WholeNumbers() {
        NineHeaps x = new NineHeaps();
        tell(x, 0, 2, 0, 0, 0, 0, 0, 0, 0, 0, 65536);
        x.sheet(1, 2, 9);
        x.copy(0, 0, 1, 0, 9);
        for (int h = 0; h < 9; h++) {
            x.set(0, h, 0);
        }
        due(37, "an int comes whole", x.judge(1, 0), 8);
        due(37, "what was copied stays", x.judge(0, 0), 8);
        x.cell(0, 8, 0);
        due(37, "apart from one another then", x.judge(1, 0), 8);
        due(37, "apart from one another then", x.judge(0, 0), -1);
    }

    // ---- promise 38

    private static void promise38Refusals() {
        NineHeaps x = new NineHeaps();
        x.sheet(0, 1, 15);
        int[] noSorts = {LEAST, -1, 3, MOST};
        int[] noNumbers = {LEAST, -1, 6, MOST};
        for (int s : NO_SHEETS) {
            due(38, "BAD: SHEET " + s, x.walkersBy(s, 1, 0, 1), -2);
        }
        for (int sort : noSorts) {
            due(38, "BAD: sort " + sort, x.walkersBy(0, sort, 0, 1), -2);
            due(38, "BAD ahead of -11: sort " + sort, x.walkersBy(1, sort, 0, 1), -2);
        }
        for (int n : noNumbers) {
            due(38, "BAD: n " + n, x.walkersBy(0, 1, 0, n), -2);
            due(38, "BAD ahead of -11: n " + n, x.walkersBy(1, 1, 0, n), -2);
            due(38, "BAD ahead of -13: n " + n, x.walkersBy(0, 2, 0, n), -2);
        }
        for (int s = 1; s < 4; s++) {
            due(38, "-11: missing, " + s, x.walkersBy(s, 1, 0, 1), -11);
            due(38, "-11 ahead of -12", x.walkersBy(s, 1, 99, 1), -11);
        }
        due(38, "-13: shorts are no bytes", x.walkersBy(0, 0, 0, 1), -13);
        due(38, "-13: shorts are no ints", x.walkersBy(0, 2, 0, 1), -13);
        due(38, "-13 ahead of -12", x.walkersBy(0, 2, 99, 1), -13);
        due(38, "-13 for none, too", x.walkersBy(0, 2, 0, 0), -13);
        due(38, "refused: nobody came", x.count(0), 0);
        due(38, "n 0", x.walkersBy(0, 1, 0, 0), 0);
        due(38, "nobody came", x.count(0), 0);
        due(38, "n 5", x.walkersBy(0, 1, 0, 5), 5);
        due(38, "all came", x.count(0), 5);
    }

    private static void promise38Places() {
        int[] outside = {LEAST, -3, -1, 7, 8, 9, 10, 40, MOST - 2, MOST};
        for (int at : outside) {
            NineHeaps x = new NineHeaps();
            x.sheet(0, 2, 9);
            for (int n = 1; n <= 5; n++) {
                due(38, "-12: from " + at + ", n " + n, x.walkersBy(0, 2, at, n), -12);
            }
            due(38, "nobody came", x.count(0), 0);
        }
        for (int at = 0; at <= 6; at++) {
            NineHeaps x = new NineHeaps();
            tell(x, 0, 2, 0, 1, 2, 3, 4, 5, 5, 4, 3);
            int[] row = {0, 1, 2, 3, 4, 5, 5, 4, 3};
            due(38, "within, from " + at, x.walkersBy(0, 2, at, 1), 1);
            for (int what = 0; what < 3; what++) {
                due(38, "KIND, MORE, FROM as of walker()", x.told(0, what), row[at + what]);
            }
        }
        NineHeaps y = new NineHeaps();
        y.sheet(0, 0, 40);
        due(38, "the last three of 40", y.walkersBy(0, 0, 37, 1), 1);
        due(38, "-12: one behind", y.walkersBy(0, 0, 38, 1), -12);
        due(38, "1 has come", y.count(0), 1);
        y.sheet(1, 0, 2);
        due(38, "-12: two are too few", y.walkersBy(1, 0, 0, 1), -12);
        y.sheet(1, 0, 0);
        due(38, "-12: none are too few", y.walkersBy(1, 0, 0, 1), -12);
        due(38, "none of none", y.walkersBy(1, 0, 0, 0), 0);
    }

    private static void promise38WhatStoodAheadCame() {
        int[] lengths = {3, 4, 5, 6, 8, 9, 12, 14};
        for (int length : lengths) {
            NineHeaps x = new NineHeaps();
            x.sheet(0, 1, length);
            due(38, "-12: " + length + " are too few for 5", x.walkersBy(0, 1, 0, 5), -12);
            due(38, "what stood ahead came", x.count(0), length / 3);
        }
        NineHeaps y = new NineHeaps();
        tell(y, 0, 1, 5, 5, 5, 9, 9, 9, 4, 4, 4, 1);
        due(38, "-12, one being left out ahead", y.walkersBy(0, 1, 0, 4), -12);
        due(38, "what stood ahead came", y.count(0), 2);
        due(38, "what stood ahead came", y.told(1, 0), 4);
        due(38, "-12, from 1 on", y.walkersBy(0, 1, 1, 4), -12);
        due(38, "others are left out", y.count(0), 3);
        due(38, "what stood ahead came", y.told(2, 2), 1);
    }

    private static void promise38LeftOut() {
        int[][] no = {{-1, 0, 0}, {6, 0, 0}, {0, -1, 0}, {0, 10, 0}, {0, 0, -1}, {0, 0, 9}};
        for (int[] three : no) {
            NineHeaps x = new NineHeaps();
            tell(x, 0, 2, 0, 0, 0, three[0], three[1], three[2], 5, 9, 8);
            due(38, "one is left out", x.walkersBy(0, 2, 0, 3), 2);
            due(38, "two came", x.count(0), 2);
            due(38, "the one behind came", x.told(1, 0), 5);
            due(38, "the one behind came", x.told(1, 1), 9);
            due(38, "the one behind came", x.told(1, 2), 8);
            due(38, "none came", x.walkersBy(0, 2, 3, 1), 0);
        }
        for (int there = 0; there <= 5; there++) {
            NineHeaps x = new NineHeaps();
            for (int w = 0; w < there; w++) {
                x.walker(1, 1, 1);
            }
            x.sheet(0, 0, 15);
            due(38, "as many as have room", x.walkersBy(0, 0, 0, 5), 5 - there);
            due(38, "5 are there", x.count(0), 5);
            due(38, "none has room", x.walkersBy(0, 0, 0, 5), 0);
        }
    }

    private static void promise38Sorts() {
        for (int sort = 0; sort < 3; sort++) {
            for (int as = 0; as < 3; as++) {
                NineHeaps x = new NineHeaps();
                tell(x, 3, sort, 5, 9, 8);
                due(38, "a SHEET of sort " + sort + " as of " + as, x.walkersBy(3, as, 0, 1), sort == as ? 1 : -13);
            }
        }
        NineHeaps y = new NineHeaps();
        tell(y, 0, 2, 65536, 0, 0);
        tell(y, 1, 1, 65536, 0, 0);
        tell(y, 2, 0, 256, 0, 0);
        due(38, "an int far out is no KIND", y.walkersBy(0, 2, 0, 1), 0);
        due(38, "in shorts it is 0", y.walkersBy(1, 1, 0, 1), 1);
        due(38, "in bytes 256 is 0", y.walkersBy(2, 0, 0, 1), 1);
    }

    // ---- promise 39

    private static void promise39Refusals() {
        NineHeaps x = new NineHeaps();
        x.walker(0, 0, 0);
        int[] noKinds = {LEAST, -1, 7, MOST};
        int[] outside = {LEAST, -1, 14, MOST};
        int[] places = {0, 8, 9, 10, 13, 14, -1};
        for (int kind : noKinds) {
            for (int i : places) {
                due(39, "BAD ahead of all: kind " + kind + ", place " + i, x.taken(i, kind), -2);
            }
        }
        for (int i : outside) {
            for (int kind = 0; kind <= 6; kind++) {
                due(39, "-12: place " + i, x.taken(i, kind), -12);
            }
        }
        for (int i = 10; i < 14; i++) {
            for (int kind = 0; kind <= 6; kind++) {
                due(39, "-11: nobody there yet, place " + i, x.taken(i, kind), -11);
            }
        }
    }

    private static void promise39Heaps() {
        NineHeaps x = new NineHeaps();
        int[] high = {1, 200, 0, 50, 7, 0, 99, 2, 3};
        for (int h = 0; h < 9; h++) {
            x.set(0, h, high[h]);
            due(39, "a HEAP: how HIGH, " + h, x.taken(h, 6), high[h] == 0 ? -11 : high[h]);
            for (int kind = 0; kind < 6; kind++) {
                due(39, "a HEAP is no WALKER, " + h, x.taken(h, kind), high[h] == 0 ? -11 : -13);
            }
        }
        x.walker(0, 0, 0);
        x.go(3);
        due(39, "0 HIGH since: -11", x.taken(0, 6), -11);
    }

    private static void promise39Walkers() {
        String[] areOf = {"0", "01", "02", "013", "024", "05"};
        for (int kind = 0; kind < 6; kind++) {
            NineHeaps x = new NineHeaps();
            for (int w = 0; w < 5; w++) {
                due(39, "-11: nobody there yet", x.taken(9 + w, kind), -11);
                x.walker(kind, 0, 0);
                for (int as = 0; as < 6; as++) {
                    boolean is = areOf[kind].indexOf('0' + as) >= 0;
                    due(39, "KIND " + kind + " taken for " + as, x.taken(9 + w, as), is ? w : -13);
                }
                due(39, "a WALKER is no HEAP", x.taken(9 + w, 6), -13);
            }
            due(39, "-12: behind the last one", x.taken(14, kind), -12);
        }
    }
}
