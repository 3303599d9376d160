/** Promises 1 to 8: the heaps, THE TAPE, the TEXTS. */
public final class LawTest {
    private static int wrong;

    private static void due(String call, long got, long want) {
        if (got != want) {
            wrong++;
            System.out.println(call + " answered " + got + ", due is " + want);
        }
    }

    public static void main(String[] args) {
        aNewObject();
        countTells();
        setAndHeap();
        feedFillsTheTape();
        textReads();
        textFaults();
        textNests();
        textIsFull();
        forceChangesTheLaw();
        asksBoundsAndNames();
        asksSigns();
        asksRefuses();
        System.out.println(wrong == 0 ? "all answers are as due" : wrong + " answers are not as due");
        if (wrong != 0) {
            System.exit(1);
        }
    }

    private static void feedAll(NineHeaps x, String text) {
        for (int i = 0; i < text.length(); i++) {
            x.feed(1, text.charAt(i), 0, 0, 0, 0);
        }
    }

    private static int textOf(NineHeaps x, String text) {
        feedAll(x, text);
        return x.text();
    }

    private static NineHeaps withLaw(String text) {
        NineHeaps x = new NineHeaps();
        x.walker(0, 0, 0);
        x.walker(1, 7, 3);
        x.force(textOf(x, text));
        due("law " + text, x.count(3), 1);
        return x;
    }

    private static void fault(String text, int place) {
        NineHeaps x = new NineHeaps();
        due("text of <" + text + ">", textOf(x, text), -100 - place);
        due("the tape behind <" + text + ">", x.count(4), 0);
        due("texts behind <" + text + ">", x.count(2), 1);
    }

    /** A FAULT within the first E. */
    private static void faultInE(String e, int place) {
        fault("takes " + e, 6 + place);
    }

    private static void says(String e, int value) {
        NineHeaps x = withLaw("takes 1;steps 1;minds 50 + (" + e + ");");
        due("asks " + e, x.asks(2, 0, 0), Math.max(0, Math.min(99, 50 + value)));
    }

    private static void aNewObject() {
        NineHeaps x = new NineHeaps();
        int[] counts = {0, 20, 1, 0, 0};
        for (int what = 0; what < counts.length; what++) {
            due("new: count(" + what + ")", x.count(what), counts[what]);
        }
        for (int h = 0; h < 9; h++) {
            due("new: heap(" + h + ", 0)", x.heap(h, 0), 50);
            due("new: heap(" + h + ", 1)", x.heap(h, 1), 0);
        }
        due("new: back()", x.back(), NineHeaps.STATE);
        due("new: cell", x.cell(3, 0, 0), -11);
        due("new: NONE", NineHeaps.NONE, -1);
        due("new: BAD", NineHeaps.BAD, -2);
        due("new: STATE", NineHeaps.STATE, -3);
        due("new: FULL", NineHeaps.FULL, -4);
        due("new: NO", NineHeaps.NO, -(1L << 62));
    }

    private static void countTells() {
        NineHeaps x = new NineHeaps();
        x.walker(0, 0, 0);
        x.set(2, 0, 33);
        x.force(textOf(x, "takes 1;steps 1;minds 1;"));
        x.feed(3, 1, 2, 3, 4, 5);
        int[] counts = {1, 33, 2, 1, 3};
        for (int what = 0; what < counts.length; what++) {
            due("count(" + what + ")", x.count(what), counts[what]);
        }
        due("count(-1)", x.count(-1), -2);
        due("count(5)", x.count(5), -2);
    }

    private static void setAndHeap() {
        NineHeaps x = new NineHeaps();
        due("set(0, 8, 200)", x.set(0, 8, 200), 50);
        due("set(0, 8, 0)", x.set(0, 8, 0), 200);
        due("heap(8, 0)", x.heap(8, 0), 0);
        due("heap(7, 0)", x.heap(7, 0), 50);
        due("set(1, 0, 9)", x.set(1, 0, 9), 0);
        due("set(1, 0, 0)", x.set(1, 0, 0), 9);
        due("set(1, 2, 4)", x.set(1, 2, 4), 0);
        due("heap(2, 1)", x.heap(2, 1), 4);
        due("set(2, -77, 1)", x.set(2, -77, 1), 20);
        due("set(2, 99, 200)", x.set(2, 99, 200), 1);
        due("set(2, 0, 201)", x.set(2, 0, 201), -7);
        due("set(2, 0, 0)", x.set(2, 0, 0), -7);
        due("set(-1, 9, 999)", x.set(-1, 9, 999), -5);
        due("set(3, 0, 0)", x.set(3, 0, 0), -5);
        due("set(0, 9, 201)", x.set(0, 9, 201), -6);
        due("set(1, -1, 10)", x.set(1, -1, 10), -6);
        due("set(0, 0, 201)", x.set(0, 0, 201), -7);
        due("set(0, 0, -1)", x.set(0, 0, -1), -7);
        due("set(1, 0, 10)", x.set(1, 0, 10), -7);
        due("set(1, 0, -1)", x.set(1, 0, -1), -7);
        due("count(1)", x.count(1), 200);
        due("heap(0, 0)", x.heap(0, 0), 50);
        due("heap(9, 2)", x.heap(9, 2), -6);
        due("heap(-1, 0)", x.heap(-1, 0), -6);
        due("heap(0, 2)", x.heap(0, 2), -7);
        due("heap(0, -1)", x.heap(0, -1), -7);
    }

    private static void feedFillsTheTape() {
        NineHeaps x = new NineHeaps();
        due("feed(0, ..)", x.feed(0, 1, 1, 1, 1, 1), -2);
        due("feed(6, ..)", x.feed(6, 1, 1, 1, 1, 1), -2);
        due("feed(1, -1, ..)", x.feed(1, -1, 1, 1, 1, 1), -2);
        due("feed(1, .., 256)", x.feed(1, 1, 1, 1, 1, 256), -2);
        due("feed(1, .., 256, ..)", x.feed(1, 1, 256, 1, 1, 1), -2);
        due("feed(1, .., -1, ..)", x.feed(1, 1, 1, -1, 1, 1), -2);
        due("feed(1, .., -1, ..)", x.feed(1, 1, 1, 1, -1, 1), -2);
        due("count(4)", x.count(4), 0);
        due("feed(5, ..)", x.feed(5, 0, 255, 0, 0, 0), 5);
        due("feed(4, ..)", x.feed(4, 0, 0, 0, 0, 0), 9);
        due("feed(2, ..)", x.feed(2, 0, 0, 0, 0, 0), 11);
        due("feed(3, ..)", x.feed(3, 0, 0, 0, 0, 0), 14);
        for (int n = 15; n <= 158; n++) {
            due("feed(1, ..)", x.feed(1, 'a', 0, 0, 0, 0), n);
        }
        due("feed(3, ..)", x.feed(3, 0, 0, 0, 0, 0), -4);
        due("feed(6, ..) when full", x.feed(6, 0, 0, 0, 0, 0), -2);
        due("count(4)", x.count(4), 158);
        due("feed(2, ..)", x.feed(2, 0, 0, 0, 0, 0), 160);
        due("feed(1, ..)", x.feed(1, 0, 0, 0, 0, 0), -4);
        due("text()", x.text(), -100);
        due("count(4)", x.count(4), 0);
        x.feed(5, 't', 'a', 'k', 'e', 's');
        x.feed(5, '3', ';', 's', 't', 'e');
        x.feed(5, 'p', 's', '4', ';', 'm');
        x.feed(4, 'i', 'n', 'd', 's', 'x');
        x.feed(2, '5', ';', 'x', 'x', 'x');
        x.walker(0, 0, 0);
        due("text()", x.text(), 1);
        due("force(1)", x.force(1), 0);
        due("asks(0)", x.asks(0, 0, 0), 3);
        due("asks(1)", x.asks(1, 0, 0), 4);
        due("asks(2)", x.asks(2, 0, 0), 5);
    }

    private static void textReads() {
        NineHeaps x = new NineHeaps();
        due("plain", textOf(x, "takes 2 ; steps 1 ; minds 1 ;"), 1);
        due("count(2)", x.count(2), 2);
        due("count(4)", x.count(4), 0);
        due("count(3)", x.count(3), 0);
        due("no blanks", textOf(x, "takes2;steps1;minds1;"), 2);
        due("blanks at both ends", textOf(x, " \n takes\n2 ;steps 1 ; minds 0001;\n \n"), 3);
        due("another behind a fault", textOf(x, "takes"), -105);
        due("another behind a fault", textOf(x, "takes heap;steps many;minds done;"), 4);
        due("160 bytes", textOf(x, "takes 2;steps 1;minds 1" + "+1".repeat(68) + ";"), 5);
        due("count(2)", x.count(2), 6);
        x.walker(0, 0, 0);
        x.force(5);
        due("asks of 160 bytes", x.asks(2, 0, 0), 69);
    }

    private static void textFaults() {
        fault("", 0);
        fault("  ", 2);
        fault("takes 2 ; steps 1 ; minds 1", 27);
        fault("takes 2 ; steps 1 ; minds 1  ", 29);
        fault("takes 2 ; steps 1 ; minds 1 ; ;", 30);
        fault("takes 2 ; steps 1 ; minds 1 ; takes", 30);
        fault("steps 2 ;", 0);
        fault(" minds 2 ;", 1);
        fault("takes 2 ; minds 1 ;", 10);
        fault("takes 2 ; steps 1 ; steps 1 ;", 20);
        fault("takes2;stepss1;", 7);
        fault("takesheap;", 0);
        fault("take s", 0);
        fault("Takes", 0);
        fault("takes 2 ; steps 1 ; minds 1 ;\t", 29);
        fault("takes 2 ; steps 1 ; minds 1 ;\0", 29);
        faultInE("", 0);
        faultInE(";", 0);
        faultInE("12345 ;", 0);
        faultInE("00001 ;", 0);
        faultInE("1 2", 2);
        faultInE("1 12345", 2);
        faultInE("1 $ 12345", 2);
        faultInE("1 heap", 2);
        faultInE("heaps", 0);
        faultInE("1 + ", 4);
        faultInE("1 + * 2", 4);
        faultInE("1 + takes", 4);
        faultInE("1 + not 1", 4);
        faultInE("- not 1", 2);
        faultInE("1 < not 1", 4);
        faultInE("1 < 2 < 3", 6);
        faultInE("1 = 2 = 3", 6);
        faultInE("1 < 2 = 3", 6);
        faultInE("1 < = 3", 4);
        faultInE("1 and", 5);
        faultInE("1 and or", 6);
        faultInE("or 1", 0);
        faultInE("not", 3);
        faultInE("1 not 2", 2);
        faultInE("( 1 ;", 4);
        faultInE("( 1 ) )", 6);
        faultInE("1 )", 2);
        faultInE("()", 1);
        faultInE("( 1", 3);
        faultInE("+ 1", 0);
        faultInE("1 / 2", 2);
        faultInE("1 > 2", 2);
        faultInE("1 \u00ff", 2);
        faultInE("(1 < 2) < 3 < 4", 12);
        faultInE("1;steps((1)", 11);
        String[] nearly = {"end", "er", "got", "orz", "andz", "nots"};
        for (String word : nearly) {
            faultInE("1 " + word + " 1", 2);
        }
        String[] nearNames = {"leap", "talker", "core", "jeft", "gone", "zany", "hea", "lefts", "walkers"};
        for (String word : nearNames) {
            faultInE("1 + " + word, 4);
        }
        fault("bakes 1;", 0);
        fault("takes 1;stops 1;", 8);
        fault("takes 1;steps 1;finds 1;", 16);
    }

    private static void textNests() {
        says("((((1))))", 1);
        fault("takes ((((((1))))));", 11);
        faultInE("(((((not 1)))))", 5);
        faultInE("(((((-1)))))", 5);
        faultInE("not not not not not not 1", 20);
        faultInE("not not not not not - 1", 20);
        faultInE("not not not not not (1)", 20);
        faultInE("------1", 5);
        faultInE("-----(1)", 5);
        faultInE("1 -------1", 8);
        faultInE("not(not(-(-1))) + 1", 9);
        faultInE("(((((", 5);
        faultInE("((((((", 5);
        faultInE("not 1 < (((((2)))))", 12);
        faultInE("not 1 and (((((2))))) or (((((-2)))))", 30);
        NineHeaps x = new NineHeaps();
        due("five (", textOf(x, "takes(((((1)))))*(((((1)))));steps 1;minds 1;"), 1);
        due("five not", textOf(x, "takes not not not not not 1 and not not not not not 1;steps 1;minds 1;"), 2);
        due("five -", textOf(x, "takes-----1*-----1+-(---1);steps 1;minds 1;"), 3);
        due("not, and ( behind", textOf(x, "takes not 1<2 and(((((2)))));steps 1;minds 1;"), 4);
        String deepest = "0or 1and 0<0+1*(";
        due("all signs open", textOf(x, "takes 1;steps 1;minds " + deepest.repeat(5) + "0or 1and 0<0+1*1" + ")))))" + ";"), 5);
        x.walker(0, 0, 0);
        x.force(5);
        due("asks of all signs open", x.asks(2, 0, 0), 1);
        x.force(3);
        due("asks of five -", x.asks(0, 0, 0), 2);
        x.force(2);
        due("asks of five not", x.asks(0, 0, 0), 1);
    }

    private static void textIsFull() {
        NineHeaps x = new NineHeaps();
        for (int t = 1; t < 6; t++) {
            due("text " + t, textOf(x, "takes " + t + ";steps 1;minds 1;"), t);
        }
        due("text 6", textOf(x, "takes 1;steps 1;minds 1;"), -4);
        due("count(2)", x.count(2), 6);
        due("count(4)", x.count(4), 24);
        due("text with a fault", textOf(x, "?"), -4);
        due("count(4)", x.count(4), 25);
        x.walker(0, 0, 0);
        for (int t = 0; t < 6; t++) {
            x.force(t);
            due("asks of " + t, x.asks(0, 0, 0), t == 0 ? 2 : t);
        }
    }

    private static void forceChangesTheLaw() {
        NineHeaps x = new NineHeaps();
        due("force(1)", x.force(1), -2);
        due("force(-1)", x.force(-1), -2);
        due("force(0)", x.force(0), 0);
        textOf(x, "takes 9;steps 1;minds 1;");
        due("force(1)", x.force(1), 0);
        due("force(1)", x.force(1), 1);
        due("force(2)", x.force(2), -2);
        due("count(3)", x.count(3), 1);
        due("force(0)", x.force(0), 1);
    }

    private static void asksBoundsAndNames() {
        NineHeaps x = withLaw("takes 0-5 ; steps 9999*9 ; minds 0-1 ;");
        due("takes at least", x.asks(0, 0, 0), 1);
        due("steps at most", x.asks(1, 0, 0), 20);
        due("minds at least", x.asks(2, 0, 0), 0);
        x = withLaw("takes 20 ; steps 0 ; minds 99+1 ;");
        due("takes", x.asks(0, 0, 0), 20);
        due("steps at least", x.asks(1, 0, 0), 1);
        due("minds at most", x.asks(2, 0, 0), 99);
        x = withLaw("takes heap+1 ; steps many*walker+more ; minds left-done ;");
        due("heap", x.asks(0, 8000, 0), 9);
        due("many, walker, more", x.asks(1, 0, 1000), 9);
        due("more of another", x.asks(1, 0, 0), 1);
        due("left, done", x.asks(2, 3200, 1150), 50);
        due("left, done", x.asks(2, 200, 999), 0);
        due("left", x.asks(2, 8077, 0), 77);
    }

    private static void asksSigns() {
        says("1 or 0", 1);
        says("0 or 0", 0);
        says("7 or 0", 1);
        says("7 and 2", 1);
        says("7 and 0", 0);
        says("not 7", 0);
        says("not 0", 1);
        says("not not 7", 1);
        says("1 < 2", 1);
        says("2 < 2", 0);
        says("0-1 < 0", 1);
        says("2 = 2", 1);
        says("2 = 3", 0);
        says("7 - 2 - 1", 4);
        says("7 - (2 - 1)", 6);
        says("2 + 3 * 4", 14);
        says("(2 + 3) * 4", 20);
        says("- 2 + 5", 3);
        says("- 2 * 5", -10);
        says("2 * - 5", -10);
        says("3 - - 2", 5);
        says("not 1 < 2", 0);
        says("not 2 = 3", 1);
        says("(not 0) + 4", 5);
        says("1 or 1 and 0", 1);
        says("(1 or 1) and 0", 0);
        says("not 0 and 0", 0);
        says("not 1 or 1", 1);
        says("3 + 1 < 5", 1);
        says("2 * 2 = 4 and 3 < 4", 1);
        // 65536 times 65536 is 0 in 32 bits, 65536 times 32768 the least number of all.
        says("256*256*256*256", 0);
        says("256*256*256*128 < 0", 1);
        says("256*256*256*128 - 1 < 0", 0);
        says("-(256*256*256*128) = 256*256*256*128", 1);
        says("0012", 12);
    }

    private static void asksRefuses() {
        NineHeaps x = new NineHeaps();
        due("no walker", x.asks(0, 0, 0), -2);
        x.walker(4, 9, 0);
        due("asks, whatever the kind", x.asks(0, 0, 999), 2);
        due("no more walker", x.asks(0, 0, 1000), -2);
        due("walker below", x.asks(0, 0, -1), -2);
        due("part -1", x.asks(-1, 0, 0), -2);
        due("part 3", x.asks(3, 0, 0), -2);
        due("left 201", x.asks(0, 201, 0), -2);
        due("left 200", x.asks(0, 8200, 0), 2);
        due("left 999", x.asks(0, 7999, 0), -2);
        due("heap 9", x.asks(0, 9000, 0), -2);
        due("heap below", x.asks(0, -1, 0), -2);
        due("heap below", x.asks(0, -1000, 0), -2);
        due("far out", x.asks(0, Integer.MIN_VALUE, Integer.MAX_VALUE), -2);
    }
}
