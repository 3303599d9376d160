import java.util.ArrayList;
import java.util.Arrays;
import java.util.List;
import java.util.Random;

/** Random runs of calls, each answer compared with that of a second, slower way of doing what the document says. */
public final class ModelTest {
    private static final int OBJECTS = 350, CALLS = 120, MOST_CALLS = 512, SEED = 20261119;

    private static int wrong;

    public static void main(String[] args) {
        Random lot = new Random(SEED);
        for (int n = 0; n < OBJECTS && wrong < 20; n++) {
            compare(n, lot, CALLS);
        }
        for (int n = 0; n < 6000 && wrong < 20; n++) {
            compareTexts(n, lot);
        }
        System.out.println(wrong == 0 ? "the model answers likewise" : wrong + " answers differ from the model's");
        if (wrong != 0) {
            System.exit(1);
        }
    }

    private static void compare(int run, Random lot, int calls) {
        NineHeaps heaps = new NineHeaps();
        Model model = new Model();
        StringBuilder told = new StringBuilder();
        boolean dear = run % 10 == 0;
        int made = 0;
        for (int c = 0; c < calls; c++) {
            Call call = randomCall(lot, dear, model);
            made += call.calls();
            if (made > MOST_CALLS) {
                return;
            }
            told.append(call).append('\n');
            long got = answer(heaps, call);
            long due = answer(model, call);
            if (got != due) {
                wrong++;
                System.out.println("run " + run + ":\n" + told + "answered " + got + ", the model " + due);
                return;
            }
        }
    }

    /** Whole texts, good and bad ones, and what the good ones say. */
    private static void compareTexts(int run, Random lot) {
        NineHeaps heaps = new NineHeaps();
        Model model = new Model();
        heaps.walker(0, 7, 0);
        model.walker(0, 7, 0);
        String text = randomText(lot);
        for (int i = 0; i < text.length(); i++) {
            heaps.feed(1, text.charAt(i), 0, 0, 0, 0);
            model.feed(1, text.charAt(i), 0, 0, 0, 0);
        }
        int got = heaps.text();
        int due = model.text();
        boolean same = got == due && heaps.count(4) == 0;
        if (got >= 0) {
            heaps.force(got);
            model.force(due);
        }
        for (int part = 0; part < 3; part++) {
            int heapLeft = 1000 * lot.nextInt(9) + lot.nextInt(201);
            int done = lot.nextInt(20);
            same &= heaps.asks(part, heapLeft, done) == model.asks(part, heapLeft, done);
        }
        if (!same) {
            wrong++;
            System.out.println("text " + run + " <" + text + "> answered " + got + ", the model " + due);
        }
    }

    // ---- lots

    private static final String[] CALL_NAMES = {"count", "set", "heap", "feed", "text", "force", "asks", "walker",
        "begin", "told", "run", "one", "height", "go", "off", "find", "start", "sit", "worth", "stretch", "slowest",
        "judge", "when", "sticks", "kinds", "laws", "film", "drawn", "odds", "image", "back", "sheet", "cell", "copy",
        "walkersBy", "taken", "fullText", "best", "more"};

    private static Call randomCall(Random lot, boolean dear, Model model) {
        String name = CALL_NAMES[lot.nextInt(CALL_NAMES.length - (dear ? 0 : 2))];
        if (lot.nextInt(4) == 0) {
            name = new String[] {"set", "walker", "fullText", "film", "force", "begin"}[lot.nextInt(6)];
        }
        int seconds = between(lot, -1, 601);
        if (lot.nextBoolean()) {
            seconds = between(lot, 0, 80);
        }
        int s = near(lot, 0, 3);
        int w = near(lot, 0, Math.max(0, model.walkers.size() - 1));
        int h = near(lot, 0, 8);
        switch (name) {
            case "count": return new Call(name, near(lot, 0, 4));
            case "set": {
                int what = near(lot, 0, 2);
                return new Call(name, what, h, what == 0 ? near(lot, 0, lot.nextInt(201)) : what == 1 ? near(lot, 0, 9) : near(lot, 1, 30));
            }
            case "heap": return new Call(name, h, near(lot, 0, 1));
            case "feed": return new Call(name, near(lot, 1, 5), near(lot, 0, 255), near(lot, 0, 255), near(lot, 0, 255), near(lot, 0, 255), near(lot, 0, 255));
            case "force": return new Call(name, near(lot, 0, model.texts.size() - 1));
            case "asks": return new Call(name, near(lot, 0, 2), 1000 * h + near(lot, 0, 200), 1000 * w + near(lot, 0, 999));
            case "walker": return new Call(name, near(lot, 0, 5), near(lot, 0, 9), h);
            case "begin": return new Call(name, w, h);
            case "told": return new Call(name, w, near(lot, 0, 3));
            case "run": return new Call(name, seconds, near(lot, 0, 4));
            case "one": return new Call(name, w, seconds, near(lot, 0, 4));
            case "height": return new Call(name, h, seconds, near(lot, 0, 1));
            case "go": return new Call(name, seconds);
            case "off": return new Call(name, near(lot, 0, 39));
            case "find": return new Call(name, seconds, near(lot, 0, 1));
            case "best": return new Call(name, near(lot, 0, 2));
            case "start": return new Call(name, w, near(lot, 0, 1));
            case "sit": return new Call(name, near(lot, 0, 1));
            case "worth": return new Call(name, w);
            case "more": return new Call(name, h);
            case "stretch": return new Call(name, near(lot, 0, 2));
            case "judge": return new Call(name, s, seconds);
            case "when": return new Call(name, s, near(lot, 0, 1));
            case "sticks": return new Call(name, s, seconds, h);
            case "kinds": {
                int walkerSort = 100 * w + near(lot, 0, 1);
                // The document doesn't tell of which WALKER -99 .. -1 are.
                return new Call(name, s, seconds, walkerSort < 0 && walkerSort > -100 ? -100 : walkerSort);
            }
            case "laws": return new Call(name, s, seconds);
            case "film": return new Call(name, s, seconds);
            case "drawn": return new Call(name, lot.nextInt(3) == 0 ? between(lot, 99998, 100000) : near(lot, 0, 99999), near(lot, 0, 2));
            case "odds": return new Call(name, lot.nextInt(3) == 0 ? between(lot, 99995, 100000) : near(lot, 0, 99999), near(lot, 1, 10), seconds, near(lot, 0, 1));
            case "sheet": return new Call(name, s, near(lot, -1, 2), lot.nextBoolean() ? 9 : near(lot, 0, 40));
            case "cell": return new Call(name, s, near(lot, 0, 9), lot.nextInt(3) == 0 ? lot.nextInt() : near(lot, 0, 200));
            case "copy": return new Call(name, s, near(lot, 0, 9), near(lot, 0, 3), near(lot, 0, 9), near(lot, 0, 9));
            case "walkersBy": return new Call(name, s, near(lot, 0, 2), near(lot, 0, 9), near(lot, 0, 5));
            case "taken": return new Call(name, near(lot, 0, 13), near(lot, 0, 6));
            case "fullText": {
                Call call = new Call(name);
                call.text = randomText(lot);
                return call;
            }
            default: return new Call(name);
        }
    }

    private static int between(Random lot, int from, int to) {
        return from + lot.nextInt(to - from + 1);
    }

    /** Mostly within, now and then an edge, one beyond it or far out. */
    private static int near(Random lot, int from, int to) {
        switch (lot.nextInt(24)) {
            case 0: return from - 1;
            case 1: return to + 1;
            case 2: return to;
            case 3: return from;
            case 4: return lot.nextInt(3) == 0 ? (lot.nextBoolean() ? Integer.MAX_VALUE : Integer.MIN_VALUE) : from;
            default: return between(lot, from, Math.max(from, to));
        }
    }

    private static final String[] PIECES = {"takes", "steps", "minds", "heap", "walker", "more", "left", "done", "many",
        "or", "and", "not", "(", ")", ";", "+", "-", "*", "<", "=", " ", "\n", "1", "0", "20", "9999", "12345", "a", "A", "\t", "é"};

    private static String randomText(Random lot) {
        StringBuilder text = new StringBuilder();
        text.append("takes ").append(randomE(lot, 3)).append(" ; steps ").append(randomE(lot, 2)).append(";minds ").append(randomE(lot, 2)).append(" ;");
        int changes = lot.nextInt(3) == 0 ? 1 + lot.nextInt(3) : 0;
        for (int n = 0; n < changes; n++) {
            int at = lot.nextInt(text.length() + 1);
            String piece = PIECES[lot.nextInt(PIECES.length)];
            switch (lot.nextInt(4)) {
                case 0: text.insert(at, piece); break;
                case 1: text.insert(at, " " + piece + " "); break;
                case 2: text.delete(at, Math.min(text.length(), at + 1 + lot.nextInt(4))); break;
                default: text.setLength(at);
            }
        }
        if (text.length() > 160) {
            text.setLength(160);
        }
        return text.toString();
    }

    private static String randomE(Random lot, int deep) {
        String gap = lot.nextBoolean() ? " " : "";
        switch (deep <= 0 ? lot.nextInt(4) : lot.nextInt(15)) {
            case 0: case 1: return "" + lot.nextInt(12);
            case 2: return new String[] {"heap", "walker", "more", "left", "done", "many"}[lot.nextInt(6)];
            case 3: return "" + lot.nextInt(10000);
            case 4: return randomE(lot, deep - 1) + gap + "+" + gap + randomE(lot, deep - 1);
            case 5: return randomE(lot, deep - 1) + gap + "-" + gap + randomE(lot, deep - 1);
            case 6: return randomE(lot, deep - 1) + gap + "*" + gap + randomE(lot, deep - 1);
            case 7: return randomE(lot, deep - 1) + gap + "<" + gap + randomE(lot, deep - 1);
            case 8: return randomE(lot, deep - 1) + gap + "=" + gap + randomE(lot, deep - 1);
            case 9: return randomE(lot, deep - 1) + " and " + randomE(lot, deep - 1);
            case 10: return randomE(lot, deep - 1) + " or " + randomE(lot, deep - 1);
            case 11: return "not " + randomE(lot, deep - 1);
            case 12: return "-" + gap + randomE(lot, deep - 1);
            default: return "(" + gap + randomE(lot, deep - 1) + gap + ")";
        }
    }

    // ---- calls

    private static final class Call {
        final String name;
        final int[] a;
        String text = "";

        Call(String name, int... a) {
            this.name = name;
            this.a = a;
        }

        int[] bytesFrom(int i) {
            int[] bytes = new int[5];
            for (int k = 0; k < 5 && i + k < text.length(); k++) {
                bytes[k] = text.charAt(i + k);
            }
            return bytes;
        }

        /** How many calls of an object it is. */
        int calls() {
            return name.equals("fullText") ? 2 + (text.length() + 4) / 5 : 1;
        }

        public String toString() {
            return name + Arrays.toString(a) + text;
        }
    }

    private static long answer(NineHeaps x, Call call) {
        int[] a = call.a;
        switch (call.name) {
            case "count": return x.count(a[0]);
            case "set": return x.set(a[0], a[1], a[2]);
            case "heap": return x.heap(a[0], a[1]);
            case "feed": return x.feed(a[0], a[1], a[2], a[3], a[4], a[5]);
            case "text": return x.text();
            case "force": return x.force(a[0]);
            case "asks": return x.asks(a[0], a[1], a[2]);
            case "walker": return x.walker(a[0], a[1], a[2]);
            case "begin": return x.begin(a[0], a[1]);
            case "told": return x.told(a[0], a[1]);
            case "run": return x.run(a[0], a[1]);
            case "one": return x.one(a[0], a[1], a[2]);
            case "height": return x.height(a[0], a[1], a[2]);
            case "go": return x.go(a[0]);
            case "off": return x.off(a[0]);
            case "find": return x.find(a[0], a[1]);
            case "best": return x.best(a[0]);
            case "start": return x.start(a[0], a[1]);
            case "sit": return x.sit(a[0]);
            case "worth": return x.worth(a[0]);
            case "more": return x.more(a[0]);
            case "stretch": return x.stretch(a[0]);
            case "slowest": return x.slowest();
            case "judge": return x.judge(a[0], a[1]);
            case "when": return x.when(a[0], a[1]);
            case "sticks": return x.sticks(a[0], a[1], a[2]);
            case "kinds": return x.kinds(a[0], a[1], a[2]);
            case "laws": return x.laws(a[0], a[1]);
            case "film": return x.film(a[0], a[1]);
            case "drawn": return x.drawn(a[0], a[1]);
            case "odds": return x.odds(a[0], a[1], a[2], a[3]);
            case "image": return x.image();
            case "back": return x.back();
            case "sheet": return x.sheet(a[0], a[1], a[2]);
            case "cell": return x.cell(a[0], a[1], a[2]);
            case "copy": return x.copy(a[0], a[1], a[2], a[3], a[4]);
            case "walkersBy": return x.walkersBy(a[0], a[1], a[2], a[3]);
            case "taken": return x.taken(a[0], a[1]);
            case "fullText": {
                long sum = x.text();
                for (int i = 0; i < call.text.length(); i += 5) {
                    int[] b = call.bytesFrom(i);
                    sum = sum * 3 + x.feed(Math.min(5, call.text.length() - i), b[0], b[1], b[2], b[3], b[4]);
                }
                return sum * 3 + x.text();
            }
            default: throw new IllegalStateException(call.name);
        }
    }

    private static long answer(Model x, Call call) {
        int[] a = call.a;
        switch (call.name) {
            case "count": return x.count(a[0]);
            case "set": return x.set(a[0], a[1], a[2]);
            case "heap": return x.heap(a[0], a[1]);
            case "feed": return x.feed(a[0], a[1], a[2], a[3], a[4], a[5]);
            case "text": return x.text();
            case "force": return x.force(a[0]);
            case "asks": return x.asks(a[0], a[1], a[2]);
            case "walker": return x.walker(a[0], a[1], a[2]);
            case "begin": return x.begin(a[0], a[1]);
            case "told": return x.told(a[0], a[1]);
            case "run": return x.run(a[0], a[1]);
            case "one": return x.one(a[0], a[1], a[2]);
            case "height": return x.height(a[0], a[1], a[2]);
            case "go": return x.go(a[0]);
            case "off": return x.off(a[0]);
            case "find": return x.find(a[0], a[1]);
            case "best": return x.best(a[0]);
            case "start": return x.start(a[0], a[1]);
            case "sit": return x.sit(a[0]);
            case "worth": return x.worth(a[0]);
            case "more": return x.more(a[0]);
            case "stretch": return x.stretch(a[0]);
            case "slowest": return x.slowest();
            case "judge": return x.judge(a[0], a[1]);
            case "when": return x.when(a[0], a[1]);
            case "sticks": return x.sticks(a[0], a[1], a[2]);
            case "kinds": return x.kinds(a[0], a[1], a[2]);
            case "laws": return x.laws(a[0], a[1]);
            case "film": return x.film(a[0], a[1]);
            case "drawn": return x.drawn(a[0], a[1]);
            case "odds": return x.odds(a[0], a[1], a[2], a[3]);
            case "image": return x.image();
            case "back": return x.back();
            case "sheet": return x.sheet(a[0], a[1], a[2]);
            case "cell": return x.cell(a[0], a[1], a[2]);
            case "copy": return x.copy(a[0], a[1], a[2], a[3], a[4]);
            case "walkersBy": return x.walkersBy(a[0], a[1], a[2], a[3]);
            case "taken": return x.taken(a[0], a[1]);
            case "fullText": {
                long sum = x.text();
                for (int i = 0; i < call.text.length(); i += 5) {
                    int[] b = call.bytesFrom(i);
                    sum = sum * 3 + x.feed(Math.min(5, call.text.length() - i), b[0], b[1], b[2], b[3], b[4]);
                }
                return sum * 3 + x.text();
            }
            default: throw new IllegalStateException(call.name);
        }
    }

    // ---- the model

    /** One TOKEN: what it reads, where it begins. */
    private static final class Token {
        final String says;
        final int at;

        Token(String says, int at) {
            this.says = says;
            this.at = at;
        }

        boolean isOperand() {
            return says.matches("[0-9]{1,4}|heap|walker|more|left|done|many");
        }
    }

    /** A TEXT as three lists of TOKENS; values come from splitting a list at its loosest sign. */
    private static final class ModelText {
        final List<List<String>> parts = new ArrayList<>();
        final java.util.Map<Long, Integer> known = new java.util.HashMap<>();
        int fault = -1;

        ModelText(String tape) {
            List<Token> tokens = tokensOf(tape);
            int next = 0;
            for (String key : new String[] {"takes", "steps", "minds"}) {
                if (!tokens.get(next).says.equals(key)) {
                    fault = tokens.get(next).at;
                    return;
                }
                int end = endOfE(tokens, next + 1);
                if (fault >= 0) {
                    return;
                }
                List<String> part = new ArrayList<>();
                for (int i = next + 1; i < end; i++) {
                    part.add(tokens.get(i).says);
                }
                parts.add(part);
                next = end + 1;
            }
            if (!tokens.get(next).says.equals("END")) {
                fault = tokens.get(next).at;
            }
        }

        private static List<Token> tokensOf(String tape) {
            List<Token> tokens = new ArrayList<>();
            java.util.regex.Matcher m = java.util.regex.Pattern.compile("[a-z]+|[0-9]+|[();+*<=-]|[ \n]+|[^ ]|\\s").matcher(tape);
            while (m.find()) {
                if (!m.group().matches("[ \n]+")) {
                    tokens.add(new Token(m.group(), m.start()));
                }
            }
            tokens.add(new Token("END", tape.length()));
            return tokens;
        }

        /** Walks over an E by a list of levels: {nots, minuses, compared, parenthesis}. */
        private int endOfE(List<Token> tokens, int from) {
            List<int[]> levels = new ArrayList<>();
            levels.add(new int[4]);
            boolean operandDue = true;
            boolean notMayStand = true;
            for (int i = from; i < tokens.size(); i++) {
                Token token = tokens.get(i);
                int[] level = levels.get(levels.size() - 1);
                int open = levels.size() - 1;
                for (int[] each : levels) {
                    open += each[0] + each[1];
                }
                String t = token.says;
                if (operandDue) {
                    if (token.isOperand()) {
                        level[1] = 0;
                        operandDue = false;
                    } else if (t.equals("not") && notMayStand && open < 5) {
                        level[0]++;
                    } else if (t.equals("-") && open < 5) {
                        level[1]++;
                        notMayStand = false;
                    } else if (t.equals("(") && open < 5) {
                        levels.add(new int[4]);
                        notMayStand = true;
                    } else {
                        fault = token.at;
                        return i;
                    }
                } else if (t.equals("+") || t.equals("-") || t.equals("*")) {
                    operandDue = true;
                    notMayStand = false;
                } else if ((t.equals("<") || t.equals("=")) && level[2] == 0) {
                    level[2] = 1;
                    operandDue = true;
                    notMayStand = false;
                } else if (t.equals("and") || t.equals("or")) {
                    level[0] = 0;
                    level[2] = 0;
                    operandDue = true;
                    notMayStand = true;
                } else if (t.equals(")") && levels.size() > 1) {
                    levels.remove(levels.size() - 1);
                    levels.get(levels.size() - 1)[1] = 0;
                } else if (t.equals(";") && levels.size() == 1) {
                    return i;
                } else {
                    fault = token.at;
                    return i;
                }
            }
            throw new IllegalStateException();
        }

        static int worth(List<String> e, int[] names) {
            int at = lastOf(e, "or");
            if (at >= 0) {
                return worth(e.subList(0, at), names) != 0 | worth(e.subList(at + 1, e.size()), names) != 0 ? 1 : 0;
            }
            at = lastOf(e, "and");
            if (at >= 0) {
                return worth(e.subList(0, at), names) != 0 & worth(e.subList(at + 1, e.size()), names) != 0 ? 1 : 0;
            }
            if (e.get(0).equals("not")) {
                return worth(e.subList(1, e.size()), names) == 0 ? 1 : 0;
            }
            at = lastOf(e, "<", "=");
            if (at >= 0) {
                int a = worth(e.subList(0, at), names);
                int b = worth(e.subList(at + 1, e.size()), names);
                return (e.get(at).equals("<") ? a < b : a == b) ? 1 : 0;
            }
            at = lastOf(e, "+", "-");
            if (at >= 0) {
                int a = worth(e.subList(0, at), names);
                int b = worth(e.subList(at + 1, e.size()), names);
                return e.get(at).equals("+") ? a + b : a - b;
            }
            at = lastOf(e, "*");
            if (at >= 0) {
                return worth(e.subList(0, at), names) * worth(e.subList(at + 1, e.size()), names);
            }
            if (e.get(0).equals("-")) {
                return -worth(e.subList(1, e.size()), names);
            }
            if (e.get(0).equals("(")) {
                return worth(e.subList(1, e.size() - 1), names);
            }
            int name = Arrays.asList("heap", "walker", "more", "left", "done", "many").indexOf(e.get(0));
            return name >= 0 ? names[name] : Integer.parseInt(e.get(0));
        }

        /** The last place outside all ( where one of the signs stands between two. */
        private static int lastOf(List<String> e, String... signs) {
            int deep = 0;
            for (int i = e.size() - 1; i > 0; i--) {
                String t = e.get(i);
                deep += t.equals(")") ? 1 : t.equals("(") ? -1 : 0;
                boolean behindOne = e.get(i - 1).matches("[0-9a-z]+|\\)") && !e.get(i - 1).matches("not|and|or");
                if (deep == 0 && behindOne && Arrays.asList(signs).contains(t)) {
                    return i;
                }
            }
            return -1;
        }
    }

    private static final class ModelWalker {
        int kind;
        int more;
        int from;

        ModelWalker(int kind, int more, int from) {
            this.kind = kind;
            this.more = more;
            this.from = from;
        }
    }

    /** What a GOING is told; and how it ended. */
    private static final class Thought {
        int[] high;
        int[] stick;
        int[] kind;
        int[] from;
        List<Integer> order = new ArrayList<>();
        int law;
        int seconds;

        int[] at = new int[5];
        char[] does = {'-', '-', '-', '-', '-'};
        int[] left = new int[5];
        int[] done = new int[5];
        int[] waited = new int[5];
        List<List<String>> held = new ArrayList<>();
        int[] takings = new int[9];
        int[] ranOut = new int[9];
        boolean[] missed = new boolean[9];
        List<String> programmes = new ArrayList<>();
        List<Integer> when = new ArrayList<>();

        int number(String kindOfProgramme) {
            int n = 0;
            for (String p : programmes) {
                n += p.equals(kindOfProgramme) ? 1 : 0;
            }
            return n;
        }

        List<Integer> off() {
            List<Integer> off = new ArrayList<>();
            for (int i = 0; i < programmes.size(); i++) {
                if (!programmes.get(i).equals("fine") && off.size() < 40) {
                    off.add(i);
                }
            }
            return off;
        }
    }

    private static final class Model {
        int[] high = new int[9];
        int[] stick = new int[9];
        int want = 20;
        List<ModelWalker> walkers = new ArrayList<>();
        List<ModelText> texts = new ArrayList<>();
        int law = 0;
        String tape = "";
        Object[] sheets = new Object[4];
        int[] image;
        List<Integer> imageFrom;

        Model() {
            Arrays.fill(high, 50);
            texts.add(new ModelText("takes 2 ; steps 1 ; minds 1 ;"));
        }

        Thought plain(int seconds) {
            Thought t = new Thought();
            t.high = high.clone();
            t.stick = stick.clone();
            t.kind = new int[5];
            t.from = new int[5];
            for (int w = 0; w < walkers.size(); w++) {
                t.kind[w] = walkers.get(w).kind;
                t.from[w] = walkers.get(w).from;
                t.order.add(w);
            }
            t.law = law;
            t.seconds = seconds;
            return t;
        }

        int says(int law, int part, int h, int w, int left, int done) {
            int[] names = {h, w, walkers.get(w).more, left, done, walkers.size()};
            // Splitting lists is slow, and the same is asked again and again.
            int key = ((((part * 9 + h) * 5 + w) * 10 + names[2]) * 201 + left) * 6 + names[5];
            int said = texts.get(law).known.computeIfAbsent(key * 1000L + done, k -> ModelText.worth(texts.get(law).parts.get(part), names));
            int least = part == 2 ? 0 : 1;
            int most = part == 2 ? 99 : 20;
            return said < least ? least : said > most ? most : said;
        }

        int takes(Thought t, int w, int h, int done) {
            int said = says(t.law, 0, h, w, t.high[h], done);
            int more = walkers.get(w).more;
            int takes = said;
            switch (t.kind[w]) {
                case 2: takes = said + more / 2; break;
                case 3: takes = said + 1; break;
                case 4: takes = said + more / 2 + (done > more ? 2 : 1); break;
                case 5: takes = done >= more ? said / 2 : said; break;
                default: break;
            }
            return Math.max(1, takes);
        }

        int step(Thought t, int w, int h, int done) {
            int said = says(t.law, 1, h, w, t.high[h], done);
            int kind = t.kind[w];
            int step = kind == 1 || kind == 3 ? said - walkers.get(w).more / 3 : kind == 4 ? 2 * said : said;
            return Math.max(1, step);
        }

        Thought gone(Thought t) {
            Arrays.fill(t.ranOut, -1);
            for (int w = 0; w < 5; w++) {
                t.at[w] = t.from[w];
                t.held.add(new ArrayList<>());
            }
            for (int w : t.order) {
                t.does[w] = 'w';
            }
            for (int second = 0; second < t.seconds; second++) {
                for (int w : t.order) {
                    oneSecond(t, w, second);
                }
            }
            return t;
        }

        private void oneSecond(Thought t, int w, int second) {
            if (t.does[w] == 't') {
                t.left[w]--;
                if (t.left[w] == 0) {
                    lift(t, w, second);
                }
                return;
            }
            if (t.does[w] == 's') {
                t.left[w]--;
                if (t.left[w] > 0) {
                    return;
                }
                t.does[w] = 'w';
            }
            boolean held = false;
            for (int other : t.order) {
                held |= other != w && t.does[other] == 't' && t.at[other] == t.at[w];
            }
            if (held && t.kind[w] != 3) {
                t.waited[w]++;
            } else {
                t.does[w] = 't';
                t.left[w] = takes(t, w, t.at[w], t.done[w]);
            }
        }

        private void lift(Thought t, int w, int second) {
            int h = t.at[w];
            List<String> held = t.held.get(w);
            if (t.high[h] == 0) {
                t.missed[h] = true;
                held.add("none");
            } else {
                t.takings[h]++;
                if (t.stick[h] > 0 && t.high[h] > 1 && t.takings[h] % t.stick[h] == 0) {
                    t.high[h] -= 2;
                    held.add("two");
                } else {
                    t.high[h]--;
                    held.add("one");
                }
                if (t.high[h] == 0) {
                    t.ranOut[h] = second;
                }
            }
            if (held.size() == 9) {
                t.programmes.add(held.contains("none") ? "short" : held.contains("two") ? "wrong" : "fine");
                t.when.add(second);
                t.done[w]++;
                held.clear();
            }
            t.does[w] = 's';
            t.left[w] = step(t, w, h, t.done[w]);
            t.at[w] = h == 8 ? 0 : h + 1;
        }

        boolean bad(int v, int from, int to) {
            return v < from || v > to;
        }

        int wantedIn(Thought t) {
            return t.when.size() >= want ? t.when.get(want - 1) : -1;
        }

        int count(int what) {
            return what == 0 ? walkers.size() : what == 1 ? want : what == 2 ? texts.size() : what == 3 ? law : what == 4 ? tape.length() : -2;
        }

        int set(int what, int of, int v) {
            int was;
            switch (what) {
                case 0: case 1:
                    if (bad(of, 0, 8)) {
                        return -6;
                    }
                    if (bad(v, 0, what == 0 ? 200 : 9)) {
                        return -7;
                    }
                    was = what == 0 ? high[of] : stick[of];
                    (what == 0 ? high : stick)[of] = v;
                    return was;
                case 2:
                    if (bad(v, 1, 200)) {
                        return -7;
                    }
                    was = want;
                    want = v;
                    return was;
                default: return -5;
            }
        }

        int heap(int h, int what) {
            return bad(h, 0, 8) ? -6 : bad(what, 0, 1) ? -7 : what == 0 ? high[h] : stick[h];
        }

        int feed(int n, int... b) {
            if (bad(n, 1, 5)) {
                return -2;
            }
            for (int v : b) {
                if (bad(v, 0, 255)) {
                    return -2;
                }
            }
            if (tape.length() + n > 160) {
                return -4;
            }
            for (int i = 0; i < n; i++) {
                tape += (char) b[i];
            }
            return tape.length();
        }

        int text() {
            if (texts.size() == 6) {
                return -4;
            }
            ModelText read = new ModelText(tape);
            tape = "";
            if (read.fault >= 0) {
                return -100 - read.fault;
            }
            texts.add(read);
            return texts.size() - 1;
        }

        int force(int t) {
            if (bad(t, 0, texts.size() - 1)) {
                return -2;
            }
            int was = law;
            law = t;
            return was;
        }

        int asks(int part, int heapLeft, int walkerDone) {
            if (bad(part, 0, 2) || bad(heapLeft, 0, 8200) || heapLeft % 1000 > 200 || bad(walkerDone, 0, 1000 * walkers.size() - 1)) {
                return -2;
            }
            return says(law, part, heapLeft / 1000, walkerDone / 1000, heapLeft % 1000, walkerDone % 1000);
        }

        int walker(int kind, int more, int h) {
            if (bad(kind, 0, 5) || bad(more, 0, 9) || bad(h, 0, 8)) {
                return -2;
            }
            if (walkers.size() == 5) {
                return -4;
            }
            walkers.add(new ModelWalker(kind, more, h));
            return walkers.size() - 1;
        }

        boolean noWalker(int w) {
            return bad(w, 0, walkers.size() - 1);
        }

        int begin(int w, int h) {
            if (noWalker(w)) {
                return -5;
            }
            if (bad(h, 0, 8)) {
                return -7;
            }
            int was = walkers.get(w).from;
            walkers.get(w).from = h;
            return was;
        }

        int told(int w, int what) {
            if (noWalker(w)) {
                return -5;
            }
            ModelWalker one = walkers.get(w);
            return what == 0 ? one.kind : what == 1 ? one.more : what == 2 ? one.from : what == 3 ? (one.kind == 3 ? 0 : 1) : -7;
        }

        int run(int seconds, int what) {
            if (bad(seconds, 0, 600) || bad(what, 0, 4)) {
                return -2;
            }
            Thought t = gone(plain(seconds));
            int sum = 0;
            for (int w : t.order) {
                sum += t.waited[w] * says(law, 2, 0, w, 0, t.done[w]);
            }
            return new int[] {t.programmes.size(), t.number("wrong"), t.number("short"), sum, wantedIn(t)}[what];
        }

        int one(int w, int seconds, int what) {
            if (noWalker(w)) {
                return -5;
            }
            if (bad(seconds, 0, 600) || bad(what, 0, 4)) {
                return -7;
            }
            Thought t = gone(plain(seconds));
            return new int[] {t.at[w], "swt".indexOf(t.does[w]), t.done[w], t.waited[w], t.held.get(w).size()}[what];
        }

        int height(int h, int seconds, int what) {
            if (bad(h, 0, 8)) {
                return -6;
            }
            if (bad(seconds, 0, 600) || bad(what, 0, 1)) {
                return -7;
            }
            Thought t = gone(plain(seconds));
            return what == 0 ? t.high[h] : t.ranOut[h];
        }

        int go(int seconds) {
            if (bad(seconds, 0, 600)) {
                return -2;
            }
            Thought t = gone(plain(seconds));
            high = t.high;
            return t.programmes.size();
        }

        int off(int k) {
            if (bad(k, 0, 39)) {
                return -2;
            }
            List<Integer> off = gone(plain(600)).off();
            return k < off.size() ? off.get(k) : -1;
        }

        int find(int seconds, int what) {
            if (bad(seconds, 0, 600) || bad(what, 0, 1)) {
                return -2;
            }
            Thought t = gone(plain(seconds));
            List<Integer> off = t.off();
            return off.isEmpty() ? 0 : what == 0 ? t.programmes.size() - off.get(0) : off.get(off.size() - 1) + 1;
        }

        int best(int what) {
            if (bad(what, 0, 2)) {
                return -2;
            }
            int[] best = null;
            for (int digits = 0; digits <= 54321; digits++) {
                List<Integer> order = orderOf(digits);
                if (order != null) {
                    Thought t = plain(600);
                    t.order = order;
                    gone(t);
                    int[] now = {wantedIn(t), t.programmes.size(), digits};
                    int late = now[0] < 0 ? 9999 : now[0];
                    int bestLate = best == null ? 0 : best[0] < 0 ? 9999 : best[0];
                    if (best == null || late < bestLate || late == bestLate && now[1] > best[1]) {
                        best = now;
                    }
                }
            }
            return best[what];
        }

        private List<Integer> orderOf(int digits) {
            List<Integer> order = new ArrayList<>();
            for (int rest = digits; rest > 0; rest /= 10) {
                int w = rest % 10 - 1;
                if (noWalker(w) || order.contains(w)) {
                    return null;
                }
                order.add(0, w);
            }
            return order.size() == walkers.size() ? order : null;
        }

        int start(int w, int what) {
            if (noWalker(w)) {
                return -5;
            }
            if (bad(what, 0, 1)) {
                return -7;
            }
            int[] best = {-1, -1};
            for (int h = 0; h < 9; h++) {
                Thought t = plain(600);
                t.from[w] = h;
                int n = gone(t).programmes.size();
                best = n > best[1] ? new int[] {h, n} : best;
            }
            return best[what];
        }

        private int without(int w) {
            Thought t = plain(600);
            t.order.remove((Integer) w);
            return gone(t).programmes.size();
        }

        int sit(int what) {
            if (bad(what, 0, 1)) {
                return -2;
            }
            int[] best = {-1, -1};
            for (int w = 0; w < walkers.size(); w++) {
                int n = without(w);
                best = n > best[1] ? new int[] {w, n} : best;
            }
            return best[what];
        }

        int worth(int w) {
            return noWalker(w) ? -1000 : gone(plain(600)).programmes.size() - without(w);
        }

        int more(int h) {
            if (bad(h, 0, 8)) {
                return -2;
            }
            for (int then = high[h]; then <= 200; then++) {
                Thought t = plain(600);
                t.high[h] = then;
                if (!gone(t).missed[h]) {
                    return then - high[h];
                }
            }
            return -1;
        }

        /** {most, digits, of all, slowest} of the first best way, all ways being tried. */
        private int[] way() {
            int[] best = null;
            int n = walkers.size();
            for (int digits = 0; digits < Math.pow(10, n); digits++) {
                int[] has = new int[n];
                int sum = 0;
                int rest = digits;
                for (int w = n - 1; w >= 0; w--) {
                    has[w] = rest % 10;
                    sum += has[w];
                    rest /= 10;
                }
                if (sum == 9) {
                    int h = 0;
                    int[] now = {-1, digits, 0, 0};
                    for (int w = 0; w < n; w++) {
                        int own = 0;
                        for (int k = 0; k < has[w]; k++, h++) {
                            Thought t = plain(0);
                            own += takes(t, w, h, 0) + step(t, w, h, 0);
                        }
                        now[2] += own;
                        if (own > now[0]) {
                            now[0] = own;
                            now[3] = w;
                        }
                    }
                    best = best == null || now[0] < best[0] ? now : best;
                }
            }
            return best;
        }

        int stretch(int what) {
            if (bad(what, 0, 2)) {
                return -2;
            }
            if (walkers.isEmpty()) {
                return -1;
            }
            int[] way = way();
            return what == 2 ? way[2] + (want - 1) * way[0] : way[what];
        }

        int slowest() {
            return walkers.isEmpty() ? -1 : way()[3];
        }

        /** What a SHEET tells, or why it can't. */
        private int[] heights(int s) {
            if (bad(s, 0, 3)) {
                return new int[] {-2};
            }
            int[] told = numbers(s);
            if (told == null) {
                return new int[] {-11};
            }
            return told.length == 9 ? told : new int[] {-2};
        }

        private int[] numbers(int s) {
            Object row = sheets[s];
            if (row == null) {
                return null;
            }
            int n = java.lang.reflect.Array.getLength(row);
            int[] told = new int[n];
            for (int i = 0; i < n; i++) {
                told[i] = ((Number) java.lang.reflect.Array.get(row, i)).intValue();
            }
            return told;
        }

        private int otherwise(int[] told, int[] then) {
            for (int h = 0; h < 9; h++) {
                if (told[h] != then[h]) {
                    return h;
                }
            }
            return -1;
        }

        int judge(int s, int seconds) {
            int[] told = heights(s);
            if (told.length == 1) {
                return told[0];
            }
            return bad(seconds, 0, 600) ? -7 : otherwise(told, gone(plain(seconds)).high);
        }

        int when(int s, int what) {
            int[] told = heights(s);
            if (told.length == 1) {
                return told[0];
            }
            if (bad(what, 0, 1)) {
                return -7;
            }
            int[] answer = {-1, 0};
            for (int seconds = 600; seconds >= 0; seconds--) {
                if (otherwise(told, gone(plain(seconds)).high) == -1) {
                    answer[0] = seconds;
                    answer[1]++;
                }
            }
            return answer[what];
        }

        int sticks(int s, int seconds, int h) {
            int[] told = heights(s);
            if (told.length == 1) {
                return told[0];
            }
            if (bad(seconds, 0, 600)) {
                return -7;
            }
            if (bad(h, 0, 8)) {
                return -6;
            }
            int bits = 0;
            for (int k = 9; k >= 0; k--) {
                Thought t = plain(seconds);
                t.stick[h] = k;
                bits = bits * 2 + (otherwise(told, gone(t).high) == -1 ? 1 : 0);
            }
            return bits;
        }

        int kinds(int s, int seconds, int walkerSort) {
            int[] told = heights(s);
            if (told.length == 1) {
                return told[0];
            }
            if (bad(seconds, 0, 600)) {
                return -7;
            }
            if (walkerSort < 0 || noWalker(walkerSort / 100)) {
                return -5;
            }
            int sort = walkerSort % 100;
            if (sort > 1) {
                return -7;
            }
            int bits = 0;
            for (int v = sort == 0 ? 5 : 8; v >= 0; v--) {
                Thought t = plain(seconds);
                (sort == 0 ? t.kind : t.from)[walkerSort / 100] = v;
                bits = bits * 2 + (otherwise(told, gone(t).high) == -1 ? 1 : 0);
            }
            return bits;
        }

        int laws(int s, int seconds) {
            int[] told = heights(s);
            if (told.length == 1) {
                return told[0];
            }
            if (bad(seconds, 0, 600)) {
                return -7;
            }
            int bits = 0;
            for (int l = texts.size() - 1; l >= 0; l--) {
                Thought t = plain(seconds);
                t.law = l;
                bits = bits * 2 + (otherwise(told, gone(t).high) == -1 ? 1 : 0);
            }
            return bits;
        }

        int film(int s, int seconds) {
            if (bad(s, 0, 3) || bad(seconds, 0, 600)) {
                return -2;
            }
            short[] row = new short[9];
            Thought t = gone(plain(seconds));
            for (int h = 0; h < 9; h++) {
                row[h] = (short) t.high[h];
            }
            sheets[s] = row;
            return 9;
        }

        private Thought drawnThought(int seed, int seconds) {
            Thought t = plain(seconds);
            java.math.BigInteger lot = java.math.BigInteger.valueOf(seed + 1);
            for (int h = 0; h < 9; h++) {
                lot = lot.multiply(java.math.BigInteger.valueOf(48271)).mod(java.math.BigInteger.valueOf(2147483647));
                t.stick[h] = lot.mod(java.math.BigInteger.TEN).intValue();
            }
            return gone(t);
        }

        int drawn(int seed, int what) {
            if (bad(seed, 0, 99999) || bad(what, 0, 2)) {
                return -2;
            }
            Thought t = drawnThought(seed, 600);
            return what == 0 ? t.programmes.size() : t.number(what == 1 ? "wrong" : "short");
        }

        long odds(int seed, int seeds, int seconds, int part) {
            if (bad(seed, 0, 99999) || bad(seeds, 1, 10) || bad(seconds, 0, 600) || bad(part, 0, 1)) {
                return -(1L << 62);
            }
            int fine = 0;
            int all = 0;
            for (int n = seed; n < seed + seeds; n++) {
                Thought t = drawnThought(n, seconds);
                fine += t.number("fine");
                all += t.programmes.size();
            }
            if (all == 0) {
                return -(1L << 62);
            }
            for (int d = all; d > 1; d--) {
                if (fine % d == 0 && all % d == 0) {
                    fine /= d;
                    all /= d;
                }
            }
            return part == 0 ? fine : all;
        }

        int image() {
            image = new int[21];
            System.arraycopy(high, 0, image, 0, 9);
            System.arraycopy(stick, 0, image, 9, 9);
            image[18] = want;
            image[19] = law;
            imageFrom = new ArrayList<>();
            for (ModelWalker one : walkers) {
                imageFrom.add(one.from);
            }
            return walkers.size();
        }

        int back() {
            if (image == null) {
                return -3;
            }
            high = Arrays.copyOfRange(image, 0, 9);
            stick = Arrays.copyOfRange(image, 9, 18);
            want = image[18];
            law = image[19];
            walkers = new ArrayList<>(walkers.subList(0, imageFrom.size()));
            for (int w = 0; w < walkers.size(); w++) {
                walkers.get(w).from = imageFrom.get(w);
            }
            return walkers.size();
        }

        int sheet(int s, int sort, int n) {
            if (bad(s, 0, 3) || bad(sort, -1, 2) || sort >= 0 && n > 40) {
                return -2;
            }
            if (sort >= 0 && n < 0) {
                return -14;
            }
            sheets[s] = sort == -1 ? null : sort == 0 ? new byte[n] : sort == 1 ? new short[n] : new int[n];
            return 1;
        }

        int cell(int s, int i, int v) {
            if (bad(s, 0, 3)) {
                return -2;
            }
            if (sheets[s] == null) {
                return -11;
            }
            if (bad(i, 0, numbers(s).length - 1)) {
                return -12;
            }
            if (sheets[s] instanceof byte[]) {
                ((byte[]) sheets[s])[i] = (byte) v;
            } else if (sheets[s] instanceof short[]) {
                ((short[]) sheets[s])[i] = (short) v;
            } else {
                ((int[]) sheets[s])[i] = v;
            }
            return 1;
        }

        int copy(int s, int i, int other, int j, int n) {
            if (bad(s, 0, 3) || bad(other, 0, 3)) {
                return -2;
            }
            if (sheets[s] == null || sheets[other] == null) {
                return -11;
            }
            try {
                System.arraycopy(sheets[s], i, sheets[other], j, n);
                return n;
            } catch (ArrayStoreException e) {
                return -13;
            } catch (IndexOutOfBoundsException e) {
                return -12;
            }
        }

        int walkersBy(int s, int sort, int at1, int n) {
            if (bad(s, 0, 3) || bad(sort, 0, 2) || bad(n, 0, 5)) {
                return -2;
            }
            if (sheets[s] == null) {
                return -11;
            }
            if (sort == 0 && !(sheets[s] instanceof byte[]) || sort == 1 && !(sheets[s] instanceof short[]) || sort == 2 && !(sheets[s] instanceof int[])) {
                return -13;
            }
            int[] row = numbers(s);
            int came = 0;
            try {
                for (int k = 0; k < n; k++) {
                    int i = at1 + 3 * k;
                    came += walker(row[i], row[i + 1], row[i + 2]) >= 0 ? 1 : 0;
                }
            } catch (ArrayIndexOutOfBoundsException e) {
                return -12;
            }
            return came;
        }

        int taken(int i, int kind) {
            if (bad(kind, 0, 6)) {
                return -2;
            }
            if (bad(i, 0, 13)) {
                return -12;
            }
            if (i < 9) {
                return high[i] == 0 ? -11 : kind == 6 ? high[i] : -13;
            }
            if (noWalker(i - 9)) {
                return -11;
            }
            String[] areOf = {"0", "01", "02", "013", "024", "05"};
            return kind < 6 && areOf[walkers.get(i - 9).kind].indexOf('0' + kind) >= 0 ? i - 9 : -13;
        }
    }
}
