import java.util.Random;
import java.util.concurrent.Callable;

/** Random runs of at most 512 calls, on the class and on the model: all answers are the same. */
public final class ModelTest {
    private static final int RUNS = 4000;
    private static final String[] TAGS = {"AAA", "BBB", "CCC", "DDD", "UNS"};
    private static final String[] ODD_TAGS = {"UNB", "UNZ", "UNG", "UNE", "UNH", "UNT", "A1A", "aaa"};
    private static final int[] ODD = {-3, -2, -1, 4, 24, 99, 100, Integer.MAX_VALUE, Integer.MIN_VALUE};

    private final Random random;
    private final int run;
    private final Desk desk = new Desk();
    private final Model model = new Model();
    private int calls = 0;
    private static final int[] reads = new int[3];
    private static final int[] codes = new int[8];

    private ModelTest(int run) {
        this.run = run;
        this.random = new Random(run);
    }

    public static void main(String[] args) {
        for (int run = 0; run < RUNS; run++) {
            new ModelTest(run).go();
        }
        // The runs are of no use if they do not come to all that may happen.
        for (int k = 0; k < 3; k++) {
            Check.due("more than 500 reads of kind " + k, reads[k] > 500, true);
        }
        for (int k = 0; k < 8; k++) {
            Check.due("more than 200 messages with code " + k + " of " + codes[k], codes[k] > 200, true);
        }
        Check.end();
    }

    private void same(String what, Callable<?> one, Callable<?> other) {
        calls++;
        if (calls <= 512) {
            Check.due("run " + run + ", call " + calls + ", " + what, Check.answer(one), Check.answer(other));
        }
    }

    private boolean odds(int in) {
        return random.nextInt(in) == 0;
    }

    private int small(int below) {
        return odds(25) ? ODD[random.nextInt(ODD.length)] : random.nextInt(below);
    }

    private void go() {
        int types = 1 + random.nextInt(2);
        for (int k = random.nextInt(40); k >= 0; k--) {
            changeTable(types);
        }
        while (calls < 400) {
            read(types);
            for (int k = random.nextInt(6); k > 0; k--) {
                changeTable(types);
            }
        }
    }

    private void changeTable(int types) {
        int type = odds(40) ? small(4) : random.nextInt(types);
        int most = odds(25) ? ODD[random.nextInt(ODD.length)] : 1 + random.nextInt(3);
        boolean must = odds(3);
        int kind = random.nextInt(30);
        if (kind < 16) {
            String letters = odds(20) ? ODD_TAGS[random.nextInt(ODD_TAGS.length)] : TAGS[random.nextInt(TAGS.length)];
            int tag = odds(50) ? random.nextInt() : Check.tag(letters);
            boolean trigger = odds(3);
            same("slot", () -> desk.slot(type, tag, must || trigger, trigger ? 1 : most),
                    () -> model.slot(type, tag, must || trigger, trigger ? 1 : most));
        } else if (kind < 23) {
            same("open", () -> desk.open(type, must, most), () -> model.open(type, must, most));
        } else if (kind < 29) {
            same("close", () -> desk.close(type), () -> model.close(type));
        } else {
            same("clear", () -> desk.clear(type), () -> model.clear(type));
        }
    }

    private String marks = ":+?'";

    private String reference() {
        StringBuilder some = new StringBuilder();
        for (int k = random.nextInt(3); k >= 0; k--) {
            char c = "abc?:+'".charAt(odds(3) ? random.nextInt(7) : random.nextInt(3));
            if (marks.indexOf(c) >= 0 && marks.charAt(2) != ' ') {
                some.append(marks.charAt(2));
            }
            if (marks.indexOf(c) < 0 || marks.charAt(2) != ' ') {
                some.append(c);
            }
        }
        return odds(30) ? "" : some.toString();
    }

    private String segment(String tag, String... elements) {
        StringBuilder some = new StringBuilder(tag);
        for (String element : elements) {
            some.append(marks.charAt(1)).append(element);
            for (int k = odds(9) ? random.nextInt(4) : 0; k > 0; k--) {
                some.append(marks.charAt(0)).append(odds(2) ? reference() : "");
            }
        }
        for (int k = odds(9) ? random.nextInt(4) : 0; k > 0; k--) {
            some.append(marks.charAt(1)).append(odds(2) ? reference() : "");
        }
        return some.append(marks.charAt(3)).toString();
    }

    private String count(int due) {
        return odds(20) ? Integer.toString(random.nextInt(12)) : (odds(40) ? "0" : "") + due;
    }

    private String end(String tag, int due, String reference) {
        return segment(tag, count(due), odds(20) ? reference() : reference);
    }

    private String message(int types) {
        String reference = reference();
        int inner = random.nextInt(7);
        StringBuilder some = new StringBuilder(segment("UNH", reference, odds(20) ? "7" : "" + random.nextInt(types)));
        int tag = 0;
        for (int k = 0; k < inner; k++) {
            tag = odds(4) ? random.nextInt(TAGS.length) : tag;
            some.append(segment(odds(150) ? ODD_TAGS[random.nextInt(6)] : TAGS[tag]));
            tag = odds(3) ? tag : (tag + 1) % TAGS.length;
        }
        return some.append(end("UNT", inner + 2, reference)).toString();
    }

    private String interchange(int types) {
        marks = odds(3) ? odds(2) ? "!%#*" : ";,?+" : ":+?'";
        boolean none = odds(8);
        marks = none ? marks.substring(0, 2) + " " + marks.charAt(3) : marks;
        String head = marks.equals(":+?'") && odds(2)
                ? "" : "UNA" + marks.substring(0, 2) + "." + marks.charAt(2) + " " + marks.charAt(3);
        String reference = reference();
        StringBuilder some = new StringBuilder(head).append(segment("UNB", "", "", reference));
        int outer = random.nextInt(4) + (odds(30) ? 0 : 1);
        boolean grouped = odds(3);
        for (int k = 0; k < outer; k++) {
            if (!grouped) {
                some.append(message(types));
                continue;
            }
            String group = reference();
            some.append(segment("UNG", group));
            int inner = random.nextInt(3) + (odds(30) ? 0 : 1);
            for (int j = 0; j < inner; j++) {
                some.append(message(types));
            }
            some.append(end("UNE", inner, group));
        }
        return some.append(end("UNZ", outer, reference)).toString();
    }

    private String spoilt(String some) {
        if (some.isEmpty()) {
            return some;
        }
        int at = odds(3) ? random.nextInt(Math.min(12, some.length())) : random.nextInt(some.length());
        char c = odds(2) ? (char) (32 + random.nextInt(95)) : marks.charAt(random.nextInt(4));
        switch (random.nextInt(4)) {
            case 0:
                return some.substring(0, at) + c + some.substring(at);
            case 1:
                return some.substring(0, at) + c + some.substring(at + 1);
            case 2:
                return some.substring(0, at) + some.substring(at + 1);
            default:
                return some.substring(0, at);
        }
    }

    private void type(String some) {
        int at = 0;
        while (at < some.length()) {
            long part = 0;
            int took = 0;
            for (int k = 0; k < 8; k++) {
                boolean take = at + took < some.length() && !odds(20);
                part = part << 8 | (take ? some.charAt(at + took) : 0);
                took += take ? 1 : 0;
            }
            long full = part;
            at += took;
            same("type", () -> desk.type(full), () -> model.type(full));
        }
        if (odds(10)) {
            long any = random.nextLong();
            same("type", () -> desk.type(any), () -> model.type(any));
        }
    }

    private void read(int types) {
        String some = interchange(types);
        for (int k = odds(3) ? 1 + random.nextInt(3) : 0; k > 0; k--) {
            some = spoilt(some);
        }
        if (!odds(20)) {
            calls++;
            desk.wipe();
            model.wipe();
        }
        type(some);
        same("length", desk::length, model::length);
        if (calls < 512) {
            String answer = Check.answer(model::read);
            reads[answer.equals(Check.ARGUMENT) ? 0 : answer.equals(Check.UNSUPPORTED) ? 1 : 2]++;
            same("read " + some, desk::read, () -> answer);
        }
        same("fault", desk::fault, model::fault);
        same("length", desk::length, model::length);
        look();
    }

    private void look() {
        for (int k = -1; k < 5; k++) {
            int which = k;
            same("interchange", () -> desk.interchange(which), () -> model.interchange(which));
            int g = small(4);
            same("group", () -> desk.group(g), () -> model.group(g));
        }
        for (int k = 0; k < 12; k++) {
            int m = small(7);
            int w = odds(20) ? small(4) : k % 4;
            same("message", () -> desk.message(m, w), () -> model.message(m, w));
            String code = Check.answer(() -> model.message(m, 0));
            if (w == 0 && code.matches("[0-7]")) {
                codes[Integer.parseInt(code)]++;
            }
        }
        for (int k = 0; k < 25; k++) {
            int s = small(14);
            int e = odds(4) ? -1 - random.nextInt(2) : small(3);
            int c = odds(4) ? -1 : small(2);
            int i = odds(3) ? -1 : small(3);
            same("segment", () -> desk.segment(s, e, c, i), () -> model.segment(s, e, c, i));
        }
        same("print", () -> desk.print(-1), () -> model.print(-1));
        same("report", () -> desk.report(-1), () -> model.report(-1));
        for (int k = 0; k < 25; k++) {
            int i = small(120);
            same("print", () -> desk.print(i), () -> model.print(i));
            same("report", () -> desk.report(i), () -> model.report(i));
        }
    }
}
