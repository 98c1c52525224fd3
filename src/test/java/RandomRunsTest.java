import java.util.Random;

/** Random runs of calls on the scheduler and on the oracle; after each call their whole states are compared. */
public final class RandomRunsTest {
    private static final int RUNS = 400;
    private static final int CALLS = 120;

    private final Checks checks = new Checks();
    private final Random random;
    private final int seed;
    private final StringBuilder log = new StringBuilder();
    private CoroutineScheduler mine;
    private Oracle other;

    private RandomRunsTest(int seed) {
        this.seed = seed;
        random = new Random(seed);
    }

    public static void main(String[] args) {
        int first = args.length > 0 ? Integer.parseInt(args[0]) : 1;
        int runs = args.length > 1 ? Integer.parseInt(args[1]) : RUNS;
        int wrong = 0;
        for (int seed = first; seed < first + runs && wrong < 3; seed++) {
            RandomRunsTest run = new RandomRunsTest(seed);
            run.play();
            wrong += run.checks.wrong() > 0 ? 1 : 0;
        }
        System.out.println(wrong == 0 ? "all " + runs + " random runs agree" : wrong + " random runs differ");
        if (wrong > 0) {
            System.exit(1);
        }
    }

    private void play() {
        mine = new CoroutineScheduler();
        other = new Oracle();
        for (int program = 0; program < 6; program++) {
            appendText(randomCommand(program));
            both("execute()", () -> mine.execute(), () -> other.execute());
        }
        for (int call = 0; call < CALLS && checks.wrong() == 0; call++) {
            randomCall();
            compareStates();
        }
        if (checks.wrong() > 0) {
            System.out.println("seed " + seed + ": " + log);
        }
    }

    private int upTo(int most) {
        return random.nextInt(most + 1);
    }

    private String randomCommand(int program) {
        StringBuilder text = new StringBuilder().append(program).append(':');
        int open = 0;
        boolean behindZ = false;
        int size = upTo(20);
        for (int made = 0; made < size && text.length() < 50; made++) {
            String one = randomInstruction(open, behindZ);
            open += "([{".indexOf(one.charAt(0)) >= 0 ? 1 : one.equals(")") ? -1 : 0;
            behindZ = one.equals("z");
            text.append(one);
        }
        if (behindZ) {
            text.append('y');
        }
        for (; open > 0; open--) {
            text.append(')');
        }
        return text.append(';').toString();
    }

    private String randomInstruction(int open, boolean behindZ) {
        String inside = open > 0 ? "pppppx^^)" : "";
        String opening = open < 5 ? "([{{([{" : "";
        String free = "+-wwyz><><??!";
        String signs = behindZ ? "+-wy>z?!" + (open > 0 ? "px" : "") : free + inside + opening;
        char sign = signs.charAt(random.nextInt(signs.length()));
        return sign + operandOf(sign);
    }

    private String operandOf(char sign) {
        switch (sign) {
            case '+':
            case '-':
            case 'w':
            case '[':
            case '!':
                return "" + (1 + upTo(random.nextInt(4) == 0 ? 8 : 3));
            case '^':
            case 'p':
                return "" + upTo(5);
            case '>':
            case '<':
                return "" + upTo(random.nextInt(4) == 0 ? 3 : 1);
            case '?':
                return "" + upTo(1) + upTo(random.nextInt(4) == 0 ? 3 : 1);
            default:
                return "";
        }
    }

    private void appendText(String text) {
        for (int from = 0; from < text.length(); from += 4) {
            int packed = 0;
            for (int i = from; i < Math.min(from + 4, text.length()); i++) {
                packed = packed << 8 | text.charAt(i);
            }
            append(packed);
        }
    }

    private void append(int packed) {
        both("append(" + packed + ")", () -> mine.append(packed), () -> other.append(packed));
    }

    private void randomCall() {
        int kind = upTo(99);
        if (kind < 14) {
            int program = upTo(6);
            both("start(" + program + ")", () -> mine.start(program), () -> other.start(program));
        } else if (kind < 60) {
            int turns = upTo(2) > 0 ? 1 + upTo(3) : upTo(3) > 0 ? 1 + upTo(12) : upTo(101);
            both("run(" + turns + ")", () -> mine.run(turns), () -> other.run(turns));
        } else if (kind < 70) {
            int task = upTo(24);
            both("cancel(" + task + ")", () -> mine.cancel(task), () -> other.cancel(task));
        } else if (kind < 74) {
            both("save()", () -> mine.save(), () -> other.save());
        } else if (kind < 78) {
            both("restore()", () -> mine.restore(), () -> other.restore());
        } else if (kind < 80) {
            both("reset()", () -> mine.reset(), () -> other.reset());
            appendText("#" + upTo(3) + upTo(3) + ";#" + upTo(1) + upTo(3) + ";");
            both("execute()", () -> mine.execute(), () -> other.execute());
        } else if (kind < 90) {
            randomText();
            both("execute()", () -> mine.execute(), () -> other.execute());
        } else {
            oddQuestions();
        }
    }

    private void randomText() {
        int kind = upTo(9);
        StringBuilder text = new StringBuilder(randomCommand(upTo(5)));
        if (kind == 0) {
            text.append('#').append(upTo(4)).append(upTo(4)).append(';');
        } else if (kind < 5) {
            String signs = "0123456789:;#+-wyz([{)^px><?!~";
            text.setCharAt(random.nextInt(text.length()), signs.charAt(random.nextInt(signs.length())));
        } else if (kind == 5) {
            text.setLength(random.nextInt(text.length()));
        } else if (kind == 6) {
            text.setLength(0);
            text.append(upTo(5)).append(':');
            for (int made = upTo(1) + 23; made > 0; made--) {
                text.append("yz(".charAt(upTo(20) / 10));
            }
            text.append("y;");
        } else if (kind == 7) {
            append(random.nextInt());
        }
        appendText(text.toString());
    }

    private void oddQuestions() {
        int a = odd();
        int b = odd();
        int c = odd();
        String arguments = "(" + a + ", " + b + ", " + c + ")";
        both("program" + arguments, () -> mine.program(a, b), () -> other.program(a, b));
        both("task" + arguments, () -> mine.task(a, b), () -> other.task(a, b));
        both("scope" + arguments, () -> mine.scope(a, b), () -> other.scope(a, b));
        both("failure" + arguments, () -> mine.failure(a, b, c), () -> other.failure(a, b, c));
        both("ready" + arguments, () -> mine.ready(a), () -> other.ready(a));
        both("ended" + arguments, () -> mine.ended(a), () -> other.ended(a));
        both("isAbove" + arguments, () -> mine.isAbove(a, b) ? 1 : 0, () -> other.isAbove(a, b) ? 1 : 0);
        both("scopeOf" + arguments, () -> mine.scopeOf(a, b), () -> other.scopeOf(a, b));
        both("channel" + arguments, () -> mine.channel(a, b), () -> other.channel(a, b));
        both("content" + arguments, () -> mine.content(a, b), () -> other.content(a, b));
        both("count" + arguments, () -> mine.count(a), () -> other.count(a));
        if (upTo(1) == 0) {
            both("run" + arguments, () -> mine.run(a), () -> other.run(a));
            both("start" + arguments, () -> mine.start(a), () -> other.start(a));
            both("cancel" + arguments, () -> mine.cancel(a), () -> other.cancel(a));
        }
    }

    private int odd() {
        int[] numbers = {-1, Integer.MIN_VALUE, Integer.MAX_VALUE, upTo(60), upTo(24), upTo(4), upTo(2), -upTo(9)};
        return numbers[random.nextInt(numbers.length)];
    }

    private void both(String name, Checks.Call first, Checks.Call second) {
        String due = Checks.answerOf(second);
        log.append(name).append(' ').append(due).append("; ");
        checks.expect(name, Checks.answerOf(first), due);
    }

    private void same(String name, Checks.Call first, Checks.Call second) {
        checks.expect(name, Checks.answerOf(first), Checks.answerOf(second));
    }

    private void compareStates() {
        same("next()", () -> mine.next(), () -> other.next());
        same("errorPosition()", () -> mine.errorPosition(), () -> other.errorPosition());
        for (int what = 0; what <= 12; what++) {
            int w = what;
            same("count " + w, () -> mine.count(w), () -> other.count(w));
        }
        for (int task = 0; task < other.count(0); task++) {
            compareTask(task);
        }
        for (int scope = 0; scope < other.count(3); scope++) {
            for (int what = 0; what <= 7; what++) {
                int s = scope;
                int w = what;
                same("scope " + s + " " + w, () -> mine.scope(s, w), () -> other.scope(s, w));
            }
        }
        compareRest();
    }

    private void compareTask(int task) {
        for (int what = 0; what <= 9; what++) {
            int w = what;
            same("task " + task + " " + w, () -> mine.task(task, w), () -> other.task(task, w));
        }
        for (int depth = 0; depth < 6; depth++) {
            int d = depth;
            same("failure code", () -> mine.failure(task, d, 0), () -> other.failure(task, d, 0));
            same("failure task", () -> mine.failure(task, d, 1), () -> other.failure(task, d, 1));
            same("scopeOf", () -> mine.scopeOf(task, d), () -> other.scopeOf(task, d));
        }
        int lower = upTo(23);
        same("isAbove", () -> mine.isAbove(task, lower) ? 1 : 0, () -> other.isAbove(task, lower) ? 1 : 0);
        same("ready", () -> mine.ready(task), () -> other.ready(task));
        same("ended", () -> mine.ended(task), () -> other.ended(task));
    }

    private void compareRest() {
        for (int channel = 0; channel < 4; channel++) {
            for (int what = 0; what < 4; what++) {
                int c = channel;
                int w = what;
                same("channel " + c + " " + w, () -> mine.channel(c, w), () -> other.channel(c, w));
                same("content " + c + " " + w, () -> mine.content(c, w), () -> other.content(c, w));
            }
        }
        for (int program = 0; program < 6; program++) {
            for (int place = -1; place < 24; place++) {
                int p = program;
                int at = place;
                same("program " + p, () -> mine.program(p, at), () -> other.program(p, at));
            }
        }
    }
}
