import java.util.Random;

/** Random runs of 512 calls, as many as an object is used for, on the scheduler and on the oracle. */
public final class RandomRunsTest {
    private static final int RUNS = 12000;
    private static final int CALLS = 512;
    private static final int QUESTIONS_AFTER_A_CALL = 5;
    private static final int QUESTIONS_AT_THE_END = 140;

    private final Checks checks = new Checks();
    private final Random random;
    private final int seed;
    private final StringBuilder log = new StringBuilder();
    private int calls;
    private CoroutineScheduler mine;
    private Oracle other;

    private RandomRunsTest(int seed) {
        this.seed = seed;
        random = new Random(seed);
    }

    public static void main(String[] args) {
        int first = args.length > 0 ? Integer.parseInt(args[0]) : 1;
        int runs = args.length > 1 ? Integer.parseInt(args[1]) : RUNS;
        int wrong = 0;
        for (int seed = first; seed < first + runs && wrong < 3; seed++) {
            RandomRunsTest run = new RandomRunsTest(seed);
            run.play();
            wrong += run.checks.wrong() > 0 ? 1 : 0;
        }
        System.out.println(wrong == 0 ? "all " + runs + " random runs agree" : wrong + " random runs differ");
        if (wrong > 0) {
            System.exit(1);
        }
    }

    private void play() {
        mine = new CoroutineScheduler();
        other = new Oracle();
        for (int program = 0; program < 6; program++) {
            appendText(randomCommand(program));
            both("execute()", () -> mine.execute(), () -> other.execute());
        }
        while (calls < CALLS - QUESTIONS_AT_THE_END && checks.wrong() == 0) {
            randomCall();
            for (int asked = 0; asked < QUESTIONS_AFTER_A_CALL; asked++) {
                randomQuestion();
            }
        }
        while (calls < CALLS) {
            randomQuestion();
        }
        if (checks.wrong() > 0) {
            System.out.println("seed " + seed + ": " + log);
        }
    }

    private int upTo(int most) {
        return random.nextInt(most + 1);
    }

    private String randomCommand(int program) {
        StringBuilder text = new StringBuilder().append(program).append(':');
        int open = 0;
        boolean behindZ = false;
        int size = upTo(20);
        for (int made = 0; made < size && text.length() < 50; made++) {
            String one = randomInstruction(open, behindZ);
            open += "([{".indexOf(one.charAt(0)) >= 0 ? 1 : one.equals(")") ? -1 : 0;
            behindZ = one.equals("z");
            text.append(one);
        }
        if (behindZ) {
            text.append('y');
        }
        for (; open > 0; open--) {
            text.append(')');
        }
        return text.append(';').toString();
    }

    private String randomInstruction(int open, boolean behindZ) {
        String inside = open > 0 ? "pppppx^^)" : "";
        String opening = open < 5 ? "([{{([{" : "";
        String free = "+-wwyz><><??!";
        String signs = behindZ ? "+-wy>z?!" + (open > 0 ? "px" : "") : free + inside + opening;
        char sign = signs.charAt(random.nextInt(signs.length()));
        return sign + operandOf(sign);
    }

    private String operandOf(char sign) {
        switch (sign) {
            case '+':
            case '-':
            case 'w':
            case '[':
            case '!':
                return "" + (1 + upTo(random.nextInt(4) == 0 ? 8 : 3));
            case '^':
            case 'p':
                return "" + upTo(5);
            case '>':
            case '<':
                return "" + upTo(random.nextInt(4) == 0 ? 3 : 1);
            case '?':
                return "" + upTo(1) + upTo(random.nextInt(4) == 0 ? 3 : 1);
            default:
                return "";
        }
    }

    private void appendText(String text) {
        for (int from = 0; from < text.length(); from += 4) {
            int packed = 0;
            for (int i = from; i < Math.min(from + 4, text.length()); i++) {
                packed = packed << 8 | text.charAt(i);
            }
            append(packed);
        }
    }

    private void append(int packed) {
        both("append(" + packed + ")", () -> mine.append(packed), () -> other.append(packed));
    }

    private void randomCall() {
        int kind = upTo(99);
        if (kind < 14) {
            int program = upTo(6);
            both("start(" + program + ")", () -> mine.start(program), () -> other.start(program));
        } else if (kind < 60) {
            int turns = upTo(2) > 0 ? 1 + upTo(3) : upTo(3) > 0 ? 1 + upTo(12) : upTo(101);
            both("run(" + turns + ")", () -> mine.run(turns), () -> other.run(turns));
        } else if (kind < 70) {
            int task = upTo(24);
            both("cancel(" + task + ")", () -> mine.cancel(task), () -> other.cancel(task));
        } else if (kind < 74) {
            both("save()", () -> mine.save(), () -> other.save());
        } else if (kind < 78) {
            both("restore()", () -> mine.restore(), () -> other.restore());
        } else if (kind < 80) {
            both("reset()", () -> mine.reset(), () -> other.reset());
            appendText("#" + upTo(3) + upTo(3) + ";#" + upTo(1) + upTo(3) + ";");
            both("execute()", () -> mine.execute(), () -> other.execute());
        } else if (kind < 90) {
            randomText();
            both("execute()", () -> mine.execute(), () -> other.execute());
        } else {
            oddQuestions();
        }
    }

    private void randomText() {
        int kind = upTo(9);
        StringBuilder text = new StringBuilder(randomCommand(upTo(5)));
        if (kind == 0) {
            text.append('#').append(upTo(4)).append(upTo(4)).append(';');
        } else if (kind < 5) {
            String signs = "0123456789:;#+-wyz([{)^px><?!~";
            text.setCharAt(random.nextInt(text.length()), signs.charAt(random.nextInt(signs.length())));
        } else if (kind == 5) {
            text.setLength(random.nextInt(text.length()));
        } else if (kind == 6) {
            text.setLength(0);
            text.append(upTo(5)).append(':');
            for (int made = upTo(1) + 23; made > 0; made--) {
                text.append("yz(".charAt(upTo(20) / 10));
            }
            text.append("y;");
        } else if (kind == 7) {
            append(random.nextInt());
        }
        appendText(text.toString());
    }

    private void oddQuestions() {
        int a = odd();
        int b = odd();
        int c = odd();
        String arguments = "(" + a + ", " + b + ", " + c + ")";
        both("program" + arguments, () -> mine.program(a, b), () -> other.program(a, b));
        both("task" + arguments, () -> mine.task(a, b), () -> other.task(a, b));
        both("scope" + arguments, () -> mine.scope(a, b), () -> other.scope(a, b));
        both("failure" + arguments, () -> mine.failure(a, b, c), () -> other.failure(a, b, c));
        both("ready" + arguments, () -> mine.ready(a), () -> other.ready(a));
        both("ended" + arguments, () -> mine.ended(a), () -> other.ended(a));
        both("isAbove" + arguments, () -> mine.isAbove(a, b) ? 1 : 0, () -> other.isAbove(a, b) ? 1 : 0);
        both("scopeOf" + arguments, () -> mine.scopeOf(a, b), () -> other.scopeOf(a, b));
        both("channel" + arguments, () -> mine.channel(a, b), () -> other.channel(a, b));
        both("content" + arguments, () -> mine.content(a, b), () -> other.content(a, b));
        both("count" + arguments, () -> mine.count(a), () -> other.count(a));
        if (upTo(1) == 0) {
            both("run" + arguments, () -> mine.run(a), () -> other.run(a));
            both("start" + arguments, () -> mine.start(a), () -> other.start(a));
            both("cancel" + arguments, () -> mine.cancel(a), () -> other.cancel(a));
        }
    }

    private int odd() {
        int[] numbers = {-1, Integer.MIN_VALUE, Integer.MAX_VALUE, upTo(60), upTo(24), upTo(4), upTo(2), -upTo(9)};
        return numbers[random.nextInt(numbers.length)];
    }

    private void both(String name, Checks.Call first, Checks.Call second) {
        calls++;
        String due = Checks.answerOf(second);
        log.append(name).append(' ').append(due).append("; ");
        checks.expect(name, Checks.answerOf(first), due);
    }

    private void randomQuestion() {
        int kind = upTo(99);
        int task = upTo(Math.min(other.count(0), 23));
        int scope = upTo(Math.min(other.count(3), 59));
        if (kind < 10) {
            int what = upTo(12);
            both("count(" + what + ")", () -> mine.count(what), () -> other.count(what));
        } else if (kind < 40) {
            int what = upTo(9);
            both("task(" + task + ", " + what + ")", () -> mine.task(task, what), () -> other.task(task, what));
        } else if (kind < 55) {
            int what = upTo(7);
            both("scope(" + scope + ", " + what + ")", () -> mine.scope(scope, what), () -> other.scope(scope, what));
        } else if (kind < 70) {
            int depth = upTo(upTo(1) == 0 ? 0 : 5);
            int what = upTo(1);
            both("failure(" + task + ", " + depth + ", " + what + ")", () -> mine.failure(task, depth, what),
                () -> other.failure(task, depth, what));
        } else {
            randomOtherQuestion(kind, task);
        }
    }

    private void randomOtherQuestion(int kind, int task) {
        int index = upTo(upTo(1) == 0 ? 3 : 23);
        int channel = upTo(3);
        int program = upTo(5);
        if (kind < 74) {
            both("next()", () -> mine.next(), () -> other.next());
        } else if (kind < 76) {
            both("errorPosition()", () -> mine.errorPosition(), () -> other.errorPosition());
        } else if (kind < 80) {
            int level = upTo(4);
            both("scopeOf(" + task + ", " + level + ")", () -> mine.scopeOf(task, level),
                () -> other.scopeOf(task, level));
        } else if (kind < 84) {
            both("ready(" + index + ")", () -> mine.ready(index), () -> other.ready(index));
        } else if (kind < 88) {
            both("ended(" + index + ")", () -> mine.ended(index), () -> other.ended(index));
        } else if (kind < 90) {
            both("isAbove(" + index + ", " + task + ")", () -> mine.isAbove(index, task) ? 1 : 0,
                () -> other.isAbove(index, task) ? 1 : 0);
        } else if (kind < 94) {
            int what = upTo(3);
            both("channel(" + channel + ", " + what + ")", () -> mine.channel(channel, what),
                () -> other.channel(channel, what));
        } else if (kind < 97) {
            int place = upTo(2);
            both("content(" + channel + ", " + place + ")", () -> mine.content(channel, place),
                () -> other.content(channel, place));
        } else {
            int place = index - 1;
            both("program(" + program + ", " + place + ")", () -> mine.program(program, place),
                () -> other.program(program, place));
        }
    }
}
