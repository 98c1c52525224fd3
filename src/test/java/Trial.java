import java.util.NoSuchElementException;

/** A new scheduler with short ways to give it texts and to compare its answers. */
final class Trial {
    static final Class<IllegalArgumentException> ARGUMENT = IllegalArgumentException.class;
    static final Class<IllegalStateException> STATE = IllegalStateException.class;
    static final Class<IndexOutOfBoundsException> INDEX = IndexOutOfBoundsException.class;
    static final Class<NoSuchElementException> ELEMENT = NoSuchElementException.class;

    final CoroutineScheduler x = new CoroutineScheduler();
    final Checks checks;
    private final String name;

    Trial(Checks checks, String name) {
        this.checks = checks;
        this.name = name;
    }

    static int pack(String text) {
        int packed = 0;
        for (int index = 0; index < text.length(); index++) {
            packed = packed << 8 | text.charAt(index);
        }
        return packed;
    }

    /** Appends a text to the buffer. */
    void write(String text) {
        for (int from = 0; from < text.length(); from += 4) {
            x.append(pack(text.substring(from, Math.min(from + 4, text.length()))));
        }
    }

    /** Executes commands one by one, for those that are longer than the buffer together. */
    Trial load(String... commands) {
        for (String command : commands) {
            write(command);
            due("execute() of " + command, () -> x.execute(), command.chars().filter(c -> c == ';').count());
        }
        return this;
    }

    void due(String call, Checks.Call answer, long want) {
        checks.due(name + ": " + call, answer, want);
    }

    void dueThrow(String call, Checks.Call answer, Class<? extends RuntimeException> want) {
        checks.dueThrow(name + ": " + call, answer, want);
    }

    void start(int program, int want) {
        due("start(" + program + ")", () -> x.start(program), want);
    }

    void run(int turns, int want) {
        due("run(" + turns + ")", () -> x.run(turns), want);
    }

    void cancel(int task, int want) {
        due("cancel(" + task + ")", () -> x.cancel(task), want);
    }

    void next(int want) {
        due("next()", () -> x.next(), want);
    }

    void task(int task, int what, int want) {
        due("task(" + task + ", " + what + ")", () -> x.task(task, what), want);
    }

    void scope(int scope, int what, int want) {
        due("scope(" + scope + ", " + what + ")", () -> x.scope(scope, what), want);
    }

    void failure(int task, int depth, int code, int failed) {
        due("failure(" + task + ", " + depth + ", 0)", () -> x.failure(task, depth, 0), code);
        due("failure(" + task + ", " + depth + ", 1)", () -> x.failure(task, depth, 1), failed);
    }

    void noFailure(int task, int depth) {
        dueThrow("failure(" + task + ", " + depth + ", 0)", () -> x.failure(task, depth, 0), ELEMENT);
    }

    void channel(int channel, int what, int want) {
        due("channel(" + channel + ", " + what + ")", () -> x.channel(channel, what), want);
    }

    void count(int what, int want) {
        due("count(" + what + ")", () -> x.count(what), want);
    }

    /** Compares the whole ready queue. */
    void queue(int... want) {
        count(2, want.length);
        for (int index = 0; index < want.length; index++) {
            int here = index;
            due("ready(" + here + ")", () -> x.ready(here), want[here]);
        }
        dueThrow("ready(" + want.length + ")", () -> x.ready(want.length), ELEMENT);
    }

    /** Compares all tasks that ended. */
    void endings(int... want) {
        for (int index = 0; index < want.length; index++) {
            int here = index;
            due("ended(" + here + ")", () -> x.ended(here), want[here]);
        }
        dueThrow("ended(" + want.length + ")", () -> x.ended(want.length), ELEMENT);
    }
}
