import java.util.NoSuchElementException;

/** A new scheduler with short ways to give it texts and to compare its answers. */
final class Trial {
    static final Class<IllegalArgumentException> ARGUMENT = IllegalArgumentException.class;
    static final Class<IllegalStateException> STATE = IllegalStateException.class;
    static final Class<IndexOutOfBoundsException> INDEX = IndexOutOfBoundsException.class;
    static final Class<NoSuchElementException> ELEMENT = NoSuchElementException.class;

    final CoroutineScheduler x = new CoroutineScheduler();
    final Checks checks;
    private final String name;

    Trial(Checks checks, String name) {
        this.checks = checks;
        this.name = name;
    }

    static int pack(String text) {
        int packed = 0;
        for (int index = 0; index < text.length(); index++) {
            packed = packed << 8 | text.charAt(index);
        }
        return packed;
    }

    /** Appends a text to the buffer. */
    void write(String text) {
        for (int from = 0; from < text.length(); from += 4) {
            x.append(pack(text.substring(from, Math.min(from + 4, text.length()))));
        }
    }

    /** Executes commands one by one, for those that are longer than the buffer together. */
    Trial load(String... commands) {
        for (String command : commands) {
            write(command);
            due("execute() of " + command, () -> x.execute(), command.chars().filter(c -> c == ';').count());
        }
        return this;
    }

    /** Another new scheduler under the same name. */
    Trial another() {
        return new Trial(checks, name);
    }

    /** A new scheduler executes the text. */
    void fits(String text) {
        another().load(text);
    }

    /** A new scheduler finds an error in the text, at a position. */
    void refuses(String text, int position) {
        Trial t = another();
        t.write(text);
        t.dueThrow("execute() of " + text, () -> t.x.execute(), ARGUMENT);
        t.due("errorPosition() of " + text, () -> t.x.errorPosition(), position);
    }

    void due(String call, Checks.Call answer, long want) {
        checks.due(name + ": " + call, answer, want);
    }

    void dueThrow(String call, Checks.Call answer, Class<? extends RuntimeException> want) {
        checks.dueThrow(name + ": " + call, answer, want);
    }

    void expect(String what, Object got, Object want) {
        checks.expect(name + ": " + what, "" + got, "" + want);
    }

    void start(int program, int want) {
        due("start(" + program + ")", () -> x.start(program), want);
    }

    void run(int turns, int want) {
        due("run(" + turns + ")", () -> x.run(turns), want);
    }

    void cancel(int task, int want) {
        due("cancel(" + task + ")", () -> x.cancel(task), want);
    }

    void next(int want) {
        due("next()", () -> x.next(), want);
    }

    void task(int task, int what, int want) {
        due("task(" + task + ", " + what + ")", () -> x.task(task, what), want);
    }

    void scope(int scope, int what, int want) {
        due("scope(" + scope + ", " + what + ")", () -> x.scope(scope, what), want);
    }

    void failure(int task, int depth, int code, int failed) {
        due("failure(" + task + ", " + depth + ", 0)", () -> x.failure(task, depth, 0), code);
        due("failure(" + task + ", " + depth + ", 1)", () -> x.failure(task, depth, 1), failed);
    }

    void noFailure(int task, int depth) {
        dueThrow("failure(" + task + ", " + depth + ", 0)", () -> x.failure(task, depth, 0), ELEMENT);
    }

    void channel(int channel, int what, int want) {
        due("channel(" + channel + ", " + what + ")", () -> x.channel(channel, what), want);
    }

    void count(int what, int want) {
        due("count(" + what + ")", () -> x.count(what), want);
    }

    void append(String characters, int want) {
        due("append of " + characters, () -> x.append(pack(characters)), want);
    }

    void program(int program, int place, int want) {
        due("program(" + program + ", " + place + ")", () -> x.program(program, place), want);
    }

    void reset(int want) {
        due("reset()", () -> x.reset(), want);
    }

    void save(int want) {
        due("save()", () -> x.save(), want);
    }

    void restore(int want) {
        due("restore()", () -> x.restore(), want);
    }

    void errorPosition(int want) {
        due("errorPosition()", () -> x.errorPosition(), want);
    }

    void isAbove(int task, int other, boolean want) {
        due("isAbove(" + task + ", " + other + ")", () -> x.isAbove(task, other) ? 1 : 0, want ? 1 : 0);
    }

    void scopeOf(int task, int level, int want) {
        due("scopeOf(" + task + ", " + level + ")", () -> x.scopeOf(task, level), want);
    }

    /** Compares the properties of a task from 0 on. */
    void wholeTask(int task, int... want) {
        for (int what = 0; what < want.length; what++) {
            task(task, what, want[what]);
        }
    }

    /** Compares the properties of a scope from 0 on. */
    void wholeScope(int scope, int... want) {
        for (int what = 0; what < want.length; what++) {
            scope(scope, what, want[what]);
        }
    }

    /** Compares all numbers in a channel. */
    void content(int channel, int... want) {
        channel(channel, 1, want.length);
        for (int index = 0; index < want.length; index++) {
            int here = index;
            due("content(" + channel + ", " + here + ")", () -> x.content(channel, here), want[here]);
        }
        dueThrow("content(" + channel + ", " + want.length + ")", () -> x.content(channel, want.length), ELEMENT);
    }

    /** Makes all turns that can be made, as far as tasks can need them; answers how many there were. */
    int finish() {
        int made = 0;
        for (int round = 0; round < 20; round++) {
            int last = x.run(100);
            made += last;
            if (last < 100) {
                return made;
            }
        }
        return made;
    }

    /** Makes all turns that can be made, and compares how many there were. */
    void runAll(int want) {
        due("turns to the end", () -> finish(), want);
    }

    /** Compares the whole ready queue. */
    void queue(int... want) {
        count(2, want.length);
        for (int index = 0; index < want.length; index++) {
            int here = index;
            due("ready(" + here + ")", () -> x.ready(here), want[here]);
        }
        dueThrow("ready(" + want.length + ")", () -> x.ready(want.length), ELEMENT);
    }

    /** Compares all tasks that ended. */
    void endings(int... want) {
        for (int index = 0; index < want.length; index++) {
            int here = index;
            due("ended(" + here + ")", () -> x.ended(here), want[here]);
        }
        dueThrow("ended(" + want.length + ")", () -> x.ended(want.length), ELEMENT);
    }
}
