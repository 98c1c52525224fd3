import java.util.function.Consumer;

/** What a call that throws leaves as it was, and which exception is thrown if several are possible. */
public final class RefusedCallsTest {
    private static final int LEAST = Integer.MIN_VALUE;
    private static final int MOST = Integer.MAX_VALUE;

    public static void main(String[] args) {
        Sentences.test(RefusedCallsTest.class);
    }

    /** Of two schedulers in the same state, one refuses calls; afterwards both answer the same. */
    private static void unchanged(Trial name, Consumer<Trial> refusedCalls) {
        Trial refusing = Busy.scheduler(name);
        Trial other = Busy.scheduler(name);
        refusedCalls.accept(refusing);
        same(name, refusing, other);
    }

    private static void same(Trial name, Trial one, Trial other) {
        name.expect("errorPosition()", one.x.errorPosition(), other.x.errorPosition());
        name.expect("picture", Busy.picture(one.x), Busy.picture(other.x));
        name.expect("course", Busy.course(one.x), Busy.course(other.x));
        name.expect("rest", Busy.rest(one.x), Busy.rest(other.x));
    }

    @Sentence(in = "Description", says = "A method that throws an exception leaves the state unchanged")
    static void afterAppend(Trial name) {
        unchanged(name, t -> {
            t.dueThrow("append of a space last", () -> t.x.append(Trial.pack("yyy ")), Trial.ARGUMENT);
            t.dueThrow("append of 127 last", () -> t.x.append(Trial.pack("y;") << 16 | 127), Trial.ARGUMENT);
            t.dueThrow("append(-1)", () -> t.x.append(-1), Trial.ARGUMENT);
        });
        Trial full = name.another();
        full.write("0:yyyyyyyyyyyyyyyyyyyyyyyy;1:yyyyyyyyyyyyyyyyyyyyyyyy;2:+1");
        full.count(12, 58);
        full.dueThrow("append of three", () -> full.x.append(Trial.pack(";3:")), Trial.STATE);
        full.dueThrow("append of four", () -> full.x.append(Trial.pack(";3:y")), Trial.STATE);
        full.count(12, 58);
        full.append(";", 59);
        full.due("execute()", () -> full.x.execute(), 3);
        full.program(2, -1, 1);
    }

    /** The buffer and the error position are not unchanged after execute, so they are made the same again. */
    private static void afterExecute(Trial name, String text, Class<? extends RuntimeException> thrown, int error) {
        Trial refusing = Busy.scheduler(name);
        Trial other = Busy.scheduler(name);
        refusing.write(text);
        refusing.dueThrow("execute()", () -> refusing.x.execute(), thrown);
        refusing.errorPosition(error);
        refusing.count(12, 0);
        refusing.write("6");
        refusing.dueThrow("execute()", () -> refusing.x.execute(), Trial.ARGUMENT);
        refusing.write("0:+2");
        same(name, refusing, other);
    }

    @Sentence(in = "Promise 3", says = "The buffer is empty afterwards, also if an exception is thrown; "
        + "then no command is executed.")
    static void afterExecuteOfAnError(Trial name) {
        afterExecute(name, ";1:;#01;2:z;", Trial.ARGUMENT, 15);
        afterExecute(name, ";1:;2:y;3", Trial.ARGUMENT, 13);
    }

    @Sentence(in = "Promise 3", says = "The buffer is empty afterwards, also if an exception is thrown; "
        + "then no command is executed.")
    static void afterExecuteOfARoom(Trial name) {
        afterExecute(name, ";1:;#33;2:y;", Trial.STATE, -1);
        afterExecute(name, ";#02;", Trial.STATE, -1);
    }

    @Sentence(in = "Description", says = "A method that throws an exception leaves the state unchanged")
    static void afterProgram(Trial name) {
        unchanged(name, t -> {
            t.dueThrow("program(6, 0)", () -> t.x.program(6, 0), Trial.INDEX);
            t.dueThrow("program(-1, -1)", () -> t.x.program(-1, -1), Trial.INDEX);
            t.dueThrow("program(0, 24)", () -> t.x.program(0, 24), Trial.INDEX);
        });
    }

    @Sentence(in = "Description", says = "A method that throws an exception leaves the state unchanged")
    static void afterStart(Trial name) {
        unchanged(name, t -> {
            t.dueThrow("start(6)", () -> t.x.start(6), Trial.INDEX);
            t.dueThrow("start(-1)", () -> t.x.start(-1), Trial.INDEX);
        });
        Trial full = name.another().load("0:y;1:!1;");
        for (int task = 0; task < 24; task++) {
            full.start(0, task);
        }
        for (int again = 0; again < 3; again++) {
            full.dueThrow("start(1)", () -> full.x.start(1), Trial.STATE);
        }
        full.count(0, 24);
        full.count(1, 24);
        full.count(2, 24);
        full.due("ready(23)", () -> full.x.ready(23), 23);
        full.runAll(48);
        for (int task = 0; task < 24; task++) {
            full.task(task, 0, 6);
        }
        full.dueThrow("ended(24)", () -> full.x.ended(24), Trial.ELEMENT);
    }

    @Sentence(in = "Description", says = "A method that throws an exception leaves the state unchanged")
    static void afterCancel(Trial name) {
        unchanged(name, t -> {
            for (int wrong : new int[] {-1, 5, 24, MOST, LEAST}) {
                t.dueThrow("cancel(" + wrong + ")", () -> t.x.cancel(wrong), Trial.INDEX);
            }
        });
    }

    @Sentence(in = "Description", says = "A method that throws an exception leaves the state unchanged")
    static void afterRun(Trial name) {
        unchanged(name, t -> {
            for (int wrong : new int[] {0, -1, 101, MOST, LEAST}) {
                t.dueThrow("run(" + wrong + ")", () -> t.x.run(wrong), Trial.ARGUMENT);
            }
        });
    }

    @Sentence(in = "Description", says = "A method that throws an exception leaves the state unchanged")
    static void afterTaskScopeAndFailure(Trial name) {
        unchanged(name, t -> {
            t.dueThrow("task(5, 0)", () -> t.x.task(5, 0), Trial.INDEX);
            t.dueThrow("task(0, 10)", () -> t.x.task(0, 10), Trial.ARGUMENT);
            t.dueThrow("scope(3, 0)", () -> t.x.scope(3, 0), Trial.INDEX);
            t.dueThrow("scope(0, 8)", () -> t.x.scope(0, 8), Trial.ARGUMENT);
            t.dueThrow("failure(5, 0, 0)", () -> t.x.failure(5, 0, 0), Trial.INDEX);
            t.dueThrow("failure(0, 0, 2)", () -> t.x.failure(0, 0, 2), Trial.ARGUMENT);
            t.dueThrow("failure(1, 0, 0)", () -> t.x.failure(1, 0, 0), Trial.ELEMENT);
        });
    }

    @Sentence(in = "Description", says = "A method that throws an exception leaves the state unchanged")
    static void afterReadyEndedIsAboveAndScopeOf(Trial name) {
        unchanged(name, t -> {
            t.dueThrow("ready(-1)", () -> t.x.ready(-1), Trial.ELEMENT);
            t.dueThrow("ready(24)", () -> t.x.ready(24), Trial.ELEMENT);
            t.dueThrow("ended(-1)", () -> t.x.ended(-1), Trial.ELEMENT);
            t.dueThrow("ended(24)", () -> t.x.ended(24), Trial.ELEMENT);
            t.dueThrow("isAbove(0, 5)", () -> t.x.isAbove(0, 5) ? 1 : 0, Trial.INDEX);
            t.dueThrow("isAbove(5, 0)", () -> t.x.isAbove(5, 0) ? 1 : 0, Trial.INDEX);
            t.dueThrow("scopeOf(0, 5)", () -> t.x.scopeOf(0, 5), Trial.INDEX);
            t.dueThrow("scopeOf(5, 0)", () -> t.x.scopeOf(5, 0), Trial.INDEX);
        });
    }

    @Sentence(in = "Description", says = "A method that throws an exception leaves the state unchanged")
    static void afterChannelContentAndCount(Trial name) {
        unchanged(name, t -> {
            t.dueThrow("channel(4, 0)", () -> t.x.channel(4, 0), Trial.INDEX);
            t.dueThrow("channel(0, 4)", () -> t.x.channel(0, 4), Trial.ARGUMENT);
            t.dueThrow("content(-1, 0)", () -> t.x.content(-1, 0), Trial.INDEX);
            t.dueThrow("content(0, 3)", () -> t.x.content(0, 3), Trial.ELEMENT);
            t.dueThrow("count(13)", () -> t.x.count(13), Trial.ARGUMENT);
            t.dueThrow("count(-1)", () -> t.x.count(-1), Trial.ARGUMENT);
        });
    }

    @Sentence(in = "Description", says = "A method that throws an exception leaves the state unchanged")
    static void afterRestore(Trial name) {
        Trial refusing = name.another().load("0:+1w1;");
        Trial other = name.another().load("0:+1w1;");
        refusing.start(0, 0);
        other.start(0, 0);
        refusing.run(2, 2);
        other.run(2, 2);
        refusing.write("5:");
        other.write("5:");
        refusing.dueThrow("restore()", () -> refusing.x.restore(), Trial.STATE);
        refusing.dueThrow("restore()", () -> refusing.x.restore(), Trial.STATE);
        same(name, refusing, other);
    }

    // Which exception

    private static final String FIRST = "If several exceptions are possible, "
        + "the one listed first in the description of the method is thrown.";

    @Sentence(in = "Description", says = FIRST)
    static void firstOfAppend(Trial t) {
        t.write("0:yyyyyyyyyyyyyyyyyyyyyyyy;1:yyyyyyyyyyyyyyyyyyyyyyyy;2:yyy;");
        t.dueThrow("append of a space to 60", () -> t.x.append(' '), Trial.ARGUMENT);
        t.dueThrow("append of a wrong last one to 60", () -> t.x.append(Trial.pack("yyy") << 8 | 200), Trial.ARGUMENT);
        t.dueThrow("append of a right one to 60", () -> t.x.append('y'), Trial.STATE);
    }

    @Sentence(in = "Description", says = FIRST)
    static void firstOfExecute(Trial t) {
        t.load("0:w1;");
        t.start(0, 0);
        t.write("#00;#33;1:y");
        t.dueThrow("execute() with an error at the end", () -> t.x.execute(), Trial.ARGUMENT);
        t.errorPosition(11);
        t.write("#00;#33;1:y;");
        t.dueThrow("execute() without an error", () -> t.x.execute(), Trial.STATE);
        t.errorPosition(-1);
    }

    @Sentence(in = "Description", says = FIRST)
    static void firstOfStart(Trial t) {
        for (int task = 0; task < 24; task++) {
            t.start(0, task);
        }
        for (int wrong : new int[] {-1, 6, MOST, LEAST}) {
            t.dueThrow("start(" + wrong + ")", () -> t.x.start(wrong), Trial.INDEX);
        }
        t.dueThrow("start(0)", () -> t.x.start(0), Trial.STATE);
    }

    @Sentence(in = "Description", says = FIRST)
    static void firstOfTaskAndScope(Trial t) {
        t.load("0:(y);");
        t.start(0, 0);
        t.run(1, 1);
        for (int wrong : new int[] {-1, 1, MOST, LEAST}) {
            t.dueThrow("task(" + wrong + ", -1)", () -> t.x.task(wrong, -1), Trial.INDEX);
            t.dueThrow("task(" + wrong + ", 10)", () -> t.x.task(wrong, 10), Trial.INDEX);
            t.dueThrow("scope(" + wrong + ", -1)", () -> t.x.scope(wrong, -1), Trial.INDEX);
            t.dueThrow("scope(" + wrong + ", 8)", () -> t.x.scope(wrong, 8), Trial.INDEX);
        }
        t.dueThrow("task(0, 10)", () -> t.x.task(0, 10), Trial.ARGUMENT);
        t.dueThrow("scope(0, 8)", () -> t.x.scope(0, 8), Trial.ARGUMENT);
    }

    @Sentence(in = "Description", says = FIRST)
    static void firstOfFailure(Trial t) {
        t.load("0:!1;1:w9;");
        t.start(0, 0);
        t.start(1, 1);
        t.run(3, 3);
        t.dueThrow("failure(2, 0, 2)", () -> t.x.failure(2, 0, 2), Trial.INDEX);
        t.dueThrow("failure(-1, 9, 0)", () -> t.x.failure(-1, 9, 0), Trial.INDEX);
        t.dueThrow("failure(2, -1, -1)", () -> t.x.failure(2, -1, -1), Trial.INDEX);
        t.dueThrow("failure(1, 0, 2)", () -> t.x.failure(1, 0, 2), Trial.ARGUMENT);
        t.dueThrow("failure(0, 1, -1)", () -> t.x.failure(0, 1, -1), Trial.ARGUMENT);
        t.dueThrow("failure(0, -1, 2)", () -> t.x.failure(0, -1, 2), Trial.ARGUMENT);
        t.dueThrow("failure(1, 0, 1)", () -> t.x.failure(1, 0, 1), Trial.ELEMENT);
        t.dueThrow("failure(0, 1, 0)", () -> t.x.failure(0, 1, 0), Trial.ELEMENT);
    }

    @Sentence(in = "Description", says = FIRST)
    static void firstOfChannelAndContent(Trial t) {
        for (int wrong : new int[] {-1, 4, MOST, LEAST}) {
            t.dueThrow("channel(" + wrong + ", -1)", () -> t.x.channel(wrong, -1), Trial.INDEX);
            t.dueThrow("channel(" + wrong + ", 4)", () -> t.x.channel(wrong, 4), Trial.INDEX);
            t.dueThrow("content(" + wrong + ", -1)", () -> t.x.content(wrong, -1), Trial.INDEX);
            t.dueThrow("content(" + wrong + ", 3)", () -> t.x.content(wrong, 3), Trial.INDEX);
        }
        t.dueThrow("channel(0, 4)", () -> t.x.channel(0, 4), Trial.ARGUMENT);
        t.dueThrow("content(0, 0)", () -> t.x.content(0, 0), Trial.ELEMENT);
    }
}
