/** Boundary cases that the sections Tasks, Scopes, Starting and Closing name. */
public final class TaskBoundsTest {
    public static void main(String[] args) {
        Sentences.test(TaskBoundsTest.class);
    }

    /** Starts tasks of a program, up to a number of tasks, and makes all turns. */
    private static void fill(Trial t, int program, int tasks) {
        for (int task = t.x.count(0); task < tasks; task++) {
            t.start(program, task);
        }
        t.finish();
        t.count(0, tasks);
    }

    // Tasks

    @Sentence(in = "Tasks", says = "There are at most 24 tasks")
    static void twentyFourTasks(Trial t) {
        for (int task = 0; task < 24; task++) {
            t.start(0, task);
        }
        t.dueThrow("start of a 25th", () -> t.x.start(0), Trial.STATE);
        t.count(0, 24);
        t.count(2, 24);
        t.runAll(24);
        t.dueThrow("start of a 25th when all have ended", () -> t.x.start(0), Trial.STATE);
        t.due("ended(23)", () -> t.x.ended(23), 23);
        t.task(23, 0, 6);
        t.dueThrow("task(24, 0)", () -> t.x.task(24, 0), Trial.INDEX);
        t.reset(0);
        t.start(0, 0);
    }

    @Sentence(in = "Tasks", says = "numbered from 0 in the order in which they were started")
    static void tasksInOrder(Trial t) {
        t.load("0:(p1p2);1:;2:(p1);");
        t.start(0, 0);
        t.run(2, 2);
        t.count(0, 2);
        t.task(1, 4, 0);
        t.start(1, 2);
        t.task(2, 4, -1);
        t.run(2, 2);
        t.task(3, 4, 0);
        t.count(0, 4);
        t.run(3, 3);
        t.run(1, 1);
        t.task(4, 4, 1);
        t.count(0, 5);
    }

    @Sentence(in = "Tasks", says = "A task has a program, a place in it, a register, 0 at first, and open scopes")
    static void taskAtFirst(Trial t) {
        t.load("0:+9[9p1);1:-5w1{?01);");
        t.start(0, 0);
        t.run(3, 3);
        t.wholeTask(1, 0, 0, 0, 0, 0, 0, 0, -2, 0, -1);
        t.start(1, 2);
        t.wholeTask(2, 0, 0, 0, 0, -1, 0, 0, -2, 0, -1);
        t.runAll(16);
        t.reset(1);
        t.start(0, 0);
        t.start(1, 1);
        t.wholeTask(0, 0, 0, 0, 0, -1, 0, 0, -2, 0, -1);
        t.wholeTask(1, 0, 0, 0, 0, -1, 0, 0, -2, 0, -1);
    }

    @Sentence(in = "Tasks", says = "the scope that it opened last is its innermost one")
    static void innermostScope(Trial t) {
        t.load("0:(()(p1p1));1:<0;");
        t.start(0, 0);
        t.run(5, 5);
        t.scope(0, 5, 0);
        t.scope(1, 5, 0);
        t.scope(2, 5, 1);
        t.task(0, 3, 2);
        t.scopeOf(0, 1, 2);
        t.cancel(0, 0);
        t.run(2, 2);
        t.scope(2, 3, 1);
        t.scope(0, 3, 0);
    }

    @Sentence(in = "Tasks", says = "The status of a task is 0 ready, 1 sleeping, 2 sending, 3 receiving, 4 choosing, "
        + "5 joining, 6 done, 7 failed or 8 cancelled")
    static void statusOfEachKind(Trial t) {
        t.load("0:;1:w9;2:>0;3:<1;4:?12;5:(p1);");
        for (int program = 0; program < 6; program++) {
            t.start(program, program);
            t.task(program, 0, 0);
        }
        t.run(9, 9);
        int[] want = {6, 1, 2, 3, 4, 5, 1};
        for (int task = 0; task < want.length; task++) {
            t.task(task, 0, want[task]);
        }
        t.load("0:!1;");
        t.start(0, 7);
        t.cancel(2, 0);
        t.run(3, 3);
        t.task(7, 0, 7);
        t.task(2, 0, 8);
    }

    @Sentence(in = "Tasks", says = "so levels begin with 0")
    static void levelsBeginWithZero(Trial t) {
        t.load("0:(([9{()()))))(y);");
        t.start(0, 0);
        t.run(5, 5);
        for (int scope = 0; scope < 5; scope++) {
            t.scope(scope, 1, scope);
        }
        t.run(2, 2);
        t.scope(5, 1, 4);
        t.scope(4, 3, 2);
        t.run(6, 6);
        t.scope(6, 1, 0);
        t.task(0, 3, 1);
        t.scopeOf(0, 0, 6);
    }

    @Sentence(in = "Tasks", says = "A child belongs to the scope in which it was started.")
    static void childOfTheInnermostScope(Trial t) {
        t.load("0:(p1(p1(p1)p1)p1);1:;");
        t.start(0, 0);
        t.runAll(17);
        int[] want = {0, 1, 2, 1, 0};
        for (int child = 0; child < want.length; child++) {
            t.task(child + 1, 4, want[child]);
        }
    }

    @Sentence(in = "Tasks", says = "with the last three it has ended, otherwise it is live")
    static void liveAndEnded(Trial t) {
        t.load("0:y;1:w9;2:>0;3:<1;4:?12;5:(p1);");
        for (int program = 0; program < 6; program++) {
            t.start(program, program);
        }
        t.run(10, 10);
        for (int status = 1; status < 6; status++) {
            t.task(status, 0, status);
        }
        t.task(0, 0, 6);
        t.task(6, 0, 1);
        t.count(1, 6);
        t.start(0, 7);
        t.count(1, 7);
        t.cancel(2, 0);
        t.run(1, 1);
        t.count(1, 7);
        t.run(1, 1);
        t.task(2, 0, 8);
        t.count(1, 6);
        t.load("0:!1;");
        t.start(0, 8);
        t.count(1, 7);
        t.run(2, 2);
        t.task(8, 0, 0);
        t.count(1, 6);
        t.run(1, 1);
        t.task(8, 0, 7);
        t.count(1, 5);
        t.endings(0, 2, 7, 8);
        t.reset(5);
    }

    @Sentence(in = "Tasks", says = "a task that becomes ready goes to its end")
    static void toTheEndOfTheQueue(Trial t) {
        t.load("0:<0;1:yyyy;2:>0y;3:(p1p1);");
        t.start(0, 0);
        t.start(1, 1);
        t.start(2, 2);
        t.queue(0, 1, 2);
        t.run(2, 2);
        t.queue(2, 1);
        t.run(1, 1);
        t.queue(1, 0, 2);
        t.start(3, 3);
        t.queue(1, 0, 2, 3);
        t.run(4, 4);
        t.queue(1, 2, 3);
        t.run(3, 3);
        t.queue(1, 4, 3);
    }

    @Sentence(in = "Tasks",
        says = "Programs that are changed later do not change what a task that was started before executes")
    static void changedPrograms(Trial t) {
        t.load("0:+1(p1)+1;1:+2y+2;");
        t.start(0, 0);
        t.load("0:;");
        t.run(3, 3);
        t.load("1:!9;");
        t.runAll(8);
        t.wholeTask(0, 6, 2, 5);
        t.wholeTask(1, 6, 4, 3);
        t.start(0, 2);
        t.run(9, 1);
        t.task(2, 2, 0);
    }

    @Sentence(in = "Tasks", says = "cleanups are copied when ^ is executed")
    static void copiedCleanups(Trial t) {
        t.load("0:(y^1y);1:+1;");
        t.start(0, 0);
        t.run(2, 2);
        t.load("1:+2;");
        t.run(1, 1);
        t.load("1:+4+4;");
        t.run(2, 2);
        t.load("1:;");
        t.run(1, 1);
        t.task(0, 1, 2);
        t.runAll(3);
        t.task(0, 1, 2);
    }

    // What programs do with scopes

    @Sentence(in = "Programs", says = "^q: q becomes the cleanup of the innermost scope.")
    static void cleanupOfTheInnermostScope(Trial t) {
        t.load("0:(^1(^2^3)(y));1:+1;2:+2;3:+4;");
        t.start(0, 0);
        t.run(5, 5);
        t.scope(0, 7, 1);
        t.scope(1, 7, 1);
        t.run(4, 4);
        t.task(0, 1, 4);
        t.scope(1, 3, 2);
        t.scope(0, 7, 1);
        t.run(3, 3);
        t.scope(2, 3, 2);
        t.scope(2, 7, 0);
        t.task(0, 1, 4);
        t.runAll(5);
        t.task(0, 1, 5);
        t.count(8, 2);
    }

    @Sentence(in = "Programs", says = "x: cancel the live children of the innermost scope.")
    static void cancelInTheInnermostScope(Trial t) {
        t.load("0:(xp1p2(p1p1p2yx));1:<0;2:;");
        t.start(1, 0);
        t.start(0, 1);
        t.run(15, 15);
        t.endings(3, 6);
        t.queue(1);
        t.run(1, 1);
        t.queue(4, 5, 1);
        t.wholeTask(4, 0, 0, 1, 0, 1, 0, 1, -1);
        t.wholeTask(5, 0, 0, 1, 0, 1, 0, 1, -1);
        t.wholeTask(6, 6, 0, 0, 0, 1, 0, 0, -2);
        t.wholeTask(2, 3, 0, 1, 0, 0, 0, 0, -2);
        t.wholeTask(1, 0, 0, 10, 2, -1, 0, 0, -2);
        t.wholeTask(0, 3, 0, 1, 0, -1, 0, 0, -2);
        t.scope(1, 3, 0);
        t.runAll(4);
        t.endings(3, 6, 4, 5);
        t.wholeTask(1, 5, 0, 11, 1);
    }

    // Scopes

    @Sentence(in = "Scopes", says = "There are at most 60 scopes")
    static void sixtyScopes(Trial t) {
        t.load("0:()()()()()()()()()()()();");
        fill(t, 0, 5);
        t.count(3, 60);
        t.count(4, 0);
        for (int scope = 0; scope < 60; scope++) {
            t.scope(scope, 3, 2);
        }
        t.dueThrow("scope(60, 0)", () -> t.x.scope(60, 0), Trial.INDEX);
        t.start(0, 5);
        t.run(1, 1);
        t.count(3, 60);
        t.task(5, 3, 0);
        t.reset(1);
        t.start(0, 0);
        t.run(1, 1);
        t.scope(0, 3, 0);
    }

    @Sentence(in = "Scopes", says = "numbered from 0 in the order in which they were opened")
    static void scopesInOrder(Trial t) {
        t.load("0:([9));1:{)y();");
        t.start(0, 0);
        t.start(1, 1);
        t.run(4, 4);
        t.count(3, 3);
        t.wholeScope(0, 0, 0, 0, 0);
        t.wholeScope(1, 1, 0, 2, 2);
        t.wholeScope(2, 0, 1, 1, 0);
        t.run(4, 4);
        t.wholeScope(2, 0, 1, 1, 2);
        t.wholeScope(3, 1, 0, 0, 0);
    }

    @Sentence(in = "Scopes", says = "A scope is open, closing or ended.")
    static void stateOfAScope(Trial t) {
        t.load("0:(^1p2);1:w1;2:<0;");
        t.start(0, 0);
        t.run(5, 5);
        t.scope(0, 3, 0);
        t.task(0, 0, 5);
        t.cancel(0, 0);
        t.scope(0, 3, 0);
        t.run(1, 1);
        t.scope(0, 3, 1);
        t.run(2, 2);
        t.task(0, 8, 1);
        t.scope(0, 3, 1);
        t.run(4, 4);
        t.scope(0, 3, 2);
        t.count(4, 0);
    }

    @Sentence(in = "Scopes", says = "it is closing, and all its live children are interrupted by cancellation")
    static void closingCancelsLiveChildren(Trial t) {
        t.load("0:(p1p2{p2w1!8)<1)+1;1:;2:<0;3:<0;");
        t.start(3, 0);
        t.start(0, 1);
        t.run(12, 12);
        t.count(5, 1);
        t.task(1, 7, 1);
        t.count(1, 4);
        t.run(1, 1);
        t.scope(1, 3, 1);
        t.scope(0, 3, 0);
        t.wholeTask(4, 0, 0, 1, 0, 1, 0, 1, -1);
        t.task(3, 6, 0);
        t.task(2, 6, 0);
        t.task(0, 6, 0);
        t.run(2, 2);
        t.scope(1, 3, 2);
        t.wholeTask(1, 0, 8, 8, 1);
        t.run(1, 1);
        t.cancel(1, 0);
        t.task(3, 6, 0);
        t.run(1, 1);
        t.scope(0, 3, 1);
        t.wholeTask(3, 0, 0, 1, 0, 0, 0, 1, -1);
        t.wholeTask(2, 6, 0, 0, 0, 0, 0, 0, -2);
        t.wholeTask(0, 3, 0, 1, 0, -1, 0, 0, -2);
        t.runAll(3);
        t.endings(2, 4, 3, 1);
    }

    @Sentence(in = "Scopes", says = "in ascending order")
    static void childrenInAscendingOrder(Trial t) {
        t.load("0:(p1p2p3!9);1:w3;2:<0;3:w1w9;");
        t.start(0, 0);
        t.run(9, 9);
        t.scope(0, 3, 1);
        t.queue(1, 2, 3);
        t.runAll(5);
        t.endings(1, 2, 3, 0);
    }

    // Starting

    @Sentence(in = "Starting", says = "p makes a child, which is ready")
    static void childIsReady(Trial t) {
        t.load("0:(p1);1:;");
        t.start(0, 0);
        t.run(2, 2);
        t.task(1, 0, 0);
        t.queue(1, 0);
        t.scope(0, 4, 1);
        t.scope(0, 5, 1);
    }

    @Sentence(in = "Starting", says = "if there are 24 tasks, the task fails with the code 11 instead")
    static void childWithoutATaskLeft(Trial t) {
        t.load("0:;1:(p0p0y);2:{(p0)y);");
        fill(t, 0, 22);
        t.start(1, 22);
        t.run(2, 2);
        t.count(0, 24);
        t.task(23, 4, 0);
        t.task(22, 6, 0);
        t.run(1, 1);
        t.run(1, 1);
        t.count(0, 24);
        t.wholeTask(22, 0, 0, 3, 1, -1, 0, 3, -1);
        t.failure(22, 0, 11, 22);
        t.noFailure(22, 1);
        t.scope(0, 5, 1);
        t.runAll(2);
        t.task(22, 0, 7);
        t.failure(22, 0, 11, 22);
        t.dueThrow("task(24, 0)", () -> t.x.task(24, 0), Trial.INDEX);
    }

    @Sentence(in = "Starting", says = "if there are 24 tasks, the task fails with the code 11 instead")
    static void childWithoutATaskLeftUnderGuard(Trial t) {
        t.load("0:;1:{(p0)y)+1;");
        fill(t, 0, 23);
        t.start(1, 23);
        t.run(3, 3);
        t.wholeTask(23, 0, 0, 3, 2, -1, 0, 3, 0);
        t.failure(23, 0, 11, 23);
        t.runAll(4);
        t.wholeTask(23, 6, 12, 7);
    }

    @Sentence(in = "Starting", says = "If there are 60 scopes, a task that would open one fails with the code 12.")
    static void scopeWithoutOneLeft(Trial t) {
        t.load("0:()()()()()()()()()()()();1:()()()()()()()()()()();", "2:({+1)+2)+3;3:{y);4:[1y);5:(y);");
        fill(t, 0, 4);
        fill(t, 1, 5);
        t.count(3, 59);
        t.start(2, 5);
        t.run(1, 1);
        t.count(3, 60);
        t.task(5, 6, 0);
        t.run(1, 1);
        t.wholeTask(5, 0, 0, 2, 1, -1, 0, 3, -1);
        t.failure(5, 0, 12, 5);
        t.noFailure(5, 1);
        t.runAll(2);
        for (int program = 3; program <= 5; program++) {
            int task = program + 3;
            t.start(program, task);
            t.run(1, 1);
            t.wholeTask(task, 0, 0, 1, 0, -1, 0, 3, -1);
            t.failure(task, 0, 12, task);
            t.run(9, 1);
            t.task(task, 0, 7);
        }
        t.count(3, 60);
    }

    @Sentence(in = "Starting", says = "If there are 60 scopes, a task that would open one fails with the code 12.")
    static void scopeWithoutOneLeftUnderGuard(Trial t) {
        t.load("0:()()()()()()()()()()()();1:()()()()()()()()()()();", "2:{{+1)+2)+3;");
        fill(t, 0, 4);
        fill(t, 1, 5);
        t.start(2, 5);
        t.run(2, 2);
        t.wholeTask(5, 0, 0, 2, 1, -1, 0, 3, 0);
        t.runAll(3);
        t.wholeTask(5, 6, 15, 7);
    }

    // Closing

    @Sentence(in = "Closing",
        says = "if the innermost scope has live children, the task joins, and the place does not move")
    static void joinsLiveChildren(Trial t) {
        t.load("0:(p1(p2));1:w1;2:;");
        t.start(0, 0);
        t.run(6, 6);
        t.wholeTask(0, 0, 0, 4, 2);
        t.run(1, 1);
        t.wholeTask(0, 0, 0, 5, 1);
        t.run(1, 1);
        t.wholeTask(0, 5, 0, 5, 1);
        t.scope(0, 4, 1);
        t.run(2, 2);
        t.wholeTask(0, 0, 0, 5, 1);
        t.run(1, 1);
        t.wholeTask(0, 0, 0, 6, 0);
    }

    @Sentence(in = "Closing",
        says = "Otherwise, if it has a cleanup that was not begun, the task begins to execute it, "
            + "and the place does not move.")
    static void beginsTheCleanup(Trial t) {
        t.load("0:(^1);1:;2:();");
        t.start(0, 0);
        t.run(2, 2);
        t.scope(0, 7, 1);
        t.count(8, 0);
        t.run(1, 1);
        t.wholeTask(0, 0, 0, 2, 1, -1, 0, 0, -2, 1);
        t.scope(0, 7, 2);
        t.count(8, 1);
        t.run(1, 1);
        t.wholeTask(0, 0, 0, 2, 1, -1, 0, 0, -2, 0);
        t.run(1, 1);
        t.wholeTask(0, 0, 0, 3, 0);
        t.scope(0, 7, 2);
        t.count(8, 1);
        t.runAll(1);
        t.start(2, 1);
        t.runAll(3);
        t.scope(1, 7, 0);
        t.count(8, 1);
    }

    @Sentence(in = "Closing",
        says = "Otherwise, if it has a cleanup that was not begun, the task begins to execute it, "
            + "and the place does not move.")
    static void joinsBeforeTheCleanup(Trial t) {
        t.load("0:(^1p2);1:+5;2:w2;");
        t.start(0, 0);
        t.run(5, 5);
        t.wholeTask(0, 5, 0, 3);
        t.scope(0, 7, 1);
        t.run(2, 2);
        t.task(0, 0, 0);
        t.scope(0, 7, 1);
        t.run(1, 1);
        t.scope(0, 7, 2);
        t.wholeTask(0, 0, 0, 3);
        t.task(0, 8, 1);
    }

    @Sentence(in = "Closing", says = "Otherwise the scope has ended and is no longer open.")
    static void scopeHasEnded(Trial t) {
        t.load("0:(());");
        t.start(0, 0);
        t.run(3, 3);
        t.scope(1, 3, 2);
        t.scope(0, 3, 0);
        t.task(0, 3, 1);
        t.count(4, 1);
        t.dueThrow("scopeOf(0, 1)", () -> t.x.scopeOf(0, 1), Trial.INDEX);
        t.run(1, 1);
        t.scope(0, 3, 2);
        t.count(4, 0);
        t.dueThrow("scopeOf(0, 0)", () -> t.x.scopeOf(0, 0), Trial.INDEX);
    }

    @Sentence(in = "Closing",
        says = "When a task ends, it interrupts the owner of its scope, if it has failed, as told.")
    static void onlyTheFailedInterrupts(Trial t) {
        t.load("0:(p1p2w9p3w9);1:;2:<0;3:!6;4:!7;");
        t.start(0, 0);
        t.run(6, 6);
        t.cancel(2, 0);
        t.run(1, 1);
        t.endings(1, 2);
        t.task(0, 0, 1);
        t.task(0, 6, 0);
        t.run(3, 3);
        t.run(1, 1);
        t.task(0, 0, 1);
        t.run(1, 1);
        t.task(3, 0, 7);
        t.wholeTask(0, 0, 0, 6, 1, -1, 0, 3, -1);
        t.failure(0, 0, 10, 0);
        t.failure(0, 1, 6, 3);
        t.start(4, 4);
        t.runAll(4);
        t.task(4, 0, 7);
        t.failure(0, 1, 6, 3);
        t.count(9, 0);
    }

    @Sentence(in = "Closing", says = "and no child of it is live, the owner becomes ready")
    static void noChildIsLive(Trial t) {
        t.load("0:(p1p2p3);1:w1;2:w2;3:w2;");
        t.start(0, 0);
        t.run(8, 8);
        t.task(0, 0, 5);
        t.run(2, 2);
        t.endings(1);
        t.task(0, 0, 5);
        t.run(2, 2);
        t.endings(1, 2);
        t.task(0, 0, 5);
        t.scope(0, 4, 1);
        t.queue(3);
        t.run(1, 1);
        t.endings(1, 2, 3);
        t.task(0, 0, 0);
        t.queue(0);
    }

    @Sentence(in = "Closing", says = "its innermost scope is the one to which the ended task belongs")
    static void childOfTheInnermostScopeEnds(Trial t) {
        t.load("0:(p1(p2));1:w1;2:w2;");
        t.start(0, 0);
        t.run(7, 7);
        t.task(0, 0, 5);
        t.run(2, 2);
        t.task(1, 0, 6);
        t.scope(0, 4, 0);
        t.task(0, 0, 5);
        t.queue();
        t.run(2, 2);
        t.task(2, 0, 6);
        t.task(0, 0, 0);
    }

    @Sentence(in = "Closing", says = "Then, if the owner is joining")
    static void ownerThatDoesNotJoin(Trial t) {
        t.load("0:(p1w2<0>1);1:;2:>0;3:<1;");
        t.start(0, 0);
        t.run(4, 4);
        t.task(1, 0, 6);
        t.task(0, 0, 1);
        t.queue();
        Trial receiver = t.another().load("0:(p1<0);1:y;");
        receiver.start(0, 0);
        receiver.run(5, 5);
        receiver.task(1, 0, 6);
        receiver.task(0, 0, 3);
        receiver.queue();
    }

    @Sentence(in = "Closing",
        says = "A task that joins for the reason that it is interrupted stays joining until then.")
    static void staysJoining(Trial t) {
        t.load("0:{(p1p2w1!4));1:(^3<0);2:<0;3:w4;");
        t.start(0, 0);
        t.run(10, 10);
        t.task(0, 0, 0);
        t.run(2, 2);
        t.task(0, 0, 5);
        t.task(0, 7, 0);
        t.cancel(0, 5);
        t.task(0, 7, -1);
        t.queue(1, 2);
        t.run(3, 3);
        t.task(2, 0, 8);
        t.task(0, 0, 5);
        t.run(1, 1);
        t.count(5, 5);
        t.run(2, 2);
        t.task(0, 0, 5);
        t.run(1, 1);
        t.task(1, 0, 8);
        t.task(0, 0, 0);
    }
}
