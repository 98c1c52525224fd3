/** Boundary cases that the promises 6 to 22 name, and how many calls an object is used for. */
public final class CallBoundsTest {
    private static final int LEAST = Integer.MIN_VALUE;
    private static final int MOST = Integer.MAX_VALUE;

    public static void main(String[] args) {
        Sentences.test(CallBoundsTest.class);
    }

    @Sentence(in = "What it is", says = "An object is used for at most 512 calls after it has been made")
    static void theLastOfTheCalls(Trial t) {
        t.load("0:{!1){!1){!1){!1){!1){!1){!1);");
        int calls = 9;
        for (int round = 0; round < 45; round++) {
            for (int task = 0; task < 6; task++) {
                t.start(0, task);
            }
            t.run(100, 100);
            t.run(100, 32);
            t.save(6);
            t.restore(6);
            t.reset(0);
            calls += 11;
        }
        t.expect("calls so far", calls, 504);
        t.start(0, 0);
        t.run(2, 2);
        t.failure(0, 0, 1, 0);
        t.run(1, 1);
        t.task(0, 1, 1);
        t.run(100, 19);
        t.due("next(), the 512th call", () -> t.x.next(), 200);
    }

    // Promises 6 to 10

    @Sentence(in = "Promise 6", says = "Returns the number of tasks that were live.")
    static void resetCountsTheLive(Trial t) {
        t.load("0:;1:w1;2:<0;3:(p1);");
        t.reset(0);
        t.start(0, 0);
        t.runAll(1);
        t.reset(0);
        t.start(0, 0);
        t.start(1, 1);
        t.start(2, 2);
        t.start(3, 3);
        t.run(5, 5);
        t.start(0, 5);
        t.reset(5);
        t.reset(0);
        for (int task = 0; task < 24; task++) {
            t.start(0, task);
        }
        t.reset(24);
    }

    @Sentence(in = "Promise 6",
        says = "Removes all tasks and scopes; the time and all counts become 0, and the channels become empty.")
    static void resetRemoves(Trial t) {
        t.load("#02;0:>0>0<0{^1[2p1<1));1:!7;2:[1^1w9);3:<2;");
        t.start(0, 0);
        t.start(3, 1);
        t.start(2, 2);
        t.run(23, 23);
        int[] before = {4, 2, 1, 3, 0, 1, 23, 1, 2, 1, 1, 1};
        for (int what = 0; what < 12; what++) {
            t.count(what, before[what]);
        }
        t.content(0, 0);
        t.reset(2);
        for (int what = 0; what < 12; what++) {
            t.count(what, 0);
        }
        for (int channel = 0; channel < 4; channel++) {
            t.content(channel);
            t.channel(channel, 2, 0);
            t.channel(channel, 3, 0);
        }
        t.dueThrow("task(0, 0)", () -> t.x.task(0, 0), Trial.INDEX);
        t.dueThrow("scope(0, 0)", () -> t.x.scope(0, 0), Trial.INDEX);
        t.queue();
        t.endings();
        t.next(200);
    }

    @Sentence(in = "Promise 6",
        says = "Removes all tasks and scopes; the time and all counts become 0, and the channels become empty.")
    static void resetLeavesNothingOfTasks(Trial t) {
        t.load("0:{^5(p1-1?01?01w1!3));1:+2>0>0;2:(p3)y;3:y;4:!9;", "5:w5;");
        t.start(0, 0);
        t.run(17, 17);
        t.wholeTask(0, 1, 2, 9, 1, -1, 2, 3, 0, 1, 6);
        t.wholeScope(0, 0, 0, 2, 1, 0, 0, -1, 2);
        t.wholeScope(1, 0, 1, 0, 2, 0, 1, -1, 0);
        t.reset(1);
        t.start(2, 0);
        t.wholeTask(0, 0, 0, 0, 0, -1, 0, 0, -2, 0, -1);
        t.noFailure(0, 0);
        t.run(1, 1);
        t.wholeScope(0, 0, 0, 0, 0, 0, 0, -1, 0);
        t.start(4, 1);
        t.run(2, 2);
        t.wholeScope(0, 0, 0, 0, 0, 1, 1, -1, 0);
        t.failure(1, 0, 9, 1);
        t.noFailure(1, 1);
        t.runAll(7);
        t.endings(1, 2, 0);
        t.count(5, 0);
    }

    @Sentence(in = "Promise 6", says = "Programs and rooms stay.")
    static void resetKeeps(Trial t) {
        t.load("#02;#33;0:y+1;5:!2;");
        t.start(5, 0);
        t.write("0:q");
        t.dueThrow("execute()", () -> t.x.execute(), Trial.ARGUMENT);
        t.reset(1);
        t.errorPosition(2);
        t.program(0, -1, 2);
        t.program(0, 1, 4301);
        t.program(5, 0, 3302);
        t.channel(0, 0, 2);
        t.channel(3, 0, 3);
        t.channel(1, 0, 0);
    }

    @Sentence(in = "Promise 7", says = "Starts a task that belongs to no scope.")
    static void startedInNoScope(Trial t) {
        t.load("0:(w1);");
        t.start(0, 0);
        t.run(2, 2);
        t.start(0, 1);
        t.task(1, 4, -1);
        t.scope(0, 5, 0);
        t.isAbove(0, 1, false);
    }

    @Sentence(in = "Promise 7", says = "if there is no such program")
    static void startOfNoProgram(Trial t) {
        for (int wrong : new int[] {-1, 6, MOST, LEAST}) {
            t.dueThrow("start(" + wrong + ")", () -> t.x.start(wrong), Trial.INDEX);
        }
        t.count(0, 0);
        t.start(0, 0);
        t.start(5, 1);
    }

    @Sentence(in = "Promise 7", says = "if there are 24 tasks")
    static void startWithTwentyFourTasks(Trial t) {
        for (int task = 0; task < 24; task++) {
            t.start(task % 6, task);
        }
        t.dueThrow("start(0)", () -> t.x.start(0), Trial.STATE);
        t.dueThrow("start(6)", () -> t.x.start(6), Trial.INDEX);
        t.dueThrow("start(-1)", () -> t.x.start(-1), Trial.INDEX);
        t.count(0, 24);
        t.runAll(24);
        t.dueThrow("start(5) when all have ended", () -> t.x.start(5), Trial.STATE);
    }

    @Sentence(in = "Promise 8", says = "Returns its status afterwards.")
    static void cancelAnswersTheStatus(Trial t) {
        t.load("0:(^1);1:w1;2:w9;3:!1;4:(p5!2);5:(^1<0);");
        t.start(0, 0);
        t.cancel(0, 0);
        t.start(0, 1);
        t.start(2, 2);
        t.start(3, 3);
        t.start(5, 4);
        t.start(4, 5);
        t.run(16, 16);
        t.cancel(1, 1);
        t.cancel(2, 0);
        t.cancel(3, 7);
        t.cancel(4, 0);
        t.cancel(0, 8);
        t.run(1, 1);
        t.cancel(5, 5);
    }

    @Sentence(in = "Promise 8", says = "if there is no such task")
    static void cancelOfNoTask(Trial t) {
        t.dueThrow("cancel(0)", () -> t.x.cancel(0), Trial.INDEX);
        t.start(0, 0);
        t.start(0, 1);
        for (int wrong : new int[] {-1, 2, 24, MOST, LEAST}) {
            t.dueThrow("cancel(" + wrong + ")", () -> t.x.cancel(wrong), Trial.INDEX);
        }
        t.cancel(1, 0);
    }

    @Sentence(in = "Promise 9", says = "the greatest number of turns, 1 to 100")
    static void turnsFromOneTo100(Trial t) {
        t.load("0:yyyyyyyyyyyyyyyyyyyyyyyy;");
        for (int task = 0; task < 9; task++) {
            t.start(0, task);
        }
        t.run(1, 1);
        t.run(100, 100);
        t.count(6, 101);
        t.run(99, 99);
        t.count(6, 200);
    }

    @Sentence(in = "Promise 9", says = "if turns is out of range")
    static void turnsOutOfRange(Trial t) {
        t.start(0, 0);
        for (int wrong : new int[] {0, -1, 101, MOST, LEAST}) {
            t.dueThrow("run(" + wrong + ")", () -> t.x.run(wrong), Trial.ARGUMENT);
        }
        t.count(6, 0);
        t.run(1, 1);
    }

    @Sentence(in = "Promise 9", says = "Makes turns, as long as one can be made.")
    static void turnsAsLongAsOneCanBeMade(Trial t) {
        t.load("0:y;1:w9;2:<0;");
        t.run(100, 0);
        t.count(6, 0);
        t.start(0, 0);
        t.run(100, 2);
        t.run(100, 0);
        t.start(1, 1);
        t.run(100, 3);
        t.start(2, 2);
        t.run(100, 1);
        t.run(1, 0);
        t.count(6, 6);
    }

    @Sentence(in = "Promise 10",
        says = "100 if time would pass; 200 if there is none and no task is live; 300 if there is none, but tasks are live")
    static void whatTheNextTurnWouldBe(Trial t) {
        t.load("0:w1;1:<0;2:[1<0);");
        t.next(200);
        t.start(0, 0);
        t.next(0);
        t.run(1, 1);
        t.next(100);
        t.run(1, 1);
        t.next(0);
        t.run(1, 1);
        t.next(200);
        t.start(1, 1);
        t.next(1);
        t.run(1, 1);
        t.next(300);
        t.start(2, 2);
        t.run(2, 2);
        t.next(100);
        t.runAll(3);
        t.next(300);
        t.cancel(1, 0);
        t.next(1);
        t.run(1, 1);
        t.next(200);
        t.reset(0);
        for (int task = 0; task < 24; task++) {
            t.start(3, task);
        }
        t.run(23, 23);
        t.next(23);
    }

    // Promises 11 to 13

    @Sentence(in = "Promise 11", says = "4 for the scope to which it belongs, or -1")
    static void scopeOfATask(Trial t) {
        t.load("0:(p1(p1));1:;");
        t.start(0, 0);
        t.runAll(9);
        t.task(0, 4, -1);
        t.task(1, 4, 0);
        t.task(2, 4, 1);
    }

    @Sentence(in = "Promise 11", says = "6 for its reason: 0 none, 1 cancellation, 2 deadline, 3 failure, "
        + "which stays when it has ended")
    static void reasonOfATask(Trial t) {
        t.load("0:[1w9);1:!1;2:w9;3:;");
        t.start(0, 0);
        t.start(1, 1);
        t.start(2, 2);
        t.start(3, 3);
        t.run(4, 4);
        t.cancel(2, 0);
        t.run(4, 4);
        t.task(0, 6, 2);
        t.task(1, 6, 3);
        t.task(1, 0, 7);
        t.task(2, 6, 1);
        t.task(2, 0, 8);
        t.task(3, 6, 0);
        t.task(3, 0, 6);
        t.runAll(2);
        t.task(0, 6, 0);
    }

    @Sentence(in = "Promise 11", says = "7 for the target of its reason, or -2 without one")
    static void targetOfATask(Trial t) {
        t.load("0:((((!1))));1:(((({!1)))));");
        t.start(0, 0);
        t.start(1, 1);
        t.task(0, 7, -2);
        t.run(12, 12);
        t.task(0, 7, -1);
        t.task(1, 7, 4);
        t.run(2, 2);
        t.task(1, 7, -2);
        t.runAll(8);
        t.task(0, 7, -1);
        t.task(1, 7, -2);
    }

    @Sentence(in = "Promise 11", says = "8 for 1 if it executes a cleanup, otherwise 0")
    static void cleanupOfATask(Trial t) {
        t.load("0:(^1);1:w1;");
        t.start(0, 0);
        int[] want = {0, 0, 1, 1, 1, 0, 0, 0};
        for (int executes : want) {
            t.run(1, 1);
            t.task(0, 8, executes);
        }
        t.task(0, 0, 6);
    }

    @Sentence(in = "Promise 11", says = "9 for the time at which it wakes, or -1 if it does not sleep")
    static void wakeTimeOfATask(Trial t) {
        t.load("0:w1w9;1:<0;");
        t.start(0, 0);
        t.start(1, 1);
        t.task(0, 9, -1);
        t.run(2, 2);
        t.task(0, 9, 1);
        t.task(1, 9, -1);
        t.run(1, 1);
        t.task(0, 9, -1);
        t.run(1, 1);
        t.task(0, 9, 10);
        t.cancel(0, 0);
        t.task(0, 9, -1);
        t.runAll(1);
        t.task(0, 9, -1);
    }

    @Sentence(in = "Promise 11", says = "if there is no such task")
    static void propertyOfNoTask(Trial t) {
        t.dueThrow("task(0, 0)", () -> t.x.task(0, 0), Trial.INDEX);
        t.start(0, 0);
        t.start(0, 1);
        t.task(1, 0, 0);
        for (int wrong : new int[] {-1, 2, 23, 24, MOST, LEAST}) {
            t.dueThrow("task(" + wrong + ", 0)", () -> t.x.task(wrong, 0), Trial.INDEX);
            t.dueThrow("task(" + wrong + ", 10)", () -> t.x.task(wrong, 10), Trial.INDEX);
        }
    }

    @Sentence(in = "Promise 11", says = "if there is no such what")
    static void noSuchPropertyOfATask(Trial t) {
        t.start(0, 0);
        t.task(0, 0, 0);
        t.task(0, 9, -1);
        for (int wrong : new int[] {-1, 10, MOST, LEAST}) {
            t.dueThrow("task(0, " + wrong + ")", () -> t.x.task(0, wrong), Trial.ARGUMENT);
        }
    }

    @Sentence(in = "Promise 12", says = "2 for its kind: 0 plain, 1 with a deadline, 2 guard")
    static void kindOfAScope(Trial t) {
        t.load("0:([1{)));");
        t.start(0, 0);
        t.run(3, 3);
        for (int scope = 0; scope < 3; scope++) {
            t.scope(scope, 0, 0);
            t.scope(scope, 1, scope);
            t.scope(scope, 2, scope);
        }
    }

    @Sentence(in = "Promise 12", says = "4 for the number of its live children; 5 for the number of all its children")
    static void childrenOfAScope(Trial t) {
        t.load("0:(p1p2(p2y));1:;2:<0;");
        t.start(0, 0);
        t.run(2, 2);
        t.scope(0, 4, 1);
        t.scope(0, 5, 1);
        t.run(1, 1);
        t.scope(0, 4, 0);
        t.scope(0, 5, 1);
        t.run(5, 5);
        t.scope(0, 4, 1);
        t.scope(0, 5, 2);
        t.scope(1, 4, 1);
        t.scope(1, 5, 1);
        t.cancel(2, 0);
        t.scope(0, 4, 1);
        t.run(2, 2);
        t.scope(0, 4, 0);
        t.scope(0, 5, 2);
        t.cancel(0, 0);
        t.runAll(5);
        t.scope(1, 4, 0);
        t.scope(1, 5, 1);
    }

    @Sentence(in = "Promise 12", says = "6 for its deadline, or -1")
    static void deadlineOfAScope(Trial t) {
        t.load("0:w9([9{[1<0))));");
        t.start(0, 0);
        t.run(6, 6);
        int[] want = {-1, 18, -1, 10};
        for (int scope = 0; scope < 4; scope++) {
            t.scope(scope, 6, want[scope]);
        }
        t.runAll(7);
        t.scope(1, 6, 18);
        t.scope(3, 6, 10);
    }

    @Sentence(in = "Promise 12",
        says = "7 for 0 if it has no cleanup, 1 if it has one that was not begun, 2 if it was begun")
    static void cleanupOfAScope(Trial t) {
        t.load("0:(^1^5);1:;");
        t.start(0, 0);
        int[] want = {0, 1, 1, 2, 2, 2};
        for (int state : want) {
            t.run(1, 1);
            t.scope(0, 7, state);
        }
        t.scope(0, 3, 2);
    }

    @Sentence(in = "Promise 12", says = "if there is no such scope")
    static void propertyOfNoScope(Trial t) {
        t.load("0:();1:(y);");
        t.dueThrow("scope(0, 0)", () -> t.x.scope(0, 0), Trial.INDEX);
        t.start(0, 0);
        t.start(1, 1);
        t.run(2, 2);
        t.scope(1, 0, 1);
        for (int wrong : new int[] {-1, 2, 59, 60, MOST, LEAST}) {
            t.dueThrow("scope(" + wrong + ", 0)", () -> t.x.scope(wrong, 0), Trial.INDEX);
            t.dueThrow("scope(" + wrong + ", 8)", () -> t.x.scope(wrong, 8), Trial.INDEX);
        }
    }

    @Sentence(in = "Promise 12", says = "if there is no such what")
    static void noSuchPropertyOfAScope(Trial t) {
        t.load("0:(y);");
        t.start(0, 0);
        t.run(1, 1);
        t.scope(0, 0, 0);
        t.scope(0, 7, 0);
        for (int wrong : new int[] {-1, 8, MOST, LEAST}) {
            t.dueThrow("scope(0, " + wrong + ")", () -> t.x.scope(0, wrong), Trial.ARGUMENT);
        }
    }

    @Sentence(in = "Promise 13", says = "0 for the failure itself, 1 for its cause, 2 for the cause of this, and so on")
    static void depthOfAFailure(Trial t) {
        t.load("0:(p1);1:(p2);2:(^3!8);3:!9;");
        t.start(0, 0);
        t.runAll(17);
        int[] codes = {10, 10, 9, 8};
        int[] tasks = {0, 1, 2, 2};
        for (int depth = 0; depth < 4; depth++) {
            t.failure(0, depth, codes[depth], tasks[depth]);
        }
        for (int depth = 0; depth < 3; depth++) {
            t.failure(1, depth, codes[depth + 1], tasks[depth + 1]);
        }
        t.failure(2, 1, 8, 2);
    }

    @Sentence(in = "Promise 13", says = "if there is no such task")
    static void failureOfNoTask(Trial t) {
        t.load("0:!1;");
        t.dueThrow("failure(0, 0, 0)", () -> t.x.failure(0, 0, 0), Trial.INDEX);
        t.start(0, 0);
        t.runAll(2);
        for (int wrong : new int[] {-1, 1, 24, MOST, LEAST}) {
            t.dueThrow("failure(" + wrong + ", 0, 0)", () -> t.x.failure(wrong, 0, 0), Trial.INDEX);
            t.dueThrow("failure(" + wrong + ", 0, 2)", () -> t.x.failure(wrong, 0, 2), Trial.INDEX);
            t.dueThrow("failure(" + wrong + ", 9, 1)", () -> t.x.failure(wrong, 9, 1), Trial.INDEX);
        }
    }

    @Sentence(in = "Promise 13", says = "if there is no such what")
    static void noSuchPartOfAFailure(Trial t) {
        t.load("0:!1;");
        t.start(0, 0);
        t.dueThrow("failure(0, 0, 2) without a reason", () -> t.x.failure(0, 0, 2), Trial.ARGUMENT);
        t.runAll(2);
        t.failure(0, 0, 1, 0);
        for (int wrong : new int[] {-1, 2, MOST, LEAST}) {
            t.dueThrow("failure(0, 0, " + wrong + ")", () -> t.x.failure(0, 0, wrong), Trial.ARGUMENT);
            t.dueThrow("failure(0, 1, " + wrong + ")", () -> t.x.failure(0, 1, wrong), Trial.ARGUMENT);
            t.dueThrow("failure(0, -1, " + wrong + ")", () -> t.x.failure(0, -1, wrong), Trial.ARGUMENT);
        }
    }

    @Sentence(in = "Promise 13", says = "if its reason is no failure, or there is no such cause")
    static void noSuchFailure(Trial t) {
        t.load("0:(!1);1:[1w9);2:{!4)y;");
        t.start(0, 0);
        t.start(1, 1);
        t.start(2, 2);
        t.noFailure(0, 0);
        t.run(6, 6);
        t.failure(0, 0, 1, 0);
        t.failure(2, 0, 4, 2);
        for (int depth : new int[] {1, 2, 660, MOST, -1, LEAST}) {
            t.noFailure(0, depth);
            t.dueThrow("failure(0, " + depth + ", 1)", () -> t.x.failure(0, depth, 1), Trial.ELEMENT);
        }
        t.run(5, 5);
        t.noFailure(2, 0);
        t.run(1, 1);
        t.task(1, 6, 2);
        t.noFailure(1, 0);
        t.cancel(1, 0);
        t.noFailure(1, 0);
        t.runAll(2);
        t.noFailure(1, 0);
        t.noFailure(2, 0);
    }

    // Promises 14 to 17

    @Sentence(in = "Promise 14", says = "the index, 0 for the first one")
    static void firstReady(Trial t) {
        for (int task = 0; task < 24; task++) {
            t.start(0, task);
        }
        t.due("ready(0)", () -> t.x.ready(0), 0);
        t.due("ready(23)", () -> t.x.ready(23), 23);
        t.run(3, 3);
        t.due("ready(0)", () -> t.x.ready(0), 3);
        t.due("ready(20)", () -> t.x.ready(20), 23);
        t.dueThrow("ready(21)", () -> t.x.ready(21), Trial.ELEMENT);
    }

    @Sentence(in = "Promise 14", says = "if there is no such task")
    static void noSuchReady(Trial t) {
        t.dueThrow("ready(0)", () -> t.x.ready(0), Trial.ELEMENT);
        t.start(0, 0);
        t.start(0, 1);
        for (int wrong : new int[] {-1, 2, 24, MOST, LEAST}) {
            t.dueThrow("ready(" + wrong + ")", () -> t.x.ready(wrong), Trial.ELEMENT);
        }
        t.due("ready(1)", () -> t.x.ready(1), 1);
    }

    @Sentence(in = "Promise 15", says = "Returns a task that has ended, in the order in which they ended.")
    static void endedInOrder(Trial t) {
        t.load("0:yy;1:;2:y!1;3:w1;");
        t.start(0, 0);
        t.start(3, 1);
        t.start(1, 2);
        t.start(2, 3);
        t.endings();
        t.runAll(10);
        t.endings(2, 0, 3, 1);
    }

    @Sentence(in = "Promise 15", says = "if there is no such task")
    static void noSuchEnded(Trial t) {
        t.start(0, 0);
        t.dueThrow("ended(0)", () -> t.x.ended(0), Trial.ELEMENT);
        t.start(0, 1);
        t.runAll(2);
        for (int wrong : new int[] {-1, 2, 24, MOST, LEAST}) {
            t.dueThrow("ended(" + wrong + ")", () -> t.x.ended(wrong), Trial.ELEMENT);
        }
        t.due("ended(1)", () -> t.x.ended(1), 1);
    }

    @Sentence(in = "Promise 16",
        says = "the former owns the scope to which the latter belongs, or is above the owner of this scope")
    static void aboveAsFarAsPossible(Trial t) {
        t.load("0:(p0);");
        t.start(0, 0);
        t.runAll(69 + 4 + 46);
        t.isAbove(0, 23, true);
        t.isAbove(22, 23, true);
        t.isAbove(0, 1, true);
        t.isAbove(11, 12, true);
        t.isAbove(12, 11, false);
        t.isAbove(23, 0, false);
        t.isAbove(1, 0, false);
        for (int task = 0; task < 24; task++) {
            t.isAbove(task, task, false);
        }
    }

    @Sentence(in = "Promise 16",
        says = "the former owns the scope to which the latter belongs, or is above the owner of this scope")
    static void notAboveTheOthers(Trial t) {
        t.load("0:(p1p2);1:(p2);2:;");
        t.start(0, 0);
        t.start(0, 1);
        t.runAll(24);
        int[] owners = new int[t.x.count(0)];
        for (int task = 0; task < owners.length; task++) {
            int scope = t.x.task(task, 4);
            owners[task] = scope == -1 ? -1 : t.x.scope(scope, 0);
        }
        for (int task = 0; task < owners.length; task++) {
            for (int other = 0; other < owners.length; other++) {
                boolean parent = owners[other] == task;
                boolean grandparent = owners[other] >= 0 && owners[owners[other]] == task;
                t.isAbove(task, other, parent || grandparent);
            }
        }
        t.count(0, 8);
    }

    @Sentence(in = "Promise 16", says = "if there is no such task")
    static void aboveNoTask(Trial t) {
        t.dueThrow("isAbove(0, 0)", () -> t.x.isAbove(0, 0) ? 1 : 0, Trial.INDEX);
        t.start(0, 0);
        t.start(0, 1);
        for (int wrong : new int[] {-1, 2, 24, MOST, LEAST}) {
            t.dueThrow("isAbove(" + wrong + ", 1)", () -> t.x.isAbove(wrong, 1) ? 1 : 0, Trial.INDEX);
            t.dueThrow("isAbove(1, " + wrong + ")", () -> t.x.isAbove(1, wrong) ? 1 : 0, Trial.INDEX);
            t.dueThrow("isAbove(same, " + wrong + ")", () -> t.x.isAbove(wrong, wrong) ? 1 : 0, Trial.INDEX);
        }
        t.isAbove(0, 1, false);
    }

    @Sentence(in = "Promise 17", says = "Returns the innermost open scope of a task with some level.")
    static void scopeOfEachLevel(Trial t) {
        t.load("0:(((()y(y))))();");
        t.start(0, 0);
        t.run(5, 5);
        t.scopeOf(0, 2, 2);
        t.dueThrow("scopeOf(0, 3)", () -> t.x.scopeOf(0, 3), Trial.INDEX);
        t.run(2, 2);
        for (int level = 0; level < 3; level++) {
            t.scopeOf(0, level, level);
        }
        t.scopeOf(0, 3, 4);
        t.run(6, 6);
        t.scopeOf(0, 0, 5);
    }

    @Sentence(in = "Promise 17", says = "if there is no such task, or it has no open scope with this level")
    static void scopeOfNoLevel(Trial t) {
        t.load("0:((((()))));1:;");
        t.dueThrow("scopeOf(0, 0)", () -> t.x.scopeOf(0, 0), Trial.INDEX);
        t.start(0, 0);
        t.dueThrow("scopeOf(0, 0)", () -> t.x.scopeOf(0, 0), Trial.INDEX);
        t.run(5, 5);
        t.start(1, 1);
        t.scopeOf(0, 0, 0);
        t.scopeOf(0, 4, 4);
        for (int wrong : new int[] {-1, 5, 60, MOST, LEAST}) {
            t.dueThrow("scopeOf(0, " + wrong + ")", () -> t.x.scopeOf(0, wrong), Trial.INDEX);
        }
        for (int wrong : new int[] {-1, 2, 24, MOST, LEAST}) {
            t.dueThrow("scopeOf(" + wrong + ", 0)", () -> t.x.scopeOf(wrong, 0), Trial.INDEX);
        }
        t.dueThrow("scopeOf(1, 0)", () -> t.x.scopeOf(1, 0), Trial.INDEX);
        t.dueThrow("scopeOf(1, 4)", () -> t.x.scopeOf(1, 4), Trial.INDEX);
        t.run(1, 1);
        t.dueThrow("scopeOf(0, 4)", () -> t.x.scopeOf(0, 4), Trial.INDEX);
        t.scopeOf(0, 3, 3);
        t.runAll(6);
        t.dueThrow("scopeOf(0, 0) of the ended", () -> t.x.scopeOf(0, 0), Trial.INDEX);
    }

    // Promises 18 and 19

    @Sentence(in = "Promise 18", says = "a task that waits for it twice being counted once")
    static void waitsTwice(Trial t) {
        t.load("0:?22;1:<2;2:?23;3:+1>2;");
        t.start(0, 0);
        t.run(1, 1);
        t.channel(2, 3, 1);
        t.start(1, 1);
        t.start(2, 2);
        t.run(2, 2);
        t.channel(2, 3, 3);
        t.channel(3, 3, 1);
        t.start(3, 3);
        t.run(2, 2);
        t.channel(2, 3, 2);
        t.task(0, 1, 1);
    }

    @Sentence(in = "Promise 18", says = "0 for its room, 1 for the count of the numbers in it, "
        + "2 for the number of senders that wait")
    static void propertiesOfAChannel(Trial t) {
        t.load("#12;0:>1>1>1;1:>1;");
        t.start(0, 0);
        t.start(1, 1);
        t.run(2, 2);
        t.channel(1, 1, 2);
        t.channel(1, 2, 0);
        t.runAll(2);
        t.channel(1, 0, 2);
        t.channel(1, 1, 2);
        t.channel(1, 2, 1);
        t.channel(1, 3, 0);
        t.channel(0, 0, 0);
        t.channel(0, 1, 0);
        t.channel(3, 2, 0);
    }

    @Sentence(in = "Promise 18", says = "if there is no such channel")
    static void noSuchChannel(Trial t) {
        t.channel(0, 0, 0);
        t.channel(3, 3, 0);
        for (int wrong : new int[] {-1, 4, MOST, LEAST}) {
            t.dueThrow("channel(" + wrong + ", 0)", () -> t.x.channel(wrong, 0), Trial.INDEX);
            t.dueThrow("channel(" + wrong + ", 4)", () -> t.x.channel(wrong, 4), Trial.INDEX);
        }
    }

    @Sentence(in = "Promise 18", says = "if there is no such what")
    static void noSuchPropertyOfAChannel(Trial t) {
        for (int wrong : new int[] {-1, 4, MOST, LEAST}) {
            t.dueThrow("channel(0, " + wrong + ")", () -> t.x.channel(0, wrong), Trial.ARGUMENT);
            t.dueThrow("channel(3, " + wrong + ")", () -> t.x.channel(3, wrong), Trial.ARGUMENT);
        }
    }

    @Sentence(in = "Promise 19", says = "the index, 0 for the one that would be taken first")
    static void contentFromTheFirst(Trial t) {
        t.load("#33;0:+4>3+1>3+1>3;1:<3;");
        t.start(0, 0);
        t.runAll(7);
        t.content(3, 4, 5, 6);
        t.start(1, 1);
        t.runAll(2);
        t.task(1, 1, 4);
        t.content(3, 5, 6);
    }

    @Sentence(in = "Promise 19", says = "if there is no such channel")
    static void contentOfNoChannel(Trial t) {
        for (int wrong : new int[] {-1, 4, MOST, LEAST}) {
            t.dueThrow("content(" + wrong + ", 0)", () -> t.x.content(wrong, 0), Trial.INDEX);
            t.dueThrow("content(" + wrong + ", -1)", () -> t.x.content(wrong, -1), Trial.INDEX);
        }
    }

    @Sentence(in = "Promise 19", says = "if there is no such number in it")
    static void noSuchContent(Trial t) {
        t.load("#03;#33;0:>0>0>3;");
        t.dueThrow("content(0, 0)", () -> t.x.content(0, 0), Trial.ELEMENT);
        t.start(0, 0);
        t.runAll(4);
        t.content(0, 0, 0);
        t.content(3, 0);
        for (int wrong : new int[] {-1, 2, 3, MOST, LEAST}) {
            t.dueThrow("content(0, " + wrong + ")", () -> t.x.content(0, wrong), Trial.ELEMENT);
            t.dueThrow("content(3, " + wrong + ")", () -> t.x.content(3, wrong), Trial.ELEMENT);
        }
        t.dueThrow("content(1, 0)", () -> t.x.content(1, 0), Trial.ELEMENT);
    }

    // Promises 20 to 22

    @Sentence(in = "Promise 20", says = "if there is no such what")
    static void noSuchCount(Trial t) {
        t.count(0, 0);
        t.count(12, 0);
        for (int wrong : new int[] {-1, 13, MOST, LEAST}) {
            t.dueThrow("count(" + wrong + ")", () -> t.x.count(wrong), Trial.ARGUMENT);
        }
    }

    @Sentence(in = "Promise 20", says = "0 for the tasks; 1 for the live tasks; 2 for the ready tasks; "
        + "3 for the scopes; 4 for the scopes that have not ended")
    static void countsOfTasksAndScopes(Trial t) {
        t.load("0:()(p1);1:w1;2:[9<0);");
        t.start(0, 0);
        t.start(1, 1);
        t.start(2, 2);
        t.run(9, 9);
        int[] want = {4, 4, 0, 3, 2};
        for (int what = 0; what < want.length; what++) {
            t.count(what, want[what]);
        }
        t.run(1, 1);
        t.count(2, 2);
        t.run(4, 4);
        int[] later = {4, 1, 0, 3, 1};
        for (int what = 0; what < later.length; what++) {
            t.count(what, later[what]);
        }
    }

    @Sentence(in = "Promise 20", says = "5 for the time; 6 for the turns; 7 for the turns in which time passed; "
        + "8 for the cleanups that were begun")
    static void countsOfTurns(Trial t) {
        t.load("0:(^1)w9;1:w9;2:[1w9);");
        t.start(0, 0);
        t.start(2, 1);
        int[][] want = {{0, 5, 0, 1}, {0, 6, 0, 1}, {1, 7, 1, 1}, {1, 9, 1, 1}, {9, 10, 2, 1}, {9, 13, 2, 1},
            {18, 14, 3, 1}, {18, 15, 3, 1}};
        int[] turns = {5, 1, 1, 2, 1, 3, 1, 1};
        for (int each = 0; each < want.length; each++) {
            t.run(turns[each], turns[each]);
            for (int what = 5; what <= 8; what++) {
                t.count(what, want[each][what - 5]);
            }
        }
        t.run(1, 0);
        t.count(6, 15);
    }

    @Sentence(in = "Promise 20", says = "10 for the numbers that were sent and received")
    static void countOfNumbers(Trial t) {
        t.load("#02;0:>0>0>0;1:<0?00;2:<1;3:>1;");
        t.start(0, 0);
        t.runAll(3);
        t.count(10, 0);
        t.start(1, 1);
        t.run(1, 1);
        t.count(10, 1);
        t.runAll(3);
        t.count(10, 2);
        t.content(0, 0);
        t.start(2, 2);
        t.runAll(1);
        t.count(10, 2);
        t.start(3, 3);
        t.run(1, 1);
        t.count(10, 3);
    }

    @Sentence(in = "Promise 20", says = "12 for the characters in the buffer")
    static void countOfCharacters(Trial t) {
        t.count(12, 0);
        t.append("0", 1);
        t.count(12, 1);
        t.append(":yy", 4);
        t.append("", 4);
        t.count(12, 4);
        t.append(";", 5);
        t.due("execute()", () -> t.x.execute(), 1);
        t.count(12, 0);
    }

    @Sentence(in = "Promise 21", says = "Saves everything but the buffer and the error position")
    static void savesAllButTheBuffer(Trial t) {
        t.load("#01;0:+1>0(^1w2);1:!3;");
        t.start(0, 0);
        t.run(5, 5);
        t.write("1:y");
        t.save(1);
        t.load(";");
        t.program(1, 0, 12100);
        t.runAll(5);
        t.task(0, 0, 7);
        t.reset(0);
        t.load("0:;#00;");
        t.write("#0q");
        t.dueThrow("execute()", () -> t.x.execute(), Trial.ARGUMENT);
        t.write("1:");
        t.restore(1);
        t.count(12, 2);
        t.errorPosition(2);
        t.program(0, -1, 6);
        t.program(1, 0, 3303);
        t.wholeTask(0, 1, 1, 5, 1, -1, 0, 0, -2, 0, 2);
        t.wholeScope(0, 0, 0, 0, 0, 0, 0, -1, 1);
        t.content(0, 1);
        t.channel(0, 0, 1);
        t.count(6, 5);
        t.count(5, 0);
        t.endings();
        t.runAll(5);
        t.failure(0, 0, 3, 0);
        t.load(";");
        t.program(1, -1, 0);
    }

    /** Two cleanups that sleep, a failure with a cause, a chooser behind a receiver, and numbers in a channel. */
    private static Trial underWay(Trial name) {
        Trial t = name.another().load("#31;#02;0:+1>3?33?12;1:<2y;2:+5>0w3>2>2;", "3:{(^4!5))+2;4:w1!6;5:{[9^4p4<1)y);");
        t.start(5, 0);
        t.run(9, 9);
        t.start(3, 2);
        t.start(0, 3);
        t.start(1, 4);
        t.start(2, 5);
        t.run(16, 16);
        t.next(100);
        return t;
    }

    /** Puts other programs, tasks, scopes, failures and numbers in the place of all that there is. */
    private static void replaceAll(Trial t) {
        t.reset(5);
        t.load("#03;#13;#30;0:yyy(({!9)));1:({^3p2p2[2^3[3w9))));2:<1;", "3:-4-4;4:+8>0?13;5:<3;");
        t.start(0, 0);
        t.start(0, 1);
        t.start(1, 2);
        t.start(5, 3);
        t.start(4, 4);
        t.start(2, 5);
        t.run(31, 31);
    }

    @Sentence(in = "Promise 21", says = "Saves everything but the buffer and the error position")
    static void savesEverything(Trial name) {
        Trial saved = underWay(name);
        saved.save(6);
        replaceAll(saved);
        saved.restore(6);
        Trial other = underWay(name);
        name.expect("picture", Busy.picture(saved.x), Busy.picture(other.x));
        name.expect("course", Busy.course(saved.x), Busy.course(other.x));
    }

    @Sentence(in = "Promise 21", says = "in place of an earlier snapshot")
    static void secondSnapshot(Trial t) {
        t.load("0:+1;");
        t.start(0, 0);
        t.save(1);
        t.start(0, 1);
        t.run(1, 1);
        t.save(2);
        t.runAll(3);
        t.restore(2);
        t.count(6, 1);
        t.task(0, 1, 1);
        t.task(1, 1, 0);
        t.reset(2);
        t.save(0);
        t.start(0, 0);
        t.restore(0);
        t.dueThrow("task(0, 0)", () -> t.x.task(0, 0), Trial.INDEX);
    }

    @Sentence(in = "Promise 21", says = "Returns the number of tasks.")
    static void saveCountsTasks(Trial t) {
        t.save(0);
        t.restore(0);
        for (int task = 0; task < 24; task++) {
            t.start(0, task);
        }
        t.save(24);
        t.runAll(24);
        t.save(24);
        t.reset(0);
        t.restore(24);
        t.count(1, 0);
    }

    @Sentence(in = "Promise 22", says = "Restores the snapshot, which is kept.")
    static void snapshotIsKept(Trial t) {
        t.load("0:+1+1;");
        t.start(0, 0);
        t.run(1, 1);
        t.save(1);
        for (int round = 0; round < 3; round++) {
            t.runAll(2);
            t.task(0, 1, 2);
            t.start(0, 1);
            t.load("0:;");
            t.reset(1);
            t.restore(1);
            t.task(0, 1, 1);
            t.program(0, -1, 2);
            t.dueThrow("task(1, 0)", () -> t.x.task(1, 0), Trial.INDEX);
        }
    }

    @Sentence(in = "Promise 22", says = "Restores the snapshot, which is kept.")
    static void snapshotIsKeptWhole(Trial name) {
        Trial restored = underWay(name);
        restored.save(6);
        for (int round = 0; round < 3; round++) {
            restored.run(100, 17);
            restored.restore(6);
        }
        Trial other = underWay(name);
        name.expect("picture", Busy.picture(restored.x), Busy.picture(other.x));
        name.expect("course", Busy.course(restored.x), Busy.course(other.x));
    }

    @Sentence(in = "Promise 6",
        says = "Removes all tasks and scopes; the time and all counts become 0, and the channels become empty.")
    static void resetLeavesNothingOfScopes(Trial t) {
        t.load("0:(^1p1[9{p2<0)));1:<0;2:!5;3:(({y)));4:!3;");
        t.start(0, 0);
        t.run(9, 9);
        t.wholeScope(0, 0, 0, 0, 0, 1, 1, -1, 1);
        t.wholeScope(1, 0, 1, 1, 0, 0, 0, 9, 0);
        t.wholeScope(2, 0, 2, 2, 0, 1, 1, -1, 0);
        t.run(1, 1);
        t.failure(0, 0, 10, 0);
        t.failure(0, 1, 5, 2);
        t.reset(2);
        t.start(3, 0);
        t.start(4, 1);
        t.start(4, 2);
        t.run(5, 5);
        t.wholeScope(0, 0, 0, 0, 0, 0, 0, -1, 0);
        t.wholeScope(1, 0, 1, 0, 0, 0, 0, -1, 0);
        t.run(3, 3);
        t.wholeScope(2, 0, 2, 2, 0, 0, 0, -1, 0);
        for (int task = 1; task <= 2; task++) {
            t.failure(task, 0, 3, task);
            t.noFailure(task, 1);
        }
        t.runAll(4);
        t.count(8, 0);
    }

    @Sentence(in = "Promise 22", says = "if there is no snapshot")
    static void noSnapshot(Trial t) {
        t.dueThrow("restore()", () -> t.x.restore(), Trial.STATE);
        t.start(0, 0);
        t.dueThrow("restore()", () -> t.x.restore(), Trial.STATE);
        t.reset(1);
        t.dueThrow("restore()", () -> t.x.restore(), Trial.STATE);
        t.save(0);
        t.restore(0);
        t.reset(0);
        t.restore(0);
    }
}
