/** Boundary cases that the promises 11 to 20 name. */
public final class QuestionBoundsTest {
    private static final int LEAST = Integer.MIN_VALUE;
    private static final int MOST = Integer.MAX_VALUE;

    public static void main(String[] args) {
        Sentences.test(QuestionBoundsTest.class);
    }

    // Promises 11 to 13

    @Sentence(in = "Promise 11", says = "0 for its status; 1 for its register; 2 for its place; "
        + "3 for the number of its open scopes")
    static void stateOfATask(Trial t) {
        t.load("0:+4(({p1<1)))-9;1:+7>1;");
        t.start(0, 0);
        t.wholeTask(0, 0, 0, 0, 0);
        t.run(4, 4);
        t.wholeTask(0, 0, 4, 4, 3);
        t.run(3, 3);
        t.wholeTask(0, 3, 4, 6, 3);
        t.wholeTask(1, 0, 7, 1, 0);
        t.run(1, 1);
        t.wholeTask(0, 0, 7, 6, 3);
        t.runAll(7);
        t.wholeTask(0, 6, -2, 10, 0);
        t.wholeTask(1, 6, 7, 2, 0);
    }

    @Sentence(in = "Promise 11", says = "5 for the number of completed choices")
    static void choicesOfATask(Trial t) {
        t.load("#03;0:+1>0>0>0;1:<0?00?00?00;");
        t.start(0, 0);
        t.runAll(5);
        t.start(1, 1);
        int[] want = {0, 1, 2, 2};
        for (int choices : want) {
            t.run(1, 1);
            t.task(1, 5, choices);
        }
        t.task(1, 0, 4);
        t.task(0, 5, 0);
    }

    @Sentence(in = "Promise 11", says = "4 for the scope to which it belongs, or -1")
    static void scopeOfATask(Trial t) {
        t.load("0:(p1(p1));1:;");
        t.start(0, 0);
        t.runAll(9);
        t.task(0, 4, -1);
        t.task(1, 4, 0);
        t.task(2, 4, 1);
    }

    @Sentence(in = "Promise 11", says = "6 for its reason: 0 none, 1 cancellation, 2 deadline, 3 failure, "
        + "which stays when it has ended")
    static void reasonOfATask(Trial t) {
        t.load("0:[1w9);1:!1;2:w9;3:;");
        t.start(0, 0);
        t.start(1, 1);
        t.start(2, 2);
        t.start(3, 3);
        t.run(4, 4);
        t.cancel(2, 0);
        t.run(4, 4);
        t.task(0, 6, 2);
        t.task(1, 6, 3);
        t.task(1, 0, 7);
        t.task(2, 6, 1);
        t.task(2, 0, 8);
        t.task(3, 6, 0);
        t.task(3, 0, 6);
        t.runAll(2);
        t.task(0, 6, 0);
    }

    @Sentence(in = "Promise 11", says = "7 for the target of its reason, or -2 without one")
    static void targetOfATask(Trial t) {
        t.load("0:((((!1))));1:(((({!1)))));");
        t.start(0, 0);
        t.start(1, 1);
        t.task(0, 7, -2);
        t.run(12, 12);
        t.task(0, 7, -1);
        t.task(1, 7, 4);
        t.run(2, 2);
        t.task(1, 7, -2);
        t.runAll(8);
        t.task(0, 7, -1);
        t.task(1, 7, -2);
    }

    @Sentence(in = "Promise 11", says = "8 for 1 if it executes a cleanup, otherwise 0")
    static void cleanupOfATask(Trial t) {
        t.load("0:(^1);1:w1;");
        t.start(0, 0);
        int[] want = {0, 0, 1, 1, 1, 0, 0, 0};
        for (int executes : want) {
            t.run(1, 1);
            t.task(0, 8, executes);
        }
        t.task(0, 0, 6);
    }

    @Sentence(in = "Promise 11", says = "9 for the time at which it wakes, or -1 if it does not sleep")
    static void wakeTimeOfATask(Trial t) {
        t.load("0:w1w9;1:<0;");
        t.start(0, 0);
        t.start(1, 1);
        t.task(0, 9, -1);
        t.run(2, 2);
        t.task(0, 9, 1);
        t.task(1, 9, -1);
        t.run(1, 1);
        t.task(0, 9, -1);
        t.run(1, 1);
        t.task(0, 9, 10);
        t.cancel(0, 0);
        t.task(0, 9, -1);
        t.runAll(1);
        t.task(0, 9, -1);
    }

    @Sentence(in = "Promise 11", says = "if there is no such task")
    static void propertyOfNoTask(Trial t) {
        t.dueThrow("task(0, 0)", () -> t.x.task(0, 0), Trial.INDEX);
        t.start(0, 0);
        t.start(0, 1);
        t.task(1, 0, 0);
        for (int wrong : new int[] {-1, 2, 23, 24, MOST, LEAST}) {
            t.dueThrow("task(" + wrong + ", 0)", () -> t.x.task(wrong, 0), Trial.INDEX);
            t.dueThrow("task(" + wrong + ", 10)", () -> t.x.task(wrong, 10), Trial.INDEX);
        }
    }

    @Sentence(in = "Promise 11", says = "if there is no such what")
    static void noSuchPropertyOfATask(Trial t) {
        t.start(0, 0);
        t.task(0, 0, 0);
        t.task(0, 9, -1);
        for (int wrong : new int[] {-1, 10, MOST, LEAST}) {
            t.dueThrow("task(0, " + wrong + ")", () -> t.x.task(0, wrong), Trial.ARGUMENT);
        }
    }

    @Sentence(in = "Promise 12", says = "0 for its owner; 1 for its level")
    static void ownerAndLevelOfAScope(Trial t) {
        t.load("0:((p1()));1:();");
        t.start(1, 0);
        t.start(0, 1);
        t.runAll(14);
        int[] owners = {0, 1, 1, 2, 1};
        int[] levels = {0, 0, 1, 0, 2};
        for (int scope = 0; scope < owners.length; scope++) {
            t.scope(scope, 0, owners[scope]);
            t.scope(scope, 1, levels[scope]);
        }
    }

    @Sentence(in = "Promise 12", says = "3 for 0 if it is open, 1 if it is closing, 2 if it has ended")
    static void stateOfAScope(Trial t) {
        t.load("0:(^1!2);1:;");
        t.start(0, 0);
        int[] want = {0, 0, 0, 1, 1, 2};
        for (int state : want) {
            t.run(1, 1);
            t.scope(0, 3, state);
        }
    }

    @Sentence(in = "Promise 12", says = "2 for its kind: 0 plain, 1 with a deadline, 2 guard")
    static void kindOfAScope(Trial t) {
        t.load("0:([1{)));");
        t.start(0, 0);
        t.run(3, 3);
        for (int scope = 0; scope < 3; scope++) {
            t.scope(scope, 0, 0);
            t.scope(scope, 1, scope);
            t.scope(scope, 2, scope);
        }
    }

    @Sentence(in = "Promise 12", says = "4 for the number of its live children; 5 for the number of all its children")
    static void childrenOfAScope(Trial t) {
        t.load("0:(p1p2(p2y));1:;2:<0;");
        t.start(0, 0);
        t.run(2, 2);
        t.scope(0, 4, 1);
        t.scope(0, 5, 1);
        t.run(1, 1);
        t.scope(0, 4, 0);
        t.scope(0, 5, 1);
        t.run(5, 5);
        t.scope(0, 4, 1);
        t.scope(0, 5, 2);
        t.scope(1, 4, 1);
        t.scope(1, 5, 1);
        t.cancel(2, 0);
        t.scope(0, 4, 1);
        t.run(2, 2);
        t.scope(0, 4, 0);
        t.scope(0, 5, 2);
        t.cancel(0, 0);
        t.runAll(5);
        t.scope(1, 4, 0);
        t.scope(1, 5, 1);
    }

    @Sentence(in = "Promise 12", says = "6 for its deadline, or -1")
    static void deadlineOfAScope(Trial t) {
        t.load("0:w9([9{[1<0))));");
        t.start(0, 0);
        t.run(6, 6);
        int[] want = {-1, 18, -1, 10};
        for (int scope = 0; scope < 4; scope++) {
            t.scope(scope, 6, want[scope]);
        }
        t.runAll(7);
        t.scope(1, 6, 18);
        t.scope(3, 6, 10);
    }

    @Sentence(in = "Promise 12",
        says = "7 for 0 if it has no cleanup, 1 if it has one that was not begun, 2 if it was begun")
    static void cleanupOfAScope(Trial t) {
        t.load("0:(^1^5);1:;");
        t.start(0, 0);
        int[] want = {0, 1, 1, 2, 2, 2};
        for (int state : want) {
            t.run(1, 1);
            t.scope(0, 7, state);
        }
        t.scope(0, 3, 2);
    }

    @Sentence(in = "Promise 12", says = "if there is no such scope")
    static void propertyOfNoScope(Trial t) {
        t.load("0:();1:(y);");
        t.dueThrow("scope(0, 0)", () -> t.x.scope(0, 0), Trial.INDEX);
        t.start(0, 0);
        t.start(1, 1);
        t.run(2, 2);
        t.scope(1, 0, 1);
        for (int wrong : new int[] {-1, 2, 59, 60, MOST, LEAST}) {
            t.dueThrow("scope(" + wrong + ", 0)", () -> t.x.scope(wrong, 0), Trial.INDEX);
            t.dueThrow("scope(" + wrong + ", 8)", () -> t.x.scope(wrong, 8), Trial.INDEX);
        }
    }

    @Sentence(in = "Promise 12", says = "if there is no such what")
    static void noSuchPropertyOfAScope(Trial t) {
        t.load("0:(y);");
        t.start(0, 0);
        t.run(1, 1);
        t.scope(0, 0, 0);
        t.scope(0, 7, 0);
        for (int wrong : new int[] {-1, 8, MOST, LEAST}) {
            t.dueThrow("scope(0, " + wrong + ")", () -> t.x.scope(0, wrong), Trial.ARGUMENT);
        }
    }

    @Sentence(in = "Promise 13", says = "0 for the code, 1 for the task")
    static void partsOfAFailure(Trial t) {
        t.load("0:(p1w1);1:!8;");
        t.start(2, 0);
        t.start(0, 1);
        t.run(6, 6);
        t.due("failure(2, 0, 0)", () -> t.x.failure(2, 0, 0), 8);
        t.due("failure(2, 0, 1)", () -> t.x.failure(2, 0, 1), 2);
        t.due("failure(1, 0, 0)", () -> t.x.failure(1, 0, 0), 10);
        t.due("failure(1, 0, 1)", () -> t.x.failure(1, 0, 1), 1);
        t.due("failure(1, 1, 0)", () -> t.x.failure(1, 1, 0), 8);
        t.due("failure(1, 1, 1)", () -> t.x.failure(1, 1, 1), 2);
    }

    @Sentence(in = "Promise 13", says = "0 for the failure itself, 1 for its cause, 2 for the cause of this, and so on")
    static void depthOfAFailure(Trial t) {
        t.load("0:(p1);1:(p2);2:(^3!8);3:!9;");
        t.start(0, 0);
        t.runAll(17);
        int[] codes = {10, 10, 9, 8};
        int[] tasks = {0, 1, 2, 2};
        for (int depth = 0; depth < 4; depth++) {
            t.failure(0, depth, codes[depth], tasks[depth]);
        }
        for (int depth = 0; depth < 3; depth++) {
            t.failure(1, depth, codes[depth + 1], tasks[depth + 1]);
        }
        t.failure(2, 1, 8, 2);
    }

    @Sentence(in = "Promise 13", says = "if there is no such task")
    static void failureOfNoTask(Trial t) {
        t.load("0:!1;");
        t.dueThrow("failure(0, 0, 0)", () -> t.x.failure(0, 0, 0), Trial.INDEX);
        t.start(0, 0);
        t.runAll(2);
        for (int wrong : new int[] {-1, 1, 24, MOST, LEAST}) {
            t.dueThrow("failure(" + wrong + ", 0, 0)", () -> t.x.failure(wrong, 0, 0), Trial.INDEX);
            t.dueThrow("failure(" + wrong + ", 0, 2)", () -> t.x.failure(wrong, 0, 2), Trial.INDEX);
            t.dueThrow("failure(" + wrong + ", 9, 1)", () -> t.x.failure(wrong, 9, 1), Trial.INDEX);
        }
    }

    @Sentence(in = "Promise 13", says = "if there is no such what")
    static void noSuchPartOfAFailure(Trial t) {
        t.load("0:!1;");
        t.start(0, 0);
        t.dueThrow("failure(0, 0, 2) without a reason", () -> t.x.failure(0, 0, 2), Trial.ARGUMENT);
        t.runAll(2);
        t.failure(0, 0, 1, 0);
        for (int wrong : new int[] {-1, 2, MOST, LEAST}) {
            t.dueThrow("failure(0, 0, " + wrong + ")", () -> t.x.failure(0, 0, wrong), Trial.ARGUMENT);
            t.dueThrow("failure(0, 1, " + wrong + ")", () -> t.x.failure(0, 1, wrong), Trial.ARGUMENT);
            t.dueThrow("failure(0, -1, " + wrong + ")", () -> t.x.failure(0, -1, wrong), Trial.ARGUMENT);
        }
    }

    @Sentence(in = "Promise 13", says = "if its reason is no failure, or there is no such cause")
    static void noSuchFailure(Trial t) {
        t.load("0:(!1);1:[1w9);2:{!4)y;");
        t.start(0, 0);
        t.start(1, 1);
        t.start(2, 2);
        t.noFailure(0, 0);
        t.run(6, 6);
        t.failure(0, 0, 1, 0);
        t.failure(2, 0, 4, 2);
        for (int depth : new int[] {1, 2, 660, MOST, -1, LEAST}) {
            t.noFailure(0, depth);
            t.dueThrow("failure(0, " + depth + ", 1)", () -> t.x.failure(0, depth, 1), Trial.ELEMENT);
        }
        t.run(5, 5);
        t.noFailure(2, 0);
        t.run(1, 1);
        t.task(1, 6, 2);
        t.noFailure(1, 0);
        t.cancel(1, 0);
        t.noFailure(1, 0);
        t.runAll(2);
        t.noFailure(1, 0);
        t.noFailure(2, 0);
    }

    // Promises 14 to 17

    @Sentence(in = "Promise 14", says = "the index, 0 for the first one")
    static void firstReady(Trial t) {
        for (int task = 0; task < 24; task++) {
            t.start(0, task);
        }
        t.due("ready(0)", () -> t.x.ready(0), 0);
        t.due("ready(23)", () -> t.x.ready(23), 23);
        t.run(3, 3);
        t.due("ready(0)", () -> t.x.ready(0), 3);
        t.due("ready(20)", () -> t.x.ready(20), 23);
        t.dueThrow("ready(21)", () -> t.x.ready(21), Trial.ELEMENT);
    }

    @Sentence(in = "Promise 14", says = "if there is no such task")
    static void noSuchReady(Trial t) {
        t.dueThrow("ready(0)", () -> t.x.ready(0), Trial.ELEMENT);
        t.start(0, 0);
        t.start(0, 1);
        for (int wrong : new int[] {-1, 2, 24, MOST, LEAST}) {
            t.dueThrow("ready(" + wrong + ")", () -> t.x.ready(wrong), Trial.ELEMENT);
        }
        t.due("ready(1)", () -> t.x.ready(1), 1);
    }

    @Sentence(in = "Promise 15", says = "Returns a task that has ended, in the order in which they ended.")
    static void endedInOrder(Trial t) {
        t.load("0:yy;1:;2:y!1;3:w1;");
        t.start(0, 0);
        t.start(3, 1);
        t.start(1, 2);
        t.start(2, 3);
        t.endings();
        t.runAll(10);
        t.endings(2, 0, 3, 1);
    }

    @Sentence(in = "Promise 15", says = "the index, from 0")
    static void firstAndLastEnded(Trial t) {
        for (int task = 0; task < 24; task++) {
            t.start(0, task);
        }
        t.run(1, 1);
        t.due("ended(0)", () -> t.x.ended(0), 0);
        t.dueThrow("ended(1)", () -> t.x.ended(1), Trial.ELEMENT);
        t.runAll(23);
        t.due("ended(0)", () -> t.x.ended(0), 0);
        t.due("ended(23)", () -> t.x.ended(23), 23);
        t.dueThrow("ended(24)", () -> t.x.ended(24), Trial.ELEMENT);
    }

    @Sentence(in = "Promise 15", says = "if there is no such task")
    static void noSuchEnded(Trial t) {
        t.start(0, 0);
        t.dueThrow("ended(0)", () -> t.x.ended(0), Trial.ELEMENT);
        t.start(0, 1);
        t.runAll(2);
        for (int wrong : new int[] {-1, 2, 24, MOST, LEAST}) {
            t.dueThrow("ended(" + wrong + ")", () -> t.x.ended(wrong), Trial.ELEMENT);
        }
        t.due("ended(1)", () -> t.x.ended(1), 1);
    }

    @Sentence(in = "Promise 16",
        says = "the former owns the scope to which the latter belongs, or is above the owner of this scope")
    static void aboveAsFarAsPossible(Trial t) {
        t.load("0:(p0);");
        t.start(0, 0);
        t.runAll(69 + 4 + 46);
        t.isAbove(0, 23, true);
        t.isAbove(22, 23, true);
        t.isAbove(0, 1, true);
        t.isAbove(11, 12, true);
        t.isAbove(12, 11, false);
        t.isAbove(23, 0, false);
        t.isAbove(1, 0, false);
        for (int task = 0; task < 24; task++) {
            t.isAbove(task, task, false);
        }
    }

    @Sentence(in = "Promise 16",
        says = "the former owns the scope to which the latter belongs, or is above the owner of this scope")
    static void notAboveTheOthers(Trial t) {
        t.load("0:(p1p2);1:(p2);2:;");
        t.start(0, 0);
        t.start(0, 1);
        t.runAll(24);
        int[] owners = new int[t.x.count(0)];
        for (int task = 0; task < owners.length; task++) {
            int scope = t.x.task(task, 4);
            owners[task] = scope == -1 ? -1 : t.x.scope(scope, 0);
        }
        for (int task = 0; task < owners.length; task++) {
            for (int other = 0; other < owners.length; other++) {
                boolean parent = owners[other] == task;
                boolean grandparent = owners[other] >= 0 && owners[owners[other]] == task;
                t.isAbove(task, other, parent || grandparent);
            }
        }
        t.count(0, 8);
    }

    @Sentence(in = "Promise 16", says = "if there is no such task")
    static void aboveNoTask(Trial t) {
        t.dueThrow("isAbove(0, 0)", () -> t.x.isAbove(0, 0) ? 1 : 0, Trial.INDEX);
        t.start(0, 0);
        t.start(0, 1);
        for (int wrong : new int[] {-1, 2, 24, MOST, LEAST}) {
            t.dueThrow("isAbove(" + wrong + ", 1)", () -> t.x.isAbove(wrong, 1) ? 1 : 0, Trial.INDEX);
            t.dueThrow("isAbove(1, " + wrong + ")", () -> t.x.isAbove(1, wrong) ? 1 : 0, Trial.INDEX);
            t.dueThrow("isAbove(same, " + wrong + ")", () -> t.x.isAbove(wrong, wrong) ? 1 : 0, Trial.INDEX);
        }
        t.isAbove(0, 1, false);
    }

    @Sentence(in = "Promise 17", says = "Returns the innermost open scope of a task with some level.")
    static void scopeOfEachLevel(Trial t) {
        t.load("0:(((()y(y))))();");
        t.start(0, 0);
        t.run(5, 5);
        t.scopeOf(0, 2, 2);
        t.dueThrow("scopeOf(0, 3)", () -> t.x.scopeOf(0, 3), Trial.INDEX);
        t.run(2, 2);
        for (int level = 0; level < 3; level++) {
            t.scopeOf(0, level, level);
        }
        t.scopeOf(0, 3, 4);
        t.run(6, 6);
        t.scopeOf(0, 0, 5);
    }

    @Sentence(in = "Promise 17", says = "if there is no such task, or it has no open scope with this level")
    static void scopeOfNoLevel(Trial t) {
        t.load("0:((((()))));1:;");
        t.dueThrow("scopeOf(0, 0)", () -> t.x.scopeOf(0, 0), Trial.INDEX);
        t.start(0, 0);
        t.dueThrow("scopeOf(0, 0)", () -> t.x.scopeOf(0, 0), Trial.INDEX);
        t.run(5, 5);
        t.start(1, 1);
        t.scopeOf(0, 0, 0);
        t.scopeOf(0, 4, 4);
        for (int wrong : new int[] {-1, 5, 60, MOST, LEAST}) {
            t.dueThrow("scopeOf(0, " + wrong + ")", () -> t.x.scopeOf(0, wrong), Trial.INDEX);
        }
        for (int wrong : new int[] {-1, 2, 24, MOST, LEAST}) {
            t.dueThrow("scopeOf(" + wrong + ", 0)", () -> t.x.scopeOf(wrong, 0), Trial.INDEX);
        }
        t.dueThrow("scopeOf(1, 0)", () -> t.x.scopeOf(1, 0), Trial.INDEX);
        t.dueThrow("scopeOf(1, 4)", () -> t.x.scopeOf(1, 4), Trial.INDEX);
        t.run(1, 1);
        t.dueThrow("scopeOf(0, 4)", () -> t.x.scopeOf(0, 4), Trial.INDEX);
        t.scopeOf(0, 3, 3);
        t.runAll(6);
        t.dueThrow("scopeOf(0, 0) of the ended", () -> t.x.scopeOf(0, 0), Trial.INDEX);
    }

    // Promises 18 and 19

    @Sentence(in = "Promise 18", says = "3 for the number of tasks that wait by receiving or choosing")
    static void takersOfAChannel(Trial t) {
        t.load("0:<1;1:?13;2:?31;3:>2;4:<2?20;");
        t.start(0, 0);
        t.start(1, 1);
        t.start(2, 2);
        t.start(3, 3);
        t.run(4, 4);
        int[] takers = {0, 3, 0, 2};
        for (int channel = 0; channel < 4; channel++) {
            t.channel(channel, 3, takers[channel]);
        }
        t.start(4, 4);
        t.runAll(3);
        t.channel(2, 3, 1);
        t.channel(0, 3, 1);
        t.cancel(2, 0);
        t.channel(1, 3, 2);
        t.channel(3, 3, 1);
    }

    @Sentence(in = "Promise 18", says = "a task that waits for it twice being counted once")
    static void waitsTwice(Trial t) {
        t.load("0:?22;1:<2;2:?23;3:+1>2;");
        t.start(0, 0);
        t.run(1, 1);
        t.channel(2, 3, 1);
        t.start(1, 1);
        t.start(2, 2);
        t.run(2, 2);
        t.channel(2, 3, 3);
        t.channel(3, 3, 1);
        t.start(3, 3);
        t.run(2, 2);
        t.channel(2, 3, 2);
        t.task(0, 1, 1);
    }

    @Sentence(in = "Promise 18", says = "0 for its room, 1 for the count of the numbers in it, "
        + "2 for the number of senders that wait")
    static void propertiesOfAChannel(Trial t) {
        t.load("#12;0:>1>1>1;1:>1;");
        t.start(0, 0);
        t.start(1, 1);
        t.run(2, 2);
        t.channel(1, 1, 2);
        t.channel(1, 2, 0);
        t.runAll(2);
        t.channel(1, 0, 2);
        t.channel(1, 1, 2);
        t.channel(1, 2, 1);
        t.channel(1, 3, 0);
        t.channel(0, 0, 0);
        t.channel(0, 1, 0);
        t.channel(3, 2, 0);
    }

    @Sentence(in = "Promise 18", says = "if there is no such channel")
    static void noSuchChannel(Trial t) {
        t.channel(0, 0, 0);
        t.channel(3, 3, 0);
        for (int wrong : new int[] {-1, 4, MOST, LEAST}) {
            t.dueThrow("channel(" + wrong + ", 0)", () -> t.x.channel(wrong, 0), Trial.INDEX);
            t.dueThrow("channel(" + wrong + ", 4)", () -> t.x.channel(wrong, 4), Trial.INDEX);
        }
    }

    @Sentence(in = "Promise 18", says = "if there is no such what")
    static void noSuchPropertyOfAChannel(Trial t) {
        for (int wrong : new int[] {-1, 4, MOST, LEAST}) {
            t.dueThrow("channel(0, " + wrong + ")", () -> t.x.channel(0, wrong), Trial.ARGUMENT);
            t.dueThrow("channel(3, " + wrong + ")", () -> t.x.channel(3, wrong), Trial.ARGUMENT);
        }
    }

    @Sentence(in = "Promise 19", says = "the index, 0 for the one that would be taken first")
    static void contentFromTheFirst(Trial t) {
        t.load("#33;0:+4>3+1>3+1>3;1:<3;");
        t.start(0, 0);
        t.runAll(7);
        t.content(3, 4, 5, 6);
        t.start(1, 1);
        t.runAll(2);
        t.task(1, 1, 4);
        t.content(3, 5, 6);
    }

    @Sentence(in = "Promise 19", says = "if there is no such channel")
    static void contentOfNoChannel(Trial t) {
        for (int wrong : new int[] {-1, 4, MOST, LEAST}) {
            t.dueThrow("content(" + wrong + ", 0)", () -> t.x.content(wrong, 0), Trial.INDEX);
            t.dueThrow("content(" + wrong + ", -1)", () -> t.x.content(wrong, -1), Trial.INDEX);
        }
    }

    @Sentence(in = "Promise 19", says = "if there is no such number in it")
    static void noSuchContent(Trial t) {
        t.load("#03;#33;0:>0>0>3;");
        t.dueThrow("content(0, 0)", () -> t.x.content(0, 0), Trial.ELEMENT);
        t.start(0, 0);
        t.runAll(4);
        t.content(0, 0, 0);
        t.content(3, 0);
        for (int wrong : new int[] {-1, 2, 3, MOST, LEAST}) {
            t.dueThrow("content(0, " + wrong + ")", () -> t.x.content(0, wrong), Trial.ELEMENT);
            t.dueThrow("content(3, " + wrong + ")", () -> t.x.content(3, wrong), Trial.ELEMENT);
        }
        t.dueThrow("content(1, 0)", () -> t.x.content(1, 0), Trial.ELEMENT);
    }

    // Promise 20

    @Sentence(in = "Promise 20", says = "if there is no such what")
    static void noSuchCount(Trial t) {
        t.count(0, 0);
        t.count(12, 0);
        for (int wrong : new int[] {-1, 13, MOST, LEAST}) {
            t.dueThrow("count(" + wrong + ")", () -> t.x.count(wrong), Trial.ARGUMENT);
        }
    }

    @Sentence(in = "Promise 20", says = "0 for the tasks; 1 for the live tasks; 2 for the ready tasks; "
        + "3 for the scopes; 4 for the scopes that have not ended")
    static void countsOfTasksAndScopes(Trial t) {
        t.load("0:()(p1);1:w1;2:[9<0);");
        t.start(0, 0);
        t.start(1, 1);
        t.start(2, 2);
        t.run(9, 9);
        int[] want = {4, 4, 0, 3, 2};
        for (int what = 0; what < want.length; what++) {
            t.count(what, want[what]);
        }
        t.run(1, 1);
        t.count(2, 2);
        t.run(4, 4);
        int[] later = {4, 1, 0, 3, 1};
        for (int what = 0; what < later.length; what++) {
            t.count(what, later[what]);
        }
    }

    @Sentence(in = "Promise 20", says = "5 for the time; 6 for the turns; 7 for the turns in which time passed; "
        + "8 for the cleanups that were begun")
    static void countsOfTurns(Trial t) {
        t.load("0:(^1)w9;1:w9;2:[1w9);");
        t.start(0, 0);
        t.start(2, 1);
        int[][] want = {{0, 5, 0, 1}, {0, 6, 0, 1}, {1, 7, 1, 1}, {1, 9, 1, 1}, {9, 10, 2, 1}, {9, 13, 2, 1},
            {18, 14, 3, 1}, {18, 15, 3, 1}};
        int[] turns = {5, 1, 1, 2, 1, 3, 1, 1};
        for (int each = 0; each < want.length; each++) {
            t.run(turns[each], turns[each]);
            for (int what = 5; what <= 8; what++) {
                t.count(what, want[each][what - 5]);
            }
        }
        t.run(1, 0);
        t.count(6, 15);
    }

    @Sentence(in = "Promise 20", says = "10 for the numbers that were sent and received")
    static void countOfNumbers(Trial t) {
        t.load("#02;0:>0>0>0;1:<0?00;2:<1;3:>1;");
        t.start(0, 0);
        t.runAll(3);
        t.count(10, 0);
        t.start(1, 1);
        t.run(1, 1);
        t.count(10, 1);
        t.runAll(3);
        t.count(10, 2);
        t.content(0, 0);
        t.start(2, 2);
        t.runAll(1);
        t.count(10, 2);
        t.start(3, 3);
        t.run(1, 1);
        t.count(10, 3);
    }

    @Sentence(in = "Promise 20", says = "9 for the suppressed failures")
    static void countOfSuppressed(Trial t) {
        t.load("0:{!5)w9;1:(^2w9);2:!4;3:!6;");
        t.start(0, 0);
        t.start(1, 1);
        t.start(3, 2);
        t.run(9, 9);
        t.count(9, 0);
        t.cancel(1, 0);
        t.run(1, 1);
        t.count(9, 0);
        t.run(1, 1);
        t.count(9, 1);
        t.start(0, 3);
        t.run(4, 4);
        t.cancel(3, 0);
        t.count(9, 2);
        t.cancel(3, 0);
        t.count(9, 2);
    }

    @Sentence(in = "Promise 20", says = "11 for the deadlines that passed")
    static void countOfDeadlines(Trial t) {
        t.load("0:[1[1[2w9)));1:[9);2:[3<1);");
        t.start(0, 0);
        t.start(1, 1);
        t.start(2, 2);
        t.run(9, 9);
        t.count(11, 0);
        t.run(1, 1);
        t.count(5, 1);
        t.count(11, 2);
        t.runAll(7);
        t.count(5, 3);
        t.count(11, 3);
    }

    @Sentence(in = "Promise 20", says = "12 for the characters in the buffer")
    static void countOfCharacters(Trial t) {
        t.count(12, 0);
        t.append("0", 1);
        t.count(12, 1);
        t.append(":yy", 4);
        t.append("", 4);
        t.count(12, 4);
        t.append(";", 5);
        t.due("execute()", () -> t.x.execute(), 1);
        t.count(12, 0);
    }

    @Sentence(in = "Promise 21", says = "Saves everything but the buffer and the error position")
    static void savesAllButTheBuffer(Trial t) {
        t.load("#01;0:+1>0(^1w2);1:!3;");
        t.start(0, 0);
        t.run(5, 5);
        t.write("1:y");
        t.save(1);
        t.load(";");
        t.program(1, 0, 12100);
        t.runAll(5);
        t.task(0, 0, 7);
        t.reset(0);
        t.load("0:;#00;");
        t.write("#0q");
        t.dueThrow("execute()", () -> t.x.execute(), Trial.ARGUMENT);
        t.write("1:");
        t.restore(1);
        t.count(12, 2);
        t.errorPosition(2);
        t.program(0, -1, 6);
        t.program(1, 0, 3303);
        t.wholeTask(0, 1, 1, 5, 1, -1, 0, 0, -2, 0, 2);
        t.wholeScope(0, 0, 0, 0, 0, 0, 0, -1, 1);
        t.content(0, 1);
        t.channel(0, 0, 1);
        t.count(6, 5);
        t.count(5, 0);
        t.endings();
        t.runAll(5);
        t.failure(0, 0, 3, 0);
        t.load(";");
        t.program(1, -1, 0);
    }
}
