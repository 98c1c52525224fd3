/** Boundary cases that the promises 6 to 10, 21 and 22 name, and how many calls an object is used for. */
public final class CallBoundsTest {
    private static final int LEAST = Integer.MIN_VALUE;
    private static final int MOST = Integer.MAX_VALUE;

    public static void main(String[] args) {
        Sentences.test(CallBoundsTest.class);
    }

    @Sentence(in = "What it is", says = "An object is used for at most 512 calls after it has been made")
    static void theLastOfTheCalls(Trial t) {
        t.load("0:{!1){!1){!1){!1){!1){!1){!1);");
        int calls = 9;
        for (int round = 0; round < 45; round++) {
            for (int task = 0; task < 6; task++) {
                t.start(0, task);
            }
            t.run(100, 100);
            t.run(100, 32);
            t.save(6);
            t.restore(6);
            t.reset(0);
            calls += 11;
        }
        t.expect("calls so far", calls, 504);
        t.start(0, 0);
        t.run(2, 2);
        t.failure(0, 0, 1, 0);
        t.run(1, 1);
        t.task(0, 1, 1);
        t.run(100, 19);
        t.due("next(), the 512th call", () -> t.x.next(), 200);
    }

    // Promises 6 to 10

    @Sentence(in = "Promise 6", says = "Returns the number of tasks that were live.")
    static void resetCountsTheLive(Trial t) {
        t.load("0:;1:w1;2:<0;3:(p1);");
        t.reset(0);
        t.start(0, 0);
        t.runAll(1);
        t.reset(0);
        t.start(0, 0);
        t.start(1, 1);
        t.start(2, 2);
        t.start(3, 3);
        t.run(5, 5);
        t.start(0, 5);
        t.reset(5);
        t.reset(0);
        for (int task = 0; task < 24; task++) {
            t.start(0, task);
        }
        t.reset(24);
    }

    @Sentence(in = "Promise 6",
        says = "Removes all tasks and scopes; the time and all counts become 0, and the channels become empty.")
    static void resetRemoves(Trial t) {
        t.load("#02;0:>0>0<0{^1[2p1<1));1:!7;2:[1^1w9);3:<2;");
        t.start(0, 0);
        t.start(3, 1);
        t.start(2, 2);
        t.run(23, 23);
        int[] before = {4, 2, 1, 3, 0, 1, 23, 1, 2, 1, 1, 1};
        for (int what = 0; what < 12; what++) {
            t.count(what, before[what]);
        }
        t.content(0, 0);
        t.reset(2);
        for (int what = 0; what < 12; what++) {
            t.count(what, 0);
        }
        for (int channel = 0; channel < 4; channel++) {
            t.content(channel);
            t.channel(channel, 2, 0);
            t.channel(channel, 3, 0);
        }
        t.dueThrow("task(0, 0)", () -> t.x.task(0, 0), Trial.INDEX);
        t.dueThrow("scope(0, 0)", () -> t.x.scope(0, 0), Trial.INDEX);
        t.queue();
        t.endings();
        t.next(200);
    }

    @Sentence(in = "Promise 6",
        says = "Removes all tasks and scopes; the time and all counts become 0, and the channels become empty.")
    static void resetLeavesNothingOfTasks(Trial t) {
        t.load("0:{^5(p1-1?01?01w1!3));1:+2>0>0;2:(p3)y;3:y;4:!9;", "5:w5;");
        t.start(0, 0);
        t.run(17, 17);
        t.wholeTask(0, 1, 2, 9, 1, -1, 2, 3, 0, 1, 6);
        t.wholeScope(0, 0, 0, 2, 1, 0, 0, -1, 2);
        t.wholeScope(1, 0, 1, 0, 2, 0, 1, -1, 0);
        t.reset(1);
        t.start(2, 0);
        t.wholeTask(0, 0, 0, 0, 0, -1, 0, 0, -2, 0, -1);
        t.noFailure(0, 0);
        t.run(1, 1);
        t.wholeScope(0, 0, 0, 0, 0, 0, 0, -1, 0);
        t.start(4, 1);
        t.run(2, 2);
        t.wholeScope(0, 0, 0, 0, 0, 1, 1, -1, 0);
        t.failure(1, 0, 9, 1);
        t.noFailure(1, 1);
        t.runAll(7);
        t.endings(1, 2, 0);
        t.count(5, 0);
    }

    @Sentence(in = "Promise 6",
        says = "Removes all tasks and scopes; the time and all counts become 0, and the channels become empty.")
    static void resetLeavesNothingOfScopes(Trial t) {
        t.load("0:(^1p1[9{p2<0)));1:<0;2:!5;3:(({y)));4:!3;");
        t.start(0, 0);
        t.run(9, 9);
        t.wholeScope(0, 0, 0, 0, 0, 1, 1, -1, 1);
        t.wholeScope(1, 0, 1, 1, 0, 0, 0, 9, 0);
        t.wholeScope(2, 0, 2, 2, 0, 1, 1, -1, 0);
        t.run(1, 1);
        t.failure(0, 0, 10, 0);
        t.failure(0, 1, 5, 2);
        t.reset(2);
        t.start(3, 0);
        t.start(4, 1);
        t.start(4, 2);
        t.run(5, 5);
        t.wholeScope(0, 0, 0, 0, 0, 0, 0, -1, 0);
        t.wholeScope(1, 0, 1, 0, 0, 0, 0, -1, 0);
        t.run(3, 3);
        t.wholeScope(2, 0, 2, 2, 0, 0, 0, -1, 0);
        for (int task = 1; task <= 2; task++) {
            t.failure(task, 0, 3, task);
            t.noFailure(task, 1);
        }
        t.runAll(4);
        t.count(8, 0);
    }

    @Sentence(in = "Promise 6", says = "Programs and rooms stay.")
    static void resetKeeps(Trial t) {
        t.load("#02;#33;0:y+1;5:!2;");
        t.start(5, 0);
        t.write("0:q");
        t.dueThrow("execute()", () -> t.x.execute(), Trial.ARGUMENT);
        t.reset(1);
        t.errorPosition(2);
        t.program(0, -1, 2);
        t.program(0, 1, 4301);
        t.program(5, 0, 3302);
        t.channel(0, 0, 2);
        t.channel(3, 0, 3);
        t.channel(1, 0, 0);
    }

    @Sentence(in = "Promise 7", says = "Starts a task that belongs to no scope.")
    static void startedInNoScope(Trial t) {
        t.load("0:(w1);");
        t.start(0, 0);
        t.run(2, 2);
        t.start(0, 1);
        t.task(1, 4, -1);
        t.scope(0, 5, 0);
        t.isAbove(0, 1, false);
    }

    @Sentence(in = "Promise 7", says = "if there is no such program")
    static void startOfNoProgram(Trial t) {
        for (int wrong : new int[] {-1, 6, MOST, LEAST}) {
            t.dueThrow("start(" + wrong + ")", () -> t.x.start(wrong), Trial.INDEX);
        }
        t.count(0, 0);
        t.start(0, 0);
        t.start(5, 1);
    }

    @Sentence(in = "Promise 7", says = "if there are 24 tasks")
    static void startWithTwentyFourTasks(Trial t) {
        for (int task = 0; task < 24; task++) {
            t.start(task % 6, task);
        }
        t.dueThrow("start(0)", () -> t.x.start(0), Trial.STATE);
        t.dueThrow("start(6)", () -> t.x.start(6), Trial.INDEX);
        t.dueThrow("start(-1)", () -> t.x.start(-1), Trial.INDEX);
        t.count(0, 24);
        t.runAll(24);
        t.dueThrow("start(5) when all have ended", () -> t.x.start(5), Trial.STATE);
    }

    @Sentence(in = "Promise 8", says = "Returns its status afterwards.")
    static void cancelAnswersTheStatus(Trial t) {
        t.load("0:(^1);1:w1;2:w9;3:!1;4:(p5!2);5:(^1<0);");
        t.start(0, 0);
        t.cancel(0, 0);
        t.start(0, 1);
        t.start(2, 2);
        t.start(3, 3);
        t.start(5, 4);
        t.start(4, 5);
        t.run(16, 16);
        t.cancel(1, 1);
        t.cancel(2, 0);
        t.cancel(3, 7);
        t.cancel(4, 0);
        t.cancel(0, 8);
        t.run(1, 1);
        t.cancel(5, 5);
    }

    @Sentence(in = "Promise 8", says = "if there is no such task")
    static void cancelOfNoTask(Trial t) {
        t.dueThrow("cancel(0)", () -> t.x.cancel(0), Trial.INDEX);
        t.start(0, 0);
        t.start(0, 1);
        for (int wrong : new int[] {-1, 2, 24, MOST, LEAST}) {
            t.dueThrow("cancel(" + wrong + ")", () -> t.x.cancel(wrong), Trial.INDEX);
        }
        t.cancel(1, 0);
    }

    @Sentence(in = "Promise 9", says = "the greatest number of turns, 1 to 100")
    static void turnsFromOneTo100(Trial t) {
        t.load("0:yyyyyyyyyyyyyyyyyyyyyyyy;");
        for (int task = 0; task < 9; task++) {
            t.start(0, task);
        }
        t.run(1, 1);
        t.run(100, 100);
        t.count(6, 101);
        t.run(99, 99);
        t.count(6, 200);
    }

    @Sentence(in = "Promise 9", says = "Returns the number of turns that were made.")
    static void numberOfTurns(Trial t) {
        t.load("0:w1y;");
        t.run(7, 0);
        t.start(0, 0);
        t.run(1, 1);
        t.run(2, 2);
        t.run(7, 1);
        t.count(6, 4);
        t.run(7, 0);
    }

    @Sentence(in = "Promise 9", says = "if turns is out of range")
    static void turnsOutOfRange(Trial t) {
        t.start(0, 0);
        for (int wrong : new int[] {0, -1, 101, MOST, LEAST}) {
            t.dueThrow("run(" + wrong + ")", () -> t.x.run(wrong), Trial.ARGUMENT);
        }
        t.count(6, 0);
        t.run(1, 1);
    }

    @Sentence(in = "Promise 9", says = "Makes turns, as long as one can be made.")
    static void turnsAsLongAsOneCanBeMade(Trial t) {
        t.load("0:y;1:w9;2:<0;");
        t.run(100, 0);
        t.count(6, 0);
        t.start(0, 0);
        t.run(100, 2);
        t.run(100, 0);
        t.start(1, 1);
        t.run(100, 3);
        t.start(2, 2);
        t.run(100, 1);
        t.run(1, 0);
        t.count(6, 6);
    }

    @Sentence(in = "Promise 10",
        says = "100 if time would pass; 200 if there is none and no task is live; "
            + "300 if there is none, but tasks are live")
    static void whatTheNextTurnWouldBe(Trial t) {
        t.load("0:w1;1:<0;2:[1<0);");
        t.next(200);
        t.start(0, 0);
        t.next(0);
        t.run(1, 1);
        t.next(100);
        t.run(1, 1);
        t.next(0);
        t.run(1, 1);
        t.next(200);
        t.start(1, 1);
        t.next(1);
        t.run(1, 1);
        t.next(300);
        t.start(2, 2);
        t.run(2, 2);
        t.next(100);
        t.runAll(3);
        t.next(300);
        t.cancel(1, 0);
        t.next(1);
        t.run(1, 1);
        t.next(200);
        t.reset(0);
        for (int task = 0; task < 24; task++) {
            t.start(3, task);
        }
        t.run(23, 23);
        t.next(23);
    }

    // Promises 21 and 22

    /** Two cleanups that sleep, a failure with a cause, a chooser behind a receiver, and numbers in a channel. */
    private static Trial underWay(Trial name) {
        Trial t = name.another().load("#31;#02;0:+1>3?33?12;1:<2y;2:+5>0w3>2>2;",
            "3:{(^4!5))+2;4:w1!6;5:{[9^4p4<1)y);");
        t.start(5, 0);
        t.run(9, 9);
        t.start(3, 2);
        t.start(0, 3);
        t.start(1, 4);
        t.start(2, 5);
        t.run(16, 16);
        t.next(100);
        return t;
    }

    /** Puts other programs, tasks, scopes, failures and numbers in the place of all that there is. */
    private static void replaceAll(Trial t) {
        t.reset(5);
        t.load("#03;#13;#30;0:yyy(({!9)));1:({^3p2p2[2^3[3w9))));2:<1;", "3:-4-4;4:+8>0?13;5:<3;");
        t.start(0, 0);
        t.start(0, 1);
        t.start(1, 2);
        t.start(5, 3);
        t.start(4, 4);
        t.start(2, 5);
        t.run(31, 31);
    }

    @Sentence(in = "Promise 21", says = "Saves everything but the buffer and the error position")
    static void savesEverything(Trial name) {
        Trial saved = underWay(name);
        saved.save(6);
        replaceAll(saved);
        saved.restore(6);
        Trial other = underWay(name);
        name.expect("picture", Busy.picture(saved.x), Busy.picture(other.x));
        name.expect("course", Busy.course(saved.x), Busy.course(other.x));
    }

    @Sentence(in = "Promise 21", says = "in place of an earlier snapshot")
    static void secondSnapshot(Trial t) {
        t.load("0:+1;");
        t.start(0, 0);
        t.save(1);
        t.start(0, 1);
        t.run(1, 1);
        t.save(2);
        t.runAll(3);
        t.restore(2);
        t.count(6, 1);
        t.task(0, 1, 1);
        t.task(1, 1, 0);
        t.reset(2);
        t.save(0);
        t.start(0, 0);
        t.restore(0);
        t.dueThrow("task(0, 0)", () -> t.x.task(0, 0), Trial.INDEX);
    }

    @Sentence(in = "Promise 21", says = "Returns the number of tasks.")
    static void saveCountsTasks(Trial t) {
        t.save(0);
        t.restore(0);
        for (int task = 0; task < 24; task++) {
            t.start(0, task);
        }
        t.save(24);
        t.runAll(24);
        t.save(24);
        t.reset(0);
        t.restore(24);
        t.count(1, 0);
    }

    @Sentence(in = "Promise 22", says = "Restores the snapshot, which is kept.")
    static void snapshotIsKept(Trial t) {
        t.load("0:+1+1;");
        t.start(0, 0);
        t.run(1, 1);
        t.save(1);
        for (int round = 0; round < 3; round++) {
            t.runAll(2);
            t.task(0, 1, 2);
            t.start(0, 1);
            t.load("0:;");
            t.reset(1);
            t.restore(1);
            t.task(0, 1, 1);
            t.program(0, -1, 2);
            t.dueThrow("task(1, 0)", () -> t.x.task(1, 0), Trial.INDEX);
        }
    }

    @Sentence(in = "Promise 22", says = "Restores the snapshot, which is kept.")
    static void snapshotIsKeptWhole(Trial name) {
        Trial restored = underWay(name);
        restored.save(6);
        for (int round = 0; round < 3; round++) {
            restored.run(100, 17);
            restored.restore(6);
        }
        Trial other = underWay(name);
        name.expect("picture", Busy.picture(restored.x), Busy.picture(other.x));
        name.expect("course", Busy.course(restored.x), Busy.course(other.x));
    }

    @Sentence(in = "Promise 22", says = "Returns the number of tasks.")
    static void restoreCountsTasks(Trial t) {
        t.start(0, 0);
        t.start(0, 1);
        t.run(1, 1);
        t.save(2);
        t.start(0, 2);
        t.restore(2);
        t.count(0, 2);
        t.count(1, 1);
    }

    @Sentence(in = "Promise 22", says = "if there is no snapshot")
    static void noSnapshot(Trial t) {
        t.dueThrow("restore()", () -> t.x.restore(), Trial.STATE);
        t.start(0, 0);
        t.dueThrow("restore()", () -> t.x.restore(), Trial.STATE);
        t.reset(1);
        t.dueThrow("restore()", () -> t.x.restore(), Trial.STATE);
        t.save(0);
        t.restore(0);
        t.reset(0);
        t.restore(0);
    }
}
