/** Promises 8, 9, 11, 13 and 20: failures in cleanups, reasons that meet, suppressed failures, and the limits. */
public final class FailuresTest {
    private static final Checks CHECKS = new Checks();

    public static void main(String[] args) {
        failureInCleanup();
        failureInCleanupOfGuard();
        failureInCleanupAfterFailure();
        failureInCleanupAfterOthers();
        failureOfChildInClosingScope();
        failureDropped();
        failureReplaced();
        failureWhileOwnerCleansUp();
        cancellationDropped();
        deadlineReplacesFailure();
        tooManyTasks();
        tooManyScopes();
        tooManyScopesUnderGuard();
        manyFailures();
        CHECKS.finish();
    }

    private static Trial trial(String name) {
        return new Trial(CHECKS, name);
    }

    private static void failureInCleanup() {
        Trial t = trial("! in a cleanup").load("0:{{^1)+1)+2;1:-1!8-5;");
        t.start(0, 0);
        t.run(6, 6);
        t.task(0, 8, 0);
        t.task(0, 6, 3);
        t.task(0, 7, 0);
        t.failure(0, 0, 8, 0);
        t.noFailure(0, 1);
        t.scope(1, 3, 0);
        t.task(0, 2, 3);
        t.run(1, 1);
        t.scope(1, 3, 2);
        t.task(0, 1, -1);
        t.task(0, 2, 3);
        t.run(1, 1);
        t.task(0, 1, 8);
        t.task(0, 2, 6);
        t.run(9, 2);
        t.task(0, 1, 10);
        t.count(8, 1);
        t.count(9, 0);
    }

    private static void failureInCleanupOfGuard() {
        Trial t = trial("! in the cleanup of the only guard").load("0:({^1)+1)+2;1:!8;");
        t.start(0, 0);
        t.run(5, 5);
        t.task(0, 7, -1);
        t.run(9, 3);
        t.task(0, 0, 7);
        t.failure(0, 0, 8, 0);
        t.task(0, 1, 0);
    }

    private static void failureInCleanupAfterFailure() {
        Trial t = trial("! in a cleanup after !").load("0:{(^1!5))+1;1:!8+1;");
        t.start(0, 0);
        t.run(5, 5);
        t.task(0, 8, 1);
        t.failure(0, 0, 5, 0);
        t.run(1, 1);
        t.task(0, 8, 0);
        t.failure(0, 0, 8, 0);
        t.failure(0, 1, 5, 0);
        t.noFailure(0, 2);
        t.task(0, 7, 0);
        t.count(9, 0);
        t.run(9, 4);
        t.task(0, 1, 6);
        t.count(9, 0);
    }

    private static void failureInCleanupAfterOthers() {
        Trial t = trial("! in a cleanup after a cancellation").load("0:(^1w9);1:!8;2:[1^1w9)+3;");
        t.start(0, 0);
        t.run(3, 3);
        t.cancel(0, 0);
        t.run(2, 2);
        t.count(9, 1);
        t.task(0, 6, 1);
        t.task(0, 8, 0);
        t.run(9, 2);
        t.task(0, 0, 8);
        t.noFailure(0, 0);
        t.start(2, 1);
        t.run(6, 6);
        t.count(9, 2);
        t.task(1, 6, 2);
        t.run(9, 3);
        t.task(1, 1, 2);
        t.task(1, 0, 6);
    }

    private static void failureOfChildInClosingScope() {
        Trial t = trial("failure in a closing scope").load("0:(p1p1w9);1:!3;");
        t.start(0, 0);
        t.run(6, 6);
        t.failure(0, 0, 10, 0);
        t.failure(0, 1, 3, 1);
        t.task(0, 0, 0);
        t.count(9, 0);
        t.run(1, 1);
        t.task(0, 0, 5);
        t.scope(0, 3, 1);
        t.task(2, 6, 3);
        t.run(1, 1);
        t.task(2, 0, 7);
        t.count(9, 1);
        t.run(9, 2);
        t.task(0, 0, 7);
        t.failure(0, 1, 3, 1);
        t.failure(2, 0, 3, 2);
        t.endings(1, 2, 0);
    }

    private static void failureDropped() {
        Trial t = trial("failure dropped").load("0:(p1p2yyyy);1:y!3;2:!4;");
        t.start(0, 0);
        t.run(9, 9);
        t.endings(1, 2);
        t.failure(0, 1, 3, 1);
        t.scope(0, 3, 0);
        t.count(9, 1);
        t.run(9, 2);
        t.task(0, 0, 7);
        t.count(9, 1);
        t.failure(0, 1, 3, 1);
    }

    private static void failureReplaced() {
        Trial t = trial("failure replaced").load("0:(p1{(p2!5)));1:w1!6;2:(^3w9);3:w3;");
        t.start(0, 0);
        t.run(12, 12);
        t.task(0, 0, 5);
        t.task(0, 7, 1);
        t.failure(0, 0, 5, 0);
        t.count(5, 0);
        t.task(2, 8, 1);
        t.run(3, 3);
        t.task(1, 0, 7);
        t.task(0, 0, 5);
        t.task(0, 7, -1);
        t.failure(0, 0, 10, 0);
        t.failure(0, 1, 6, 1);
        t.noFailure(0, 2);
        t.count(9, 1);
        t.scope(0, 3, 0);
        t.next(100);
        t.run(99, 8);
        t.endings(1, 2, 0);
        t.task(0, 0, 7);
        t.count(9, 1);
        t.task(0, 1, 0);
    }

    private static void failureWhileOwnerCleansUp() {
        Trial t = trial("failure while the owner cleans up").load("0:{p1(^2)+1)+2;1:w1!6;2:w4+1!7;");
        t.start(0, 0);
        t.run(10, 10);
        t.task(1, 0, 7);
        t.task(0, 0, 1);
        t.task(0, 8, 1);
        t.task(0, 6, 3);
        t.task(0, 7, 0);
        t.failure(0, 1, 6, 1);
        t.next(100);
        t.run(3, 3);
        t.task(0, 8, 0);
        t.failure(0, 0, 7, 0);
        t.failure(0, 1, 10, 0);
        t.failure(0, 2, 6, 1);
        t.task(0, 7, 0);
        t.run(1, 1);
        t.scope(1, 3, 2);
        t.task(0, 1, 1);
        t.run(9, 3);
        t.task(0, 1, 8);
        t.count(9, 0);
    }

    private static void cancellationDropped() {
        Trial t = trial("cancellation after a failure").load("0:(!5);1:{!5)w9;");
        t.start(0, 0);
        t.run(2, 2);
        t.cancel(0, 0);
        t.task(0, 6, 3);
        t.run(9, 2);
        t.task(0, 0, 7);
        t.count(9, 0);
        t.start(1, 1);
        t.run(2, 2);
        t.task(1, 7, 0);
        t.cancel(1, 0);
        t.task(1, 6, 1);
        t.task(1, 7, -1);
        t.count(9, 1);
        t.noFailure(1, 0);
        t.run(9, 2);
        t.task(1, 0, 8);
        t.task(1, 1, 0);
    }

    private static void deadlineReplacesFailure() {
        Trial t = trial("deadline after a failure").load("0:[3{^1!5))+4;1:w5;2:{[3^1!5))+4;");
        t.start(0, 0);
        t.run(4, 4);
        t.task(0, 7, 1);
        t.run(3, 3);
        t.count(5, 3);
        t.task(0, 6, 2);
        t.task(0, 7, 0);
        t.count(9, 1);
        t.run(99, 6);
        t.task(0, 1, 3);
        t.count(9, 1);
        t.start(2, 1);
        t.run(99, 13);
        t.task(1, 1, 9);
        t.count(11, 2);
        t.count(9, 1);
    }

    private static void tooManyTasks() {
        Trial t = trial("too many tasks").load("0:{p5p5+1)+1;1:+1;2:(p5);3:w1{p5)+1;");
        for (int task = 0; task < 21; task++) {
            t.start(1, task);
        }
        t.run(100, 42);
        t.start(0, 21);
        t.start(2, 22);
        t.run(4, 4);
        t.count(0, 24);
        t.task(23, 4, 0);
        t.run(1, 1);
        t.task(22, 0, 0);
        t.task(22, 2, 2);
        t.failure(22, 0, 11, 22);
        t.task(22, 7, -1);
        t.run(1, 1);
        t.failure(21, 0, 11, 21);
        t.noFailure(21, 1);
        t.task(21, 7, 0);
        t.task(21, 2, 3);
        t.scope(0, 5, 1);
        t.run(99, 5);
        t.task(21, 1, 12);
        t.task(22, 0, 7);
        t.count(0, 24);
    }

    /** More failures between some resets than tasks could bring about without one. */
    private static void manyFailures() {
        Trial t = trial("many failures").load("0:{!1){!1){!1){!1){!1){!1){!1);1:(p2);2:!8;3:{!4)y;");
        for (int round = 0; round < 14; round++) {
            for (int task = 0; task < 8; task++) {
                t.x.start(0);
            }
            t.x.run(100);
            t.x.run(100);
            t.due("count(3)", () -> t.x.count(3), 56);
            t.due("count(1)", () -> t.x.count(1), 0);
            t.due("reset()", () -> t.x.reset(), 0);
        }
        t.start(1, 0);
        t.start(3, 1);
        t.run(99, 12);
        t.failure(0, 0, 10, 0);
        t.failure(0, 1, 8, 2);
        t.task(1, 1, 4);
    }

    private static void tooManyScopes() {
        Trial t = trial("too many scopes").load("0:()()()()()()()()()()()();1:+1[5+1);2:{y);3:((y));");
        for (int task = 0; task < 5; task++) {
            t.start(0, task);
        }
        t.run(100, 100);
        t.run(100, 25);
        t.count(3, 60);
        t.count(4, 0);
        t.start(1, 5);
        t.run(2, 2);
        t.task(5, 2, 2);
        t.task(5, 3, 0);
        t.task(5, 7, -1);
        t.failure(5, 0, 12, 5);
        t.run(9, 1);
        t.task(5, 0, 7);
        t.start(2, 6);
        t.run(9, 2);
        t.failure(6, 0, 12, 6);
        t.count(3, 60);
        t.dueThrow("scope(60, 0)", () -> t.x.scope(60, 0), Trial.INDEX);
        t.scope(59, 0, 4);
        t.due("reset()", () -> t.x.reset(), 0);
        t.start(2, 0);
        t.run(9, 4);
        t.count(3, 1);
    }

    private static void tooManyScopesUnderGuard() {
        Trial t = trial("too many scopes under a guard").load("0:()()()()()()()()()()()();1:()()()()()()()()()()();",
            "2:{(+1)+2)+3;");
        for (int task = 0; task < 4; task++) {
            t.start(0, task);
        }
        t.start(1, 4);
        t.run(100, 100);
        t.run(100, 23);
        t.count(3, 59);
        t.start(2, 5);
        t.run(2, 2);
        t.count(3, 60);
        t.task(5, 7, 0);
        t.task(5, 2, 2);
        t.run(9, 3);
        t.task(5, 1, 15);
        t.task(5, 0, 6);
    }
}
