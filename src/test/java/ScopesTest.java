/** Promises 8 to 13 where scopes take part: joining, cleanups, deadlines, failures and guards. */
public final class ScopesTest {
    private static final Checks CHECKS = new Checks();

    public static void main(String[] args) {
        joinAtClosing();
        cleanupAtClosing();
        cleanupIsCopied();
        onlySimpleInstructionsInCleanups();
        cancelChildren();
        cancelOwner();
        closingLeavesCleanupOfChild();
        deadline();
        deadlineOfOuterScope();
        deadlinesTogether();
        deadlineWhileClosing();
        deadlineInCleanup();
        guard();
        failuresGoOutward();
        failureInOuterScope();
        CHECKS.finish();
    }

    private static Trial trial(String name) {
        return new Trial(CHECKS, name);
    }

    private static void joinAtClosing() {
        Trial t = trial("join").load("0:(p1)+1;1:yy;");
        t.start(0, 0);
        t.run(4, 4);
        t.task(0, 0, 5);
        t.task(0, 2, 2);
        t.task(0, 3, 1);
        t.task(0, 6, 0);
        t.scope(0, 0, 0);
        t.scope(0, 1, 0);
        t.scope(0, 2, 0);
        t.scope(0, 3, 0);
        t.scope(0, 4, 1);
        t.scope(0, 5, 1);
        t.scope(0, 6, -1);
        t.scope(0, 7, 0);
        t.count(4, 1);
        t.queue(1);
        t.run(2, 2);
        t.task(1, 0, 6);
        t.task(0, 0, 0);
        t.scope(0, 4, 0);
        t.scope(0, 5, 1);
        t.scope(0, 3, 0);
        t.run(1, 1);
        t.scope(0, 3, 2);
        t.task(0, 2, 3);
        t.task(0, 3, 0);
        t.count(3, 1);
        t.count(4, 0);
        t.run(9, 2);
        t.task(0, 1, 1);
        t.count(6, 9);
    }

    private static void cleanupAtClosing() {
        Trial t = trial("cleanup").load("0:(^1)+1;1:+2y;2:(^1^5);");
        t.start(0, 0);
        t.run(1, 1);
        t.scope(0, 7, 0);
        t.run(1, 1);
        t.scope(0, 7, 1);
        t.count(8, 0);
        t.run(1, 1);
        t.scope(0, 7, 2);
        t.scope(0, 3, 0);
        t.count(8, 1);
        t.task(0, 8, 1);
        t.task(0, 0, 0);
        t.task(0, 2, 2);
        t.task(0, 1, 0);
        t.run(1, 1);
        t.task(0, 1, 2);
        t.run(1, 1);
        t.task(0, 8, 1);
        t.run(1, 1);
        t.task(0, 8, 0);
        t.task(0, 2, 2);
        t.scope(0, 3, 0);
        t.run(1, 1);
        t.scope(0, 3, 2);
        t.scope(0, 7, 2);
        t.task(0, 2, 3);
        t.run(9, 2);
        t.task(0, 1, 3);
        t.count(8, 1);
        t.start(2, 1);
        t.run(4, 4);
        t.task(1, 8, 1);
        t.run(1, 1);
        t.task(1, 8, 0);
        t.run(9, 2);
        t.task(1, 1, 0);
        t.count(8, 2);
    }

    private static void cleanupIsCopied() {
        Trial t = trial("copied cleanup").load("0:(^1y);1:+2;");
        t.start(0, 0);
        t.start(0, 1);
        t.run(3, 3);
        t.load("1:+7+1;");
        t.run(99, 14);
        t.task(0, 1, 2);
        t.task(1, 1, 8);
    }

    private static void onlySimpleInstructionsInCleanups() {
        Trial t = trial("what a cleanup does").load("0:(^1>0);1:(p2x[1{>0<0?01^2y)))+1-3;2:;#03;");
        t.start(0, 0);
        t.run(99, 4 + 15 + 3);
        t.task(0, 0, 6);
        t.task(0, 1, -2);
        t.task(0, 5, 0);
        t.count(0, 1);
        t.count(3, 1);
        t.count(10, 0);
        t.channel(0, 1, 1);
        Trial z = trial("z in a cleanup").load("0:(^1)+5;1:z+1zw3+2z+3;");
        z.start(0, 0);
        z.run(99, 3 + 5 + 3 + 1);
        z.task(0, 1, 10);
        z.count(5, 0);
    }

    private static void cancelChildren() {
        Trial t = trial("x").load("0:(p1(p1)p1x)+1;1:w9;2:{x)-1;");
        t.start(0, 0);
        t.run(7, 7);
        t.task(0, 0, 5);
        t.cancel(2, 0);
        t.run(4, 4);
        t.task(2, 0, 8);
        t.scope(0, 4, 2);
        t.scope(1, 5, 1);
        t.task(3, 0, 1);
        t.queue(0);
        t.run(1, 1);
        t.queue(1, 3, 0);
        t.task(1, 6, 1);
        t.task(3, 6, 1);
        t.task(0, 6, 0);
        t.run(99, 5);
        t.endings(2, 1, 3, 0);
        t.task(0, 0, 6);
        t.task(0, 1, 1);
        t.count(5, 0);
        t.start(2, 4);
        t.run(99, 5);
        t.task(4, 0, 6);
    }

    private static void cancelOwner() {
        Trial t = trial("cancel of an owner").load("0:((p1p1^3));1:(p2w9);2:w9;3:+4;");
        t.start(0, 0);
        t.run(14, 14);
        t.task(0, 0, 5);
        t.next(100);
        t.cancel(0, 0);
        t.run(1, 1);
        t.task(0, 0, 5);
        t.scope(1, 3, 1);
        t.scope(0, 3, 0);
        t.queue(1, 2);
        t.run(2, 2);
        t.task(1, 0, 5);
        t.queue(3, 4);
        t.run(1, 1);
        t.queue(4, 1);
        t.run(3, 3);
        t.task(2, 3, 0);
        t.scope(2, 3, 2);
        t.queue(1, 2);
        t.run(2, 2);
        t.endings(3, 4, 1, 2);
        t.queue(0);
        t.run(1, 1);
        t.task(0, 8, 1);
        t.scope(1, 7, 2);
        t.run(2, 2);
        t.scope(1, 3, 1);
        t.count(4, 2);
        t.run(1, 1);
        t.scope(1, 3, 2);
        t.task(0, 3, 1);
        t.scope(0, 3, 0);
        t.run(1, 1);
        t.scope(0, 3, 2);
        t.task(0, 0, 0);
        t.run(9, 1);
        t.task(0, 0, 8);
        t.task(0, 1, 4);
        t.task(0, 2, 5);
        t.count(9, 0);
    }

    private static void closingLeavesCleanupOfChild() {
        Trial t = trial("closing and the cleanup of a child").load("0:(p1w1!5);1:(^2);2:w4+1;");
        t.start(0, 0);
        t.run(8, 8);
        t.task(1, 0, 1);
        t.task(0, 0, 0);
        t.count(5, 1);
        t.run(2, 2);
        t.task(0, 0, 5);
        t.task(1, 0, 1);
        t.task(1, 6, 1);
        t.task(1, 9, 4);
        t.next(100);
        t.run(99, 7);
        t.task(1, 0, 8);
        t.task(1, 1, 1);
        t.task(0, 0, 7);
    }

    private static void deadline() {
        Trial t = trial("deadline").load("0:[2w5+1)+3;1:[9w1)w3;");
        t.start(0, 0);
        t.run(2, 2);
        t.scope(0, 2, 1);
        t.scope(0, 6, 2);
        t.count(11, 0);
        t.run(1, 1);
        t.count(5, 2);
        t.count(11, 1);
        t.task(0, 0, 0);
        t.task(0, 6, 2);
        t.task(0, 7, 0);
        t.task(0, 9, -1);
        t.scope(0, 3, 0);
        t.noFailure(0, 0);
        t.run(1, 1);
        t.scope(0, 3, 2);
        t.task(0, 6, 0);
        t.task(0, 7, -2);
        t.task(0, 1, -1);
        t.task(0, 2, 4);
        t.run(9, 2);
        t.task(0, 1, 2);
        t.task(0, 0, 6);
        t.start(1, 1);
        t.run(6, 6);
        t.scope(1, 6, 11);
        t.scope(1, 3, 2);
        t.task(1, 0, 0);
        t.count(5, 6);
        t.run(9, 1);
        t.next(200);
        t.count(11, 1);
        t.count(5, 6);
    }

    private static void deadlineOfOuterScope() {
        Trial t = trial("deadline of the outer scope").load("0:[2(^1w9)+1)+5;1:+3;");
        t.start(0, 0);
        t.run(5, 5);
        t.task(0, 7, 0);
        t.task(0, 3, 2);
        t.run(1, 1);
        t.task(0, 8, 1);
        t.scope(1, 3, 1);
        t.run(3, 3);
        t.scope(1, 3, 2);
        t.task(0, 6, 2);
        t.task(0, 1, 3);
        t.run(1, 1);
        t.scope(0, 3, 2);
        t.task(0, 1, -1);
        t.run(9, 2);
        t.task(0, 1, 4);
    }

    private static void deadlinesTogether() {
        Trial t = trial("deadlines at the same time").load("0:[2[1w1[1w9)))+5;1:w2;2:[2<0);3:[1<1);");
        t.start(0, 0);
        t.start(1, 1);
        t.start(2, 2);
        t.start(3, 3);
        t.run(9, 9);
        t.count(5, 1);
        t.count(11, 2);
        t.queue(0, 3);
        t.task(0, 7, 1);
        t.task(3, 7, 0);
        t.run(2, 2);
        t.task(0, 1, -1);
        t.task(0, 2, 7);
        t.run(99, 8);
        t.count(5, 2);
        t.count(11, 3);
        t.task(0, 1, 4);
        Trial both = trial("two deadlines of one task").load("0:[1[1w1))+5;");
        both.start(0, 0);
        both.run(4, 4);
        both.count(11, 2);
        both.task(0, 7, 0);
        both.queue(0);
        both.run(9, 4);
        both.task(0, 1, 4);
        both.count(9, 0);
    }

    private static void deadlineWhileClosing() {
        Trial t = trial("deadline of a closing scope").load("0:[2^1!1);1:w5;");
        t.start(0, 0);
        t.run(5, 5);
        t.task(0, 0, 1);
        t.scope(0, 3, 1);
        t.next(100);
        t.run(1, 1);
        t.count(5, 2);
        t.count(11, 1);
        t.task(0, 6, 3);
        t.task(0, 7, -1);
        t.task(0, 0, 1);
        t.next(100);
        t.run(1, 1);
        t.count(5, 5);
        t.run(9, 3);
        t.task(0, 0, 7);
        t.count(9, 0);
    }

    private static void deadlineInCleanup() {
        Trial t = trial("deadline in a cleanup").load("0:[2^1)+5;1:w3+1;");
        t.start(0, 0);
        t.run(5, 5);
        t.count(5, 2);
        t.task(0, 0, 1);
        t.task(0, 9, 3);
        t.task(0, 6, 2);
        t.scope(0, 3, 0);
        t.run(3, 3);
        t.task(0, 1, 1);
        t.task(0, 8, 0);
        t.run(1, 1);
        t.scope(0, 3, 2);
        t.task(0, 1, -1);
        t.task(0, 2, 3);
        t.run(9, 2);
        t.task(0, 1, 4);
        t.count(8, 1);
    }

    private static void guard() {
        Trial t = trial("guard").load("0:{(!7+1)+2)+1;1:+2!9+1;2:!3;3:{)!2;");
        t.start(0, 0);
        t.run(3, 3);
        t.scope(0, 2, 2);
        t.task(0, 0, 0);
        t.task(0, 2, 3);
        t.task(0, 6, 3);
        t.task(0, 7, 0);
        t.failure(0, 0, 7, 0);
        t.noFailure(0, 1);
        t.noFailure(0, -1);
        t.noFailure(0, Integer.MAX_VALUE);
        t.noFailure(0, Integer.MIN_VALUE);
        t.dueThrow("failure(0, 9, 2)", () -> t.x.failure(0, 9, 2), Trial.ARGUMENT);
        t.dueThrow("failure(0, 0, -1)", () -> t.x.failure(0, 0, -1), Trial.ARGUMENT);
        t.dueThrow("failure(1, 0, 2)", () -> t.x.failure(1, 0, 2), Trial.INDEX);
        t.dueThrow("failure(-1, 0, 0)", () -> t.x.failure(-1, 0, 0), Trial.INDEX);
        t.run(1, 1);
        t.scope(1, 3, 2);
        t.task(0, 2, 3);
        t.run(1, 1);
        t.scope(0, 3, 2);
        t.task(0, 1, 7);
        t.task(0, 2, 7);
        t.task(0, 6, 0);
        t.task(0, 7, -2);
        t.noFailure(0, 0);
        t.run(9, 2);
        t.task(0, 1, 8);
        t.task(0, 0, 6);
        t.start(1, 1);
        t.run(9, 3);
        t.task(1, 0, 7);
        t.task(1, 1, 2);
        t.task(1, 2, 2);
        t.task(1, 6, 3);
        t.task(1, 7, -1);
        t.failure(1, 0, 9, 1);
        t.start(2, 2);
        t.cancel(2, 0);
        t.run(9, 1);
        t.task(2, 0, 8);
        t.start(3, 3);
        t.run(9, 4);
        t.task(3, 0, 7);
        t.failure(3, 0, 2, 3);
        t.count(9, 0);
    }

    private static void failuresGoOutward() {
        Trial t = trial("failures go outward").load("0:{p1<0)+1;1:(p2<0);2:w1!4;");
        t.start(0, 0);
        t.run(8, 8);
        t.count(5, 1);
        t.run(2, 2);
        t.task(2, 0, 7);
        t.failure(2, 0, 4, 2);
        t.task(1, 0, 0);
        t.task(1, 7, -1);
        t.failure(1, 0, 10, 1);
        t.failure(1, 1, 4, 2);
        t.noFailure(1, 2);
        t.task(0, 0, 3);
        t.run(2, 2);
        t.task(1, 0, 7);
        t.task(0, 0, 0);
        t.task(0, 7, 0);
        t.failure(0, 0, 10, 0);
        t.failure(0, 1, 10, 1);
        t.failure(0, 2, 4, 2);
        t.noFailure(0, 3);
        t.run(9, 3);
        t.task(0, 1, 5);
        t.task(0, 0, 6);
        t.endings(2, 1, 0);
        t.channel(0, 3, 0);
        t.failure(1, 1, 4, 2);
    }

    private static void failureInOuterScope() {
        Trial t = trial("failure from an outer scope").load("0:{(p1{<0)))+1;1:!4;");
        t.start(0, 0);
        t.run(6, 6);
        t.task(1, 0, 7);
        t.task(0, 3, 3);
        t.task(0, 7, 0);
        t.run(9, 5);
        t.task(0, 1, 5);
        t.count(4, 0);
        Trial level = trial("guard at the level of the place").load("0:({p1{<0)))+1;1:!4;");
        level.start(0, 0);
        level.run(6, 6);
        level.task(0, 7, 1);
        level.run(9, 5);
        level.task(0, 1, 5);
        level.task(0, 0, 6);
    }
}
