/** Boundary cases that the sections Turns, Time and In doubt name. */
public final class TurnBoundsTest {
    public static void main(String[] args) {
        Sentences.test(TurnBoundsTest.class);
    }

    // Turns

    @Sentence(in = "Turns", says = "A turn of the first task of the ready queue, which is taken away from the queue")
    static void firstOfTheQueue(Trial t) {
        t.load("0:w1;1:;");
        t.start(0, 0);
        t.start(1, 1);
        t.start(1, 2);
        t.queue(0, 1, 2);
        t.run(1, 1);
        t.queue(1, 2);
        t.run(1, 1);
        t.queue(2);
        t.run(1, 1);
        t.queue();
    }

    @Sentence(in = "Turns", says = "+, -, w, y, z and ! do what they do otherwise")
    static void whatACleanupDoes(Trial t) {
        t.load("0:(^1);1:z!9+9z-2yw1!7;");
        t.start(0, 0);
        t.run(3, 3);
        t.run(1, 1);
        t.task(0, 6, 0);
        t.task(0, 1, 0);
        t.run(1, 1);
        t.task(0, 1, 9);
        t.run(2, 2);
        t.task(0, 1, 7);
        t.run(1, 1);
        t.queue(0);
        t.run(1, 1);
        t.wholeTask(0, 1, 7, 2, 1, -1, 0, 0, -2, 1, 1);
        t.run(1, 1);
        t.count(5, 1);
        t.run(1, 1);
        t.wholeTask(0, 0, 7, 2, 1, -1, 0, 3, -1, 0, -1);
        t.failure(0, 0, 7, 0);
    }

    @Sentence(in = "Turns", says = "all others do nothing")
    static void whatACleanupDoesNot(Trial t) {
        t.load("0:(^1)+1;1:({[1^2p2x>0<0?01>1)));2:y;", "#02;3:+7>0;");
        t.start(3, 0);
        t.runAll(3);
        t.start(0, 1);
        t.run(3, 3);
        for (int turn = 0; turn < 13; turn++) {
            t.run(1, 1);
            t.wholeTask(1, 0, 0, 2, 1, -1, 0, 0, -2, 1, -1);
        }
        t.wholeScope(0, 1, 0, 0, 0, 0, 0, -1, 2);
        t.count(0, 2);
        t.count(3, 1);
        t.content(0, 7);
        t.content(1);
        t.channel(1, 2, 0);
        t.count(8, 1);
        t.count(10, 0);
        t.runAll(1 + 1 + 1 + 1);
        t.wholeTask(1, 6, 1, 4);
    }

    @Sentence(in = "Turns", says = "all others do nothing")
    static void cleanupWithNothingLeft(Trial t) {
        t.load("0:()()()()()()()()()()()();1:()()()()()()()()()()();", "2:;3:(^4);4:(p2);");
        for (int task = 0; task < 4; task++) {
            t.start(0, task);
        }
        t.start(1, 4);
        t.start(3, 5);
        for (int task = 6; task < 24; task++) {
            t.start(2, task);
        }
        t.runAll(100 + 23 + 18 + 3 + 4 + 2);
        t.count(3, 60);
        t.wholeTask(5, 6, 0, 3, 0, -1, 0, 0, -2);
        t.count(9, 0);
        t.count(8, 1);
    }

    @Sentence(in = "Turns",
        says = "If the cleanup has no next instruction, it has run, and the task executes none any more.")
    static void cleanupHasRun(Trial t) {
        t.load("0:(^1);1:+1;2:(^3);");
        t.start(0, 0);
        t.run(4, 4);
        t.wholeTask(0, 0, 1, 2, 1, -1, 0, 0, -2, 1);
        t.run(1, 1);
        t.wholeTask(0, 0, 1, 2, 1, -1, 0, 0, -2, 0);
        t.scope(0, 3, 0);
        t.runAll(2);
        t.start(2, 1);
        t.run(3, 3);
        t.wholeTask(1, 0, 0, 2, 1, -1, 0, 0, -2, 1);
        t.run(1, 1);
        t.wholeTask(1, 0, 0, 2, 1, -1, 0, 0, -2, 0);
        t.scope(1, 7, 2);
        t.count(8, 2);
    }

    @Sentence(in = "Turns", says = "if the innermost scope is open, closing it begins")
    static void closingBeginsAtTheInnermost(Trial t) {
        t.load("0:(p1(p1));1:<0;");
        t.start(0, 0);
        t.run(7, 7);
        t.cancel(0, 0);
        t.run(1, 1);
        t.scope(1, 3, 1);
        t.scope(0, 3, 0);
        t.task(2, 6, 1);
        t.task(1, 6, 0);
        t.count(4, 2);
        t.run(2, 2);
        t.scope(1, 3, 2);
        t.scope(0, 3, 0);
        t.task(1, 6, 0);
        t.run(1, 1);
        t.scope(0, 3, 1);
        t.task(1, 6, 1);
    }

    @Sentence(in = "Turns", says = "If it has live children after that, the task joins.")
    static void joinsLiveChildrenOfAClosingScope(Trial t) {
        t.load("0:(^2p1w1!5);1:y;2:+1;3:(^2p4w1!5);4:<0;");
        t.start(0, 0);
        t.run(8, 8);
        t.endings(1);
        t.task(0, 6, 3);
        t.run(1, 1);
        t.task(0, 0, 0);
        t.task(0, 8, 1);
        t.runAll(4);
        t.start(3, 2);
        t.run(7, 7);
        t.task(2, 6, 3);
        t.run(1, 1);
        t.wholeTask(2, 5, 0, 5, 1, -1, 0, 3, -1, 0);
        t.scope(1, 7, 1);
        t.run(1, 1);
        t.task(2, 0, 0);
        t.scope(1, 7, 1);
        t.run(1, 1);
        t.wholeTask(2, 0, 0, 5, 1, -1, 0, 3, -1, 1);
        t.scope(1, 7, 2);
    }

    @Sentence(in = "Turns", says = "Otherwise, if it has a cleanup that was not begun, the task begins to execute it.")
    static void cleanupRunsOnce(Trial t) {
        t.load("0:(^1);1:w2+1;2:();");
        t.start(0, 0);
        t.run(3, 3);
        t.count(8, 1);
        t.cancel(0, 0);
        t.run(4, 4);
        t.wholeTask(0, 0, 1, 2, 1, -1, 0, 1, -1, 0);
        t.scope(0, 3, 0);
        t.run(1, 1);
        t.scope(0, 3, 2);
        t.runAll(1);
        t.wholeTask(0, 8, 1, 2);
        t.count(8, 1);
        t.start(2, 1);
        t.run(1, 1);
        t.cancel(1, 0);
        t.runAll(2);
        t.scope(1, 7, 0);
        t.count(8, 1);
    }

    @Sentence(in = "Turns", says = "Otherwise the scope has ended and is no longer open")
    static void interruptedScopeHasEnded(Trial t) {
        t.load("0:(([1w9)));");
        t.start(0, 0);
        t.run(4, 4);
        t.cancel(0, 0);
        for (int scope = 2; scope >= 0; scope--) {
            int level = scope;
            t.scope(scope, 3, 0);
            t.run(1, 1);
            t.scope(scope, 3, 2);
            t.task(0, 3, scope);
            t.count(4, scope);
            t.dueThrow("scopeOf", () -> t.x.scopeOf(0, level), Trial.INDEX);
        }
        t.task(0, 0, 0);
        t.runAll(1);
        t.count(5, 0);
    }

    @Sentence(in = "Turns", says = "if its level was the target of the reason, the task has no reason any more")
    static void levelOfTheTarget(Trial t) {
        t.load("0:({([1(!4))))+1);");
        t.start(0, 0);
        t.run(6, 6);
        t.task(0, 7, 1);
        for (int open = 4; open >= 2; open--) {
            t.run(1, 1);
            t.wholeTask(0, 0, 0, 6, open, -1, 0, 3, 1);
        }
        t.run(1, 1);
        t.wholeTask(0, 0, 4, 10, 1, -1, 0, 0, -2);
        t.noFailure(0, 0);
        t.runAll(3);
        t.wholeTask(0, 6, 5, 12);
    }

    @Sentence(in = "Turns", says = "the place is behind the ) of the scope")
    static void placeBehindTheScope(Trial t) {
        t.load("0:{!1()([2())({))))+1;1:{!2)(())+1;2:({!3))+1;");
        t.start(0, 0);
        t.run(3, 3);
        t.wholeTask(0, 0, 1, 15);
        t.runAll(2);
        t.start(1, 1);
        t.run(3, 3);
        t.wholeTask(1, 0, 2, 3);
        t.runAll(6);
        t.start(2, 2);
        t.run(4, 4);
        t.wholeTask(2, 0, 3, 4, 1);
        t.run(1, 1);
        t.wholeTask(2, 0, 3, 5, 0);
    }

    @Sentence(in = "Turns",
        says = "the register becomes -1 for a deadline, and the code of the first cause for a failure")
    static void registerAfterTheTarget(Trial t) {
        t.load("0:+9[1w9)y;1:+9{!1)y;2:+9{(^3!2))y;3:!9;");
        t.start(0, 0);
        t.run(4, 4);
        t.task(0, 1, 9);
        t.run(1, 1);
        t.task(0, 1, -1);
        t.runAll(2);
        t.start(1, 1);
        t.run(3, 3);
        t.task(1, 1, 9);
        t.run(1, 1);
        t.task(1, 1, 1);
        t.runAll(2);
        t.start(2, 2);
        t.run(8, 8);
        t.task(2, 1, 9);
        t.failure(2, 0, 9, 2);
        t.run(1, 1);
        t.task(2, 1, 2);
    }

    @Sentence(in = "Turns", says = "If it has a reason and no open scopes")
    static void endsOnceNoScopeIsOpen(Trial t) {
        t.load("0:(y)y;1:y;");
        t.start(0, 0);
        t.start(1, 1);
        t.run(3, 3);
        t.cancel(0, 0);
        t.cancel(1, 0);
        t.run(1, 1);
        t.task(1, 0, 8);
        t.task(0, 0, 0);
        t.run(1, 1);
        t.wholeTask(0, 0, 0, 2, 0, -1, 0, 1, -1);
        t.run(1, 1);
        t.task(0, 0, 8);
        t.endings(1, 0);
    }

    @Sentence(in = "Turns",
        says = "it ends: as cancelled for cancellation, as failed for a failure")
    static void endsByItsReason(Trial t) {
        t.load("0:w9;1:!9;2:(y);");
        t.start(0, 0);
        t.start(1, 1);
        t.start(2, 2);
        t.start(2, 3);
        t.run(3, 3);
        t.cancel(0, 0);
        t.cancel(2, 0);
        t.cancel(3, 0);
        t.runAll(5);
        t.endings(3, 1, 0, 2);
        t.wholeTask(0, 8, 0, 1);
        t.wholeTask(1, 7, 0, 1);
        t.wholeTask(2, 8, 0, 1);
        t.wholeTask(3, 8, 0, 0);
    }

    @Sentence(in = "Turns", says = "If its program has no next instruction, it ends as done.")
    static void endsAsDone(Trial t) {
        t.load("1:y;2:zy;");
        t.start(0, 0);
        t.start(1, 1);
        t.start(2, 2);
        t.run(3, 3);
        t.wholeTask(0, 6, 0, 0);
        t.wholeTask(1, 0, 0, 1);
        t.wholeTask(2, 0, 0, 2);
        t.run(2, 2);
        t.wholeTask(1, 6, 0, 1);
        t.wholeTask(2, 6, 0, 2);
        t.endings(0, 1, 2);
    }

    @Sentence(in = "Turns", says = "The place moves on behind it, except as told for ).")
    static void placeMovesOn(Trial t) {
        t.load("0:+1w1>0<0?00!1;1:(p2);2:;", "#03;");
        t.start(0, 0);
        int[] places = {1, 2, 2, 3, 4, 5};
        for (int place : places) {
            t.run(1, 1);
            t.task(0, 2, place);
        }
        t.task(0, 0, 4);
        t.cancel(0, 0);
        t.runAll(1);
        t.task(0, 2, 5);
        t.start(1, 1);
        t.run(2, 2);
        t.task(1, 2, 2);
        t.cancel(1, 0);
        t.runAll(3);
        t.task(1, 2, 2);
    }

    @Sentence(in = "Turns", says = "If the task is ready afterwards and is not in the queue, it goes to its end.")
    static void toTheEndAfterItsTurn(Trial t) {
        t.load("0:y+1>0;1:w1<0;2:(p3);3:y;");
        t.start(0, 0);
        t.start(1, 1);
        t.start(2, 2);
        t.run(1, 1);
        t.queue(1, 2, 0);
        t.run(1, 1);
        t.queue(2, 0);
        t.run(3, 3);
        t.queue(0, 3, 2);
        t.run(1, 1);
        t.queue(3, 2);
        t.run(4, 4);
        t.queue(2);
        t.run(1, 1);
        t.queue();
        t.run(1, 1);
        t.queue(1);
        t.run(1, 1);
        t.queue(0, 1);
    }

    @Sentence(in = "Turns",
        says = "A cleanup cannot be interrupted: reasons that come during it are kept and looked at afterwards.")
    static void reasonDuringACleanup(Trial t) {
        t.load("0:([4^1)y);1:+1w6+1;");
        t.start(0, 0);
        t.run(6, 6);
        t.task(0, 0, 1);
        t.run(1, 1);
        t.count(5, 4);
        t.wholeTask(0, 1, 1, 3, 2, -1, 0, 2, 1, 1, 6);
        t.cancel(0, 1);
        t.wholeTask(0, 1, 1, 3, 2, -1, 0, 1, -1, 1, 6);
        t.run(2, 2);
        t.wholeTask(0, 0, 2, 3, 2, -1, 0, 1, -1, 1, -1);
        t.scope(1, 3, 0);
        t.run(1, 1);
        t.task(0, 8, 0);
        t.scope(1, 3, 0);
        t.run(1, 1);
        t.scope(1, 3, 2);
        t.runAll(2);
        t.wholeTask(0, 8, 2, 3);
    }

    @Sentence(in = "Turns", says = "If ! is executed in a cleanup, the cleanup has run.")
    static void failureEndsTheCleanup(Trial t) {
        t.load("0:{(^1))+2;1:+1!5+9!6;");
        t.start(0, 0);
        t.run(6, 6);
        t.wholeTask(0, 0, 1, 3, 2, -1, 0, 3, 0, 0);
        t.scope(1, 7, 2);
        t.scope(1, 3, 0);
        t.run(1, 1);
        t.wholeTask(0, 0, 1, 3, 1, -1, 0, 3, 0, 0);
        t.runAll(3);
        t.wholeTask(0, 6, 7, 6);
        t.count(8, 1);
        t.count(9, 0);
    }

    @Sentence(in = "Turns", says = "If the task has no reason, its failure interrupts the task as usual")
    static void failureWithoutAReasonInACleanup(Trial t) {
        t.load("0:{(^1)y)+1;1:+2!9;");
        t.start(0, 0);
        t.run(5, 5);
        t.task(0, 6, 0);
        t.run(1, 1);
        t.wholeTask(0, 0, 2, 3, 2, -1, 0, 3, 0, 0);
        t.failure(0, 0, 9, 0);
        t.noFailure(0, 1);
        t.count(9, 0);
        t.run(2, 2);
        t.wholeTask(0, 0, 9, 6, 0, -1, 0, 0, -2);
    }

    @Sentence(in = "Turns", says = "but comes from the scope outside the one with the cleanup")
    static void failureFromOutsideTheCleanup(Trial t) {
        int[] turns = {4, 5, 6, 5, 4};
        int[] targets = {-1, 0, 0, -1, -1};
        for (int program = 0; program < 5; program++) {
            Trial own = t.another().load("0:{^5)y;1:{{^5))y;2:{({^5)))y;", "3:({^5))y;4:(^5)y;5:!8;");
            own.start(program, 0);
            own.run(turns[program], turns[program]);
            own.task(0, 6, 3);
            own.task(0, 7, targets[program]);
            own.failure(0, 0, 8, 0);
            own.noFailure(0, 1);
        }
    }

    @Sentence(in = "Turns", says = "the new one has it as its cause and takes its place with the same target")
    static void failureUponFailureInACleanup(Trial t) {
        t.load("0:{({^1(^1!3))))y;1:!8;");
        t.start(0, 0);
        t.run(7, 7);
        t.wholeTask(0, 0, 0, 7, 4, -1, 0, 3, 2);
        t.run(2, 2);
        t.wholeTask(0, 0, 0, 7, 4, -1, 0, 3, 2, 0);
        t.failure(0, 0, 8, 0);
        t.failure(0, 1, 3, 0);
        t.noFailure(0, 2);
        t.run(3, 3);
        t.wholeTask(0, 0, 0, 7, 3, -1, 0, 3, 2, 0);
        t.failure(0, 0, 8, 0);
        t.failure(0, 1, 8, 0);
        t.failure(0, 2, 3, 0);
        t.noFailure(0, 3);
        t.run(1, 1);
        t.wholeTask(0, 0, 3, 9, 2, -1, 0, 0, -2);
        t.count(9, 0);
    }

    @Sentence(in = "Turns", says = "Otherwise the new one is suppressed.")
    static void failureUponOtherReasonsInACleanup(Trial t) {
        t.load("0:{(^1w9))y;1:!8;2:[1(^1w9))y;");
        t.start(0, 0);
        t.run(4, 4);
        t.cancel(0, 0);
        t.run(2, 2);
        t.wholeTask(0, 0, 0, 4, 2, -1, 0, 1, -1, 0);
        t.noFailure(0, 0);
        t.count(9, 1);
        t.runAll(3);
        t.task(0, 0, 8);
        t.start(2, 1);
        t.run(7, 7);
        t.wholeTask(1, 0, 0, 4, 2, -1, 0, 2, 0, 0);
        t.noFailure(1, 0);
        t.count(9, 2);
        t.run(2, 2);
        t.wholeTask(1, 0, -1, 6, 0, -1, 0, 0, -2, 0);
    }

    // Time

    @Sentence(in = "Time", says = "The time is 0 at first.")
    static void timeIsZeroAtFirst(Trial t) {
        t.load("0:[1w2);");
        t.count(5, 0);
        t.start(0, 0);
        t.run(2, 2);
        t.count(5, 0);
        t.scope(0, 6, 1);
        t.task(0, 9, 2);
    }

    @Sentence(in = "Time", says = "If no task is ready")
    static void noTimePassesWhileATaskIsReady(Trial t) {
        t.load("0:w1;1:yy;");
        t.start(0, 0);
        t.start(1, 1);
        t.run(3, 3);
        t.count(5, 0);
        t.next(1);
        t.run(1, 1);
        t.count(5, 0);
        t.count(7, 0);
        t.next(100);
        t.run(1, 1);
        t.count(5, 1);
        t.count(7, 1);
        t.next(0);
    }

    @Sentence(in = "Time", says = "or live tasks have open scopes with deadlines that have not passed")
    static void deadlinesThatHaveNotPassed(Trial t) {
        t.load("0:[2<0)<0;1:([5^2<0)<0);2:w9;");
        t.start(0, 0);
        t.run(2, 2);
        t.next(100);
        t.run(1, 1);
        t.count(5, 2);
        t.runAll(2);
        t.next(300);
        t.start(1, 1);
        t.run(4, 4);
        t.next(100);
        t.run(3, 3);
        t.count(5, 7);
        t.task(1, 9, 16);
        t.scope(2, 3, 1);
        t.next(100);
        t.run(1, 1);
        t.count(5, 16);
        t.count(11, 2);
        t.count(7, 3);
        t.runAll(3);
        t.next(300);
        t.count(1, 2);
        t.run(1, 0);
    }

    @Sentence(in = "Time", says = "which includes closing ones")
    static void deadlinesOfClosingScopes(Trial t) {
        t.load("0:[3^1!4);1:w9;2:[3p3w1!5);3:(^1<0);");
        t.start(0, 0);
        t.run(5, 5);
        t.scope(0, 3, 1);
        t.next(100);
        t.run(1, 1);
        t.count(5, 3);
        t.count(7, 1);
        t.count(11, 1);
        t.run(1, 1);
        t.count(5, 9);
        t.runAll(3);
        t.reset(0);
        t.start(2, 0);
        t.run(11, 11);
        t.task(0, 0, 5);
        t.task(1, 0, 1);
        t.scope(0, 3, 1);
        t.count(5, 1);
        t.run(1, 1);
        t.count(5, 3);
        t.count(11, 1);
        t.task(0, 0, 5);
        t.task(0, 6, 3);
        t.run(1, 1);
        t.count(5, 10);
    }

    @Sentence(in = "Time", says = "the time becomes the least time at which a task wakes or a deadline passes")
    static void leastTime(Trial t) {
        t.load("0:w3;1:[2w9);2:w1;3:[4w9);4:w4;");
        for (int program = 0; program < 5; program++) {
            t.start(program, program);
        }
        t.run(7, 7);
        int[] times = {1, 2, 3, 4};
        int[] turns = {1, 2, 1, 3};
        for (int each = 0; each < 4; each++) {
            t.run(1, 1);
            t.count(5, times[each]);
            t.run(turns[each], turns[each]);
        }
        t.next(200);
        t.count(7, 4);
    }

    @Sentence(in = "Time", says = "then all tasks that wake become ready, in ascending order")
    static void wakeInAscendingOrder(Trial t) {
        t.load("0:w1w2;1:yyw3;2:w3;3:w4;");
        t.start(1, 0);
        t.start(0, 1);
        t.start(2, 2);
        t.start(0, 3);
        t.start(3, 4);
        t.run(7, 7);
        t.queue();
        t.run(1, 1);
        t.queue(1, 3);
        t.run(2, 2);
        t.run(1, 1);
        t.count(5, 3);
        t.queue(0, 1, 2, 3);
        t.task(4, 0, 1);
        t.runAll(4 + 2);
        t.endings(0, 1, 2, 3, 4);
    }

    @Sentence(in = "Time", says = "then all deadlines that pass, in the order of the scopes")
    static void deadlinesInOrder(Trial t) {
        t.load("0:y[2w9);1:[2w9);2:w2;3:[2[2w9));");
        t.start(2, 0);
        t.start(0, 1);
        t.start(1, 2);
        t.start(3, 3);
        t.start(2, 4);
        t.run(10, 10);
        t.queue();
        t.scope(0, 0, 2);
        t.scope(1, 0, 3);
        t.scope(2, 0, 1);
        t.scope(3, 0, 3);
        t.run(1, 1);
        t.queue(0, 4, 2, 3, 1);
        t.count(11, 4);
        t.task(3, 7, 0);
    }

    @Sentence(in = "Time", says = "then all tasks that wake become ready, in ascending order; "
        + "then all deadlines that pass, in the order of the scopes, interrupt the owners of their scopes")
    static void wakesAtItsDeadline(Trial t) {
        t.load("0:[2w2+5)+1;1:w2;");
        t.start(0, 0);
        t.start(1, 1);
        t.run(4, 4);
        t.count(5, 2);
        t.queue(0, 1);
        t.wholeTask(0, 0, 0, 2, 1, -1, 0, 2, 0, 0, -1);
        t.runAll(4);
        t.wholeTask(0, 6, 0, 5);
    }

    @Sentence(in = "Time", says = "interrupt the owners of their scopes, unless the scope is closing")
    static void deadlineOfAClosingScope(Trial t) {
        t.load("0:{[3^1!4));1:w5;2:{[3^1)y);");
        t.start(0, 0);
        t.run(7, 7);
        t.count(5, 3);
        t.count(11, 1);
        t.wholeTask(0, 1, 0, 4, 2, -1, 0, 3, 0, 1, 5);
        t.count(9, 0);
        t.runAll(5);
        t.task(0, 1, 4);
        t.start(2, 1);
        t.run(6, 6);
        t.count(5, 8);
        t.count(11, 2);
        t.wholeTask(1, 1, 0, 3, 2, -1, 0, 2, 1, 1, 10);
    }

    @Sentence(in = "Time", says = "all deadlines that pass")
    static void deadlineOfAnEndedScope(Trial t) {
        t.load("0:[1)[2y)w5;");
        t.start(0, 0);
        t.run(6, 6);
        t.count(5, 0);
        t.run(1, 1);
        t.count(5, 5);
        t.count(11, 0);
        t.runAll(1);
        t.task(0, 1, 0);
    }

    // In doubt

    @Sentence(in = "In doubt", says = "Guards count at the level of the place or at lower levels.")
    static void guardsAtOrBelowTheLevel(Trial t) {
        String[] programs = {"0:{!1);", "0:{(!1));", "0:(!1);", "0:({p1{<0)));", "0:{p1(<0));", "0:(p1{<0));",
            "0:({^1));"};
        int[] turns = {2, 3, 2, 6, 5, 5, 5};
        int[] targets = {0, 0, -1, 1, 0, -1, -1};
        for (int each = 0; each < programs.length; each++) {
            Trial own = t.another().load(programs[each] + "1:!2;");
            own.start(0, 0);
            own.run(turns[each], turns[each]);
            own.task(0, 6, 3);
            own.task(0, 7, targets[each]);
        }
    }

    @Sentence(in = "In doubt", says = "A closing scope counts among the open scopes of its task until it has ended.")
    static void closingScopeIsAmongTheOpen(Trial t) {
        t.load("0:((^1!3));1:y;");
        t.start(0, 0);
        t.run(5, 5);
        t.scope(1, 3, 1);
        t.task(0, 3, 2);
        t.scopeOf(0, 1, 1);
        t.count(4, 2);
        t.run(2, 2);
        t.scope(1, 3, 1);
        t.task(0, 3, 2);
        t.run(1, 1);
        t.scope(1, 3, 2);
        t.task(0, 3, 1);
        t.dueThrow("scopeOf(0, 1)", () -> t.x.scopeOf(0, 1), Trial.INDEX);
        t.count(4, 1);
    }

    @Sentence(in = "In doubt", says = "A scope whose ) waits for live children stays open meanwhile.")
    static void joinedScopeStaysOpen(Trial t) {
        t.load("0:{(p1)y)y;1:w1!6;");
        t.start(0, 0);
        t.run(5, 5);
        t.task(0, 0, 5);
        t.scope(1, 3, 0);
        t.run(3, 3);
        t.wholeTask(0, 0, 0, 3, 2, -1, 0, 3, 0);
        t.failure(0, 1, 6, 1);
        t.count(9, 0);
    }

    @Sentence(in = "In doubt", says = "The deadlines that passed include those of closing scopes.")
    static void passedDeadlinesOfClosingScopes(Trial t) {
        t.load("0:[3^1!4);1:w5;");
        t.start(0, 0);
        t.run(5, 5);
        t.scope(0, 3, 1);
        t.count(11, 0);
        t.run(1, 1);
        t.count(11, 1);
        t.scope(0, 3, 1);
    }

    @Sentence(in = "In doubt", says = "reset leaves the buffer as it is")
    static void resetLeavesTheBuffer(Trial t) {
        t.load("0:y;");
        t.start(0, 0);
        t.write("0:yyy");
        t.reset(1);
        t.count(12, 5);
        t.append(";", 6);
        t.due("execute()", () -> t.x.execute(), 1);
        t.program(0, -1, 3);
    }

    @Sentence(in = "In doubt", says = "The place of a task that executes a cleanup is that in its program.")
    static void placeDuringACleanup(Trial t) {
        t.load("0:(^1y)+1;1:yyyyyyyy;2:(^1!9)+1;");
        t.start(0, 0);
        t.start(2, 1);
        t.run(8, 8);
        for (int turn = 0; turn < 8; turn++) {
            t.task(0, 8, 1);
            t.task(0, 2, 3);
            t.task(1, 8, 1);
            t.task(1, 2, 3);
            t.run(2, 2);
        }
    }
}
