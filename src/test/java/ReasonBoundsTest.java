/** Boundary cases that the sections Interrupting and Failures name. */
public final class ReasonBoundsTest {
    public static void main(String[] args) {
        Sentences.test(ReasonBoundsTest.class);
    }

    // Interrupting

    @Sentence(in = "Interrupting", says = "cancellation has the target -1")
    static void targetOfCancellation(Trial t) {
        t.load("0:({[9w9)))+1;");
        t.start(0, 0);
        t.run(4, 4);
        t.cancel(0, 0);
        t.wholeTask(0, 0, 0, 4, 3, -1, 0, 1, -1, 0, -1);
        t.run(3, 3);
        t.wholeTask(0, 0, 0, 4, 0, -1, 0, 1, -1, 0, -1);
        t.run(9, 1);
        t.wholeTask(0, 8, 0, 4, 0, -1, 0, 1, -1, 0, -1);
    }

    @Sentence(in = "Interrupting", says = "a deadline has the level of its scope")
    static void targetOfDeadline(Trial t) {
        t.load("0:[1w9)+1;1:(({([2w9)))))+1;");
        t.start(0, 0);
        t.start(1, 1);
        t.run(9, 9);
        t.wholeTask(0, 0, 0, 2, 1, -1, 0, 2, 0, 0, -1);
        t.wholeTask(1, 1, 0, 6, 5, -1, 0, 0, -2, 0, 9);
        t.run(3, 3);
        t.wholeTask(0, 6, 0, 4, 0, -1, 0, 0, -2, 0, -1);
        t.run(1, 1);
        t.wholeTask(1, 0, 0, 6, 5, -1, 0, 2, 4, 0, -1);
        t.run(1, 1);
        t.wholeTask(1, 0, -1, 7, 4, -1, 0, 0, -2, 0, -1);
    }

    @Sentence(in = "Interrupting", says = "or -1 if there is none")
    static void targetOfFailure(Trial t) {
        t.load("0:{()(!1));1:!2;2:((!3));3:{(!4));4:{({(!5))));5:()!6;");
        int[] turns = {5, 1, 3, 3, 5, 3};
        int[] targets = {0, -1, -1, 0, 2, -1};
        for (int program = 0; program < 6; program++) {
            t.start(program, program);
            t.run(turns[program], turns[program]);
            t.task(program, 6, 3);
            t.task(program, 7, targets[program]);
            t.failure(program, 0, program + 1, program);
            t.finish();
            t.count(1, 0);
        }
        Trial ended = t.another().load("0:{)(!1);");
        ended.start(0, 0);
        ended.run(4, 4);
        ended.task(0, 7, -1);
    }

    @Sentence(in = "Interrupting", says = "the new one takes its place if its target is lower")
    static void cancellationInPlaceOfFailure(Trial t) {
        t.load("0:{!5)w9;");
        t.start(0, 0);
        t.run(2, 2);
        t.wholeTask(0, 0, 0, 2, 1, -1, 0, 3, 0);
        t.cancel(0, 0);
        t.wholeTask(0, 0, 0, 2, 1, -1, 0, 1, -1);
        t.noFailure(0, 0);
        t.runAll(2);
        t.wholeTask(0, 8, 0, 2);
    }

    @Sentence(in = "Interrupting", says = "the new one takes its place if its target is lower")
    static void failureInPlaceOfDeadline(Trial t) {
        t.load("0:(p1[1^2w9));1:w2!5;2:w4;");
        t.start(0, 0);
        t.run(9, 9);
        t.wholeTask(0, 1, 0, 5, 2, -1, 0, 2, 1, 1, 5);
        t.run(3, 3);
        t.wholeTask(0, 1, 0, 5, 2, -1, 0, 3, -1, 1, 5);
        t.failure(0, 0, 10, 0);
        t.failure(0, 1, 5, 1);
        t.count(9, 0);
        t.runAll(5);
        t.task(0, 0, 7);
    }

    @Sentence(in = "Interrupting", says = "the new one takes its place if its target is lower")
    static void deadlineInPlaceOfDeadline(Trial t) {
        t.load("0:[2[1^1w9)w9)+5;1:w3;");
        t.start(0, 0);
        t.run(7, 7);
        t.wholeTask(0, 1, 0, 4, 2, -1, 0, 2, 1, 1, 4);
        t.run(1, 1);
        t.count(5, 2);
        t.wholeTask(0, 1, 0, 4, 2, -1, 0, 2, 0, 1, 4);
        t.run(3, 3);
        t.wholeTask(0, 0, 0, 4, 1, -1, 0, 2, 0, 0, -1);
        t.run(1, 1);
        t.wholeTask(0, 0, -1, 7, 0, -1, 0, 0, -2);
        t.runAll(2);
        t.task(0, 1, 4);
    }

    @Sentence(in = "Interrupting", says = "otherwise the new one is dropped")
    static void equalTargetIsDropped(Trial t) {
        t.load("0:{p1p2w9);1:y!3;2:!4;3:(!5);");
        t.start(0, 0);
        t.run(8, 8);
        t.endings(1);
        t.wholeTask(0, 0, 0, 4, 1, -1, 0, 3, 0);
        t.run(1, 1);
        t.endings(1, 2);
        t.scope(0, 3, 0);
        t.failure(0, 0, 10, 0);
        t.failure(0, 1, 3, 1);
        t.count(9, 1);
        t.runAll(2);
        t.task(0, 1, 3);
        t.start(3, 3);
        t.run(2, 2);
        t.cancel(3, 0);
        t.wholeTask(3, 0, 0, 2, 1, -1, 0, 3, -1);
        t.failure(3, 0, 5, 3);
        t.runAll(2);
        t.task(3, 0, 7);
        Trial cancelled = t.another().load("0:(^1w9);1:!4;");
        cancelled.start(0, 0);
        cancelled.cancel(0, 0);
        cancelled.cancel(0, 0);
        cancelled.wholeTask(0, 0, 0, 0, 0, -1, 0, 1, -1);
        cancelled.queue(0);
    }

    @Sentence(in = "Interrupting", says = "otherwise the new one is dropped")
    static void higherTargetIsDropped(Trial t) {
        t.load("0:[1{p1(^2w9)))+3;1:w2!5;2:w5;");
        t.start(0, 0);
        t.run(10, 10);
        t.wholeTask(0, 1, 0, 6, 3, -1, 0, 2, 0, 1, 6);
        t.run(3, 3);
        t.task(1, 0, 7);
        t.wholeTask(0, 1, 0, 6, 3, -1, 0, 2, 0, 1, 6);
        t.noFailure(0, 0);
        t.count(9, 1);
        t.runAll(7);
        t.wholeTask(0, 6, 2, 10);
        Trial deadlines = t.another().load("0:[1[1w9));");
        deadlines.start(0, 0);
        deadlines.run(4, 4);
        deadlines.count(11, 2);
        deadlines.wholeTask(0, 0, 0, 3, 2, -1, 0, 2, 0);
    }

    @Sentence(in = "Interrupting",
        says = "A failure that is dropped or loses its place is suppressed, which is counted.")
    static void suppressedFailuresAreCounted(Trial t) {
        t.load("0:{p1p2p3w9);1:y!3;2:!4;3:;4:{!5);");
        t.start(0, 0);
        t.run(11, 11);
        t.endings(1, 2, 3);
        t.count(9, 1);
        t.start(4, 4);
        t.run(3, 3);
        t.wholeTask(4, 0, 0, 2, 1, -1, 0, 3, 0);
        t.cancel(4, 0);
        t.count(9, 2);
        t.cancel(4, 0);
        t.count(9, 2);
    }

    @Sentence(in = "Interrupting",
        says = "A failure that is dropped or loses its place is suppressed, which is counted.")
    static void otherReasonsAreNotCounted(Trial t) {
        t.load("0:[1[1w9));1:(!1);");
        t.start(0, 0);
        t.run(4, 4);
        t.task(0, 6, 2);
        t.cancel(0, 0);
        t.task(0, 6, 1);
        t.cancel(0, 0);
        t.start(1, 1);
        t.run(4, 4);
        t.task(1, 6, 3);
        t.cancel(1, 0);
        t.runAll(3);
        t.count(9, 0);
    }

    @Sentence(in = "Interrupting", says = "it becomes ready and waits for nothing any more")
    static void interruptedSleeper(Trial t) {
        t.load("0:w9;");
        t.start(0, 0);
        t.run(1, 1);
        t.wholeTask(0, 1, 0, 1, 0, -1, 0, 0, -2, 0, 9);
        t.cancel(0, 0);
        t.wholeTask(0, 0, 0, 1, 0, -1, 0, 1, -1, 0, -1);
        t.queue(0);
        t.runAll(1);
        t.count(5, 0);
        t.next(200);
    }

    @Sentence(in = "Interrupting", says = "it becomes ready and waits for nothing any more")
    static void interruptedSender(Trial t) {
        t.load("0:+5>1;1:<1;");
        t.start(0, 0);
        t.run(2, 2);
        t.channel(1, 2, 1);
        t.cancel(0, 0);
        t.channel(1, 2, 0);
        t.queue(0);
        t.start(1, 1);
        t.runAll(2);
        t.task(1, 0, 3);
        t.task(1, 1, 0);
        t.count(10, 0);
    }

    @Sentence(in = "Interrupting", says = "it becomes ready and waits for nothing any more")
    static void interruptedReceiver(Trial t) {
        t.load("0:<1;1:+5>1;");
        t.start(0, 0);
        t.run(1, 1);
        t.channel(1, 3, 1);
        t.cancel(0, 0);
        t.channel(1, 3, 0);
        t.queue(0);
        t.start(1, 1);
        t.runAll(3);
        t.task(1, 0, 2);
        t.task(0, 1, 0);
        t.count(10, 0);
    }

    @Sentence(in = "Interrupting", says = "it becomes ready and waits for nothing any more")
    static void interruptedChooser(Trial t) {
        t.load("0:?12;1:+5>1;2:+5>2;");
        t.start(0, 0);
        t.run(1, 1);
        t.channel(1, 3, 1);
        t.channel(2, 3, 1);
        t.cancel(0, 0);
        t.channel(1, 3, 0);
        t.channel(2, 3, 0);
        t.queue(0);
        t.start(1, 1);
        t.start(2, 2);
        t.runAll(5);
        t.task(1, 0, 2);
        t.task(2, 0, 2);
        t.wholeTask(0, 8, 0, 1, 0, -1, 0);
    }

    @Sentence(in = "Interrupting", says = "or joins in order to close a scope")
    static void interruptedJoiner(Trial t) {
        t.load("0:(p1);1:<0;");
        t.start(0, 0);
        t.run(4, 4);
        t.task(0, 0, 5);
        t.cancel(0, 0);
        t.queue(0);
        t.scope(0, 3, 0);
        t.run(1, 1);
        t.task(0, 0, 5);
        t.scope(0, 3, 1);
        t.cancel(0, 5);
        t.queue(1);
    }

    @Sentence(in = "Interrupting", says = "and does not execute a cleanup")
    static void sleeperInACleanup(Trial t) {
        t.load("0:(^1);1:w5+1;");
        t.start(0, 0);
        t.run(4, 4);
        t.cancel(0, 1);
        t.wholeTask(0, 1, 0, 2, 1, -1, 0, 1, -1, 1, 5);
        t.queue();
        t.next(100);
        t.run(2, 2);
        t.wholeTask(0, 0, 1, 2, 1, -1, 0, 1, -1, 1, -1);
        t.cancel(0, 0);
        t.queue(0);
    }

    @Sentence(in = "Interrupting", says = "it becomes ready")
    static void readyTaskIsNotReadyTwice(Trial t) {
        t.load("0:w1;1:y;");
        t.start(0, 0);
        t.start(1, 1);
        t.cancel(0, 0);
        t.queue(0, 1);
        t.runAll(3);
        t.endings(0, 1);
    }

    @Sentence(in = "Interrupting", says = "A task that has ended is not interrupted.")
    static void endedTasks(Trial t) {
        t.load("0:;1:!7;2:w9;");
        t.start(0, 0);
        t.start(1, 1);
        t.start(2, 2);
        t.run(3, 3);
        t.cancel(2, 0);
        t.runAll(2);
        t.endings(0, 1, 2);
        t.cancel(0, 6);
        t.cancel(1, 7);
        t.cancel(2, 8);
        t.wholeTask(0, 6, 0, 0, 0, -1, 0, 0, -2);
        t.wholeTask(1, 7, 0, 1, 0, -1, 0, 3, -1);
        t.failure(1, 0, 7, 1);
        t.wholeTask(2, 8, 0, 1, 0, -1, 0, 1, -1);
        t.queue();
        t.count(9, 0);
        t.next(200);
    }

    // Failures

    @Sentence(in = "Failures",
        says = "!d makes one with the code d, of the task that executes it, without a cause")
    static void failureWithoutACause(Trial t) {
        t.load("0:;1:(+3!9);");
        t.start(0, 0);
        t.start(1, 1);
        t.run(4, 4);
        t.failure(1, 0, 9, 1);
        t.noFailure(1, 1);
        t.noFailure(0, 0);
    }

    @Sentence(in = "Failures", says = "it comes from its innermost scope")
    static void failureFromTheInnermostScope(Trial t) {
        t.load("0:((({!1))));1:(({(!1))));2:{(((!1))));");
        int[] targets = {3, 2, 0};
        for (int task = 0; task < 3; task++) {
            t.start(task, task);
        }
        t.run(15, 15);
        for (int task = 0; task < 3; task++) {
            t.task(task, 7, targets[task]);
        }
    }

    @Sentence(in = "Failures", says = "If a task ends as failed, it has its reason as its failure.")
    static void failureOfTheEnded(Trial t) {
        t.load("0:(p1w9);1:(!4);");
        t.start(0, 0);
        t.runAll(9);
        t.wholeTask(1, 7, 0, 2, 0, 0, 0, 3, -1);
        t.failure(1, 0, 4, 1);
        t.noFailure(1, 1);
        t.wholeTask(0, 7, 0, 3, 0, -1, 0, 3, -1);
        t.failure(0, 0, 10, 0);
        t.failure(0, 1, 4, 1);
        t.noFailure(0, 2);
    }

    @Sentence(in = "Failures", says = "If it belongs to a scope that is open, a failure with the code 10, "
        + "of the owner of this scope, with the failure of the child as its cause, interrupts the owner")
    static void failureOfTheOwner(Trial t) {
        t.load("0:y;1:(y(p2<0));2:!9;");
        t.start(0, 0);
        t.start(2, 1);
        t.start(1, 2);
        t.run(6, 6);
        t.wholeTask(0, 6, 0, 1, 0, -1, 0, 0, -2);
        t.task(1, 0, 7);
        t.run(5, 5);
        t.wholeTask(2, 0, 0, 5, 2, -1, 0, 3, -1, 0, -1);
        t.failure(2, 0, 10, 2);
        t.failure(2, 1, 9, 3);
        t.noFailure(2, 2);
        t.channel(0, 3, 0);
    }

    @Sentence(in = "Failures", says = "so only guards at its level or lower levels are its target")
    static void guardsForAFailedChild(Trial t) {
        String[] programs = {"0:(p1{<0));", "0:{p1<0);", "0:{(p1<0));", "0:{{p1{<0)));", "0:({(p1(<0))));",
            "0:{({)p1{<0)));"};
        int[] turns = {4, 3, 4, 5, 6, 7};
        int[] targets = {-1, 0, 0, 1, 1, 0};
        for (int each = 0; each < programs.length; each++) {
            Trial own = t.another().load(programs[each] + "1:w1!4;");
            own.start(0, 0);
            own.run(turns[each] + 4, turns[each] + 4);
            own.task(1, 0, 7);
            own.task(0, 7, targets[each]);
            own.failure(0, 1, 4, 1);
        }
    }

    @Sentence(in = "Failures", says = "If the scope is closing, the failure of the child is suppressed.")
    static void failureInAClosingScope(Trial t) {
        t.load("0:{(p1p2<0));1:w1!4;2:w1y!5;");
        t.start(0, 0);
        t.run(13, 13);
        t.endings(1);
        t.scope(1, 3, 1);
        t.wholeTask(2, 0, 0, 3, 0, 1, 0, 3, -1);
        t.count(9, 0);
        t.run(1, 1);
        t.endings(1, 2);
        t.task(2, 0, 7);
        t.failure(2, 0, 5, 2);
        t.count(9, 1);
        t.failure(0, 0, 10, 0);
        t.failure(0, 1, 4, 1);
        t.runAll(3);
        t.wholeTask(0, 6, 4);
        t.count(9, 1);
    }

    @Sentence(in = "Failures", says = "If the scope is closing, the failure of the child is suppressed.")
    static void failureInAScopeThatADeadlineCloses(Trial t) {
        t.load("0:{[1(p1<0)))+1;1:w1!5;");
        t.start(0, 0);
        t.run(9, 9);
        t.scope(2, 3, 1);
        t.wholeTask(0, 5, 0, 5, 3, -1, 0, 2, 1);
        t.wholeTask(1, 0, 0, 2, 0, 2, 0, 3, -1);
        t.run(1, 1);
        t.task(1, 0, 7);
        t.wholeTask(0, 0, 0, 5, 3, -1, 0, 2, 1);
        t.count(9, 1);
        t.runAll(5);
        t.wholeTask(0, 6, 0, 9);
    }

    @Sentence(in = "Failures",
        says = "The first cause of a failure is the failure at which one arrives by going from cause to cause")
    static void firstCauseOfTheLongestWay(Trial t) {
        t.load("0:{p1)+1;1:(p1);");
        t.start(0, 0);
        t.run(100, 100);
        t.run(17, 17);
        t.task(0, 7, 0);
        for (int depth = 0; depth < 23; depth++) {
            t.failure(0, depth, 10, depth);
        }
        t.failure(0, 23, 11, 23);
        t.noFailure(0, 24);
        t.run(1, 1);
        t.wholeTask(0, 0, 11, 3);
        t.runAll(2);
        t.task(0, 1, 12);
        t.failure(1, 22, 11, 23);
        t.noFailure(1, 23);
    }

    @Sentence(in = "Failures",
        says = "The first cause of a failure is the failure at which one arrives by going from cause to cause")
    static void firstCauseOfTheShortestWay(Trial t) {
        t.load("0:{!7)+1;1:{(^2(^3!4)))+1;2:!5;3:!6;");
        t.start(0, 0);
        t.runAll(5);
        t.task(0, 1, 8);
        t.start(1, 1);
        t.runAll(15);
        t.task(1, 1, 5);
    }
}
