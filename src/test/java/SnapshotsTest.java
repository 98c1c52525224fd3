/** Promises 20 to 22: count, save and restore. */
public final class SnapshotsTest {
    private static final Checks CHECKS = new Checks();

    public static void main(String[] args) {
        counts();
        restoreBringsAllBack();
        restoreKeepsBufferAndError();
        saveReplaces();
        restoreAfterReset();
        restoreOverOtherTasks();
        CHECKS.finish();
    }

    private static Trial trial(String name) {
        return new Trial(CHECKS, name);
    }

    private static void counts() {
        Trial t = trial("count").load("#01;0:[1^1p2w2);1:w1;2:(!1);", "3:>0<0;");
        t.start(0, 0);
        t.start(3, 1);
        t.write("yy");
        t.run(6, 6);
        int[] early = {3, 2, 2, 1, 1, 0, 6, 0, 0, 0, 1, 0, 2};
        for (int what = 0; what <= 12; what++) {
            t.count(what, early[what]);
        }
        t.run(99, 11);
        int[] late = {3, 0, 0, 2, 0, 1, 17, 1, 1, 0, 1, 1, 2};
        for (int what = 0; what <= 12; what++) {
            t.count(what, late[what]);
        }
        for (int wrong : new int[] {-1, 13, Integer.MAX_VALUE, Integer.MIN_VALUE}) {
            t.dueThrow("count(" + wrong + ")", () -> t.x.count(wrong), Trial.ARGUMENT);
        }
    }

    /** A state in which nearly everything is under way. */
    private static Trial busy(String name) {
        Trial t = trial(name).load("#02;0:+1>0>0{p1p2[9(^5p3)));1:w3!7;2:>0<1+1;", "3:?12!4;4:<0>1<0;5:w1!5;");
        t.start(0, 0);
        t.start(4, 1);
        t.run(23, 23);
        return t;
    }

    private static void same(CoroutineScheduler restored, CoroutineScheduler other) {
        CHECKS.expect("picture", Busy.picture(restored), Busy.picture(other));
        CHECKS.expect("course", Busy.course(restored), Busy.course(other));
    }

    private static void restoreBringsAllBack() {
        for (int rounds = 0; rounds < 3; rounds++) {
            Trial t = busy("restore");
            t.due("save()", () -> t.x.save(), 5);
            for (int round = 0; round < rounds; round++) {
                t.load("0:;1:yyyyy;2:;3:;4:;5:!1;");
                t.due("start(1)", () -> t.x.start(1), 5);
                t.run(99, 17);
                t.x.reset();
                t.load("#00;#11;#22;#33;");
                t.due("restore()", () -> t.x.restore(), 5);
            }
            same(t.x, busy("not restored").x);
        }
    }

    private static void restoreKeepsBufferAndError() {
        Trial t = trial("buffer and error");
        t.dueThrow("restore()", () -> t.x.restore(), Trial.STATE);
        t.write("0:yq");
        t.dueThrow("execute()", () -> t.x.execute(), Trial.ARGUMENT);
        t.write("0:");
        t.due("save()", () -> t.x.save(), 0);
        t.write("y;");
        t.due("restore()", () -> t.x.restore(), 0);
        t.count(12, 4);
        t.due("errorPosition()", () -> t.x.errorPosition(), 3);
        t.due("execute()", () -> t.x.execute(), 1);
        t.due("program(0, -1)", () -> t.x.program(0, -1), 1);
        t.write("7");
        t.dueThrow("execute()", () -> t.x.execute(), Trial.ARGUMENT);
        t.due("errorPosition()", () -> t.x.errorPosition(), 0);
        t.due("restore()", () -> t.x.restore(), 0);
        t.due("errorPosition()", () -> t.x.errorPosition(), 0);
        t.due("program(0, -1)", () -> t.x.program(0, -1), 0);
        t.count(12, 0);
    }

    private static void saveReplaces() {
        Trial t = trial("second save").load("0:+1+1;");
        t.start(0, 0);
        t.due("save()", () -> t.x.save(), 1);
        t.run(1, 1);
        t.start(0, 1);
        t.due("save()", () -> t.x.save(), 2);
        t.run(9, 5);
        t.due("restore()", () -> t.x.restore(), 2);
        t.task(0, 1, 1);
        t.count(6, 1);
        t.queue(0, 1);
        t.run(9, 5);
        t.start(0, 2);
        t.due("restore()", () -> t.x.restore(), 2);
        t.endings();
        t.task(0, 1, 1);
        t.dueThrow("task(2, 0)", () -> t.x.task(2, 0), Trial.INDEX);
    }

    private static Trial cleaningUp(String name) {
        Trial t = trial(name).load("#01;#11;0:+2>0({^1[9^2p3?12)));1:w1-1!6;2:w2+3;",
            "3:+6(^1{^2!8));4:w1(!9);5:+7>1>1w1;");
        t.start(0, 0);
        t.start(4, 1);
        t.start(5, 2);
        t.start(5, 3);
        t.run(27, 27);
        return t;
    }

    /** Other tasks, scopes, cleanups, failures and numbers stand where those of the snapshot stood. */
    private static void restoreOverOtherTasks() {
        Trial t = cleaningUp("restore over other tasks");
        t.due("save()", () -> t.x.save(), 5);
        t.x.reset();
        t.load("#00;#12;0:-9{(^3[1^4^4(^5(p1w3)))));1:?23!1;2:!2;3:w9w9!3;", "4:+8;5:((((y))))!5;");
        for (int task = 0; task < 11; task++) {
            t.x.start(task % 6);
        }
        t.x.run(100);
        t.x.cancel(0);
        t.x.run(7);
        t.due("restore()", () -> t.x.restore(), 5);
        same(t.x, cleaningUp("not restored").x);
    }

    private static void restoreAfterReset() {
        Trial t = busy("restore after reset");
        String before = Busy.picture(t.x);
        t.due("save()", () -> t.x.save(), 5);
        t.due("reset()", () -> t.x.reset(), 3);
        t.count(0, 0);
        t.start(4, 0);
        t.run(9, 1);
        t.due("restore()", () -> t.x.restore(), 5);
        CHECKS.expect("picture", Busy.picture(t.x), before);
        t.due("reset()", () -> t.x.reset(), 3);
        t.due("save()", () -> t.x.save(), 0);
        t.start(4, 0);
        t.due("restore()", () -> t.x.restore(), 0);
        t.count(0, 0);
        t.queue();
    }
}
