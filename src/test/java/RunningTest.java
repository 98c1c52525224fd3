/** Promises 6 to 10: reset, start, cancel, run, next. */
public final class RunningTest {
    private static final Checks CHECKS = new Checks();

    public static void main(String[] args) {
        reset();
        resetLeavesNothing();
        start();
        startKeepsProgram();
        cancel();
        cancelInCleanup();
        run();
        next();
        turnsGoRound();
        skip();
        sleep();
        CHECKS.finish();
    }

    private static Trial trial(String name) {
        return new Trial(CHECKS, name);
    }

    private static void reset() {
        Trial t = trial("reset").load("0:+3>0(^1!1);1:[9w9);2:<1;#02;3:{^4!1)>0<0;4:!2;5:[1w9);");
        for (int program = 0; program < 6; program++) {
            t.start(program, program);
        }
        t.run(100, 34);
        t.write("0:");
        t.due("reset()", () -> t.x.reset(), 1);
        for (int what = 0; what < 12; what++) {
            t.count(what, 0);
        }
        t.count(12, 2);
        t.channel(0, 0, 2);
        for (int what = 1; what <= 3; what++) {
            t.channel(0, what, 0);
        }
        t.channel(1, 3, 0);
        t.dueThrow("content(0, 0)", () -> t.x.content(0, 0), Trial.ELEMENT);
        t.dueThrow("task(0, 0)", () -> t.x.task(0, 0), Trial.INDEX);
        t.dueThrow("scope(0, 0)", () -> t.x.scope(0, 0), Trial.INDEX);
        t.queue();
        t.endings();
        t.next(200);
        t.due("program(0, -1)", () -> t.x.program(0, -1), 6);
        t.start(4, 0);
        t.run(9, 2);
        t.failure(0, 0, 2, 0);
        t.noFailure(0, 1);
    }

    private static void resetLeavesNothing() {
        Trial t = trial("nothing is left after reset").load("0:[9^5(p1-1?01?01w1!3));1:+2>0>0;2:(p3)y;3:y;5:w5;");
        t.start(0, 0);
        t.run(17, 17);
        t.task(0, 8, 1);
        t.task(0, 5, 2);
        t.task(0, 3, 1);
        t.task(0, 7, -1);
        t.scope(0, 7, 2);
        t.due("reset()", () -> t.x.reset(), 1);
        t.start(2, 0);
        t.start(3, 1);
        t.start(3, 2);
        int[] task = {0, 0, 0, 0, -1, 0, 0, -2, 0, -1};
        for (int what = 0; what < task.length; what++) {
            t.task(0, what, task[what]);
            t.task(1, what, task[what]);
        }
        t.run(3, 3);
        int[] scope = {0, 0, 0, 0, 0, 0, -1, 0};
        for (int what = 0; what < scope.length; what++) {
            t.scope(0, what, scope[what]);
        }
        t.run(1, 1);
        t.scope(0, 4, 1);
        t.scope(0, 5, 1);
        t.run(99, 8);
        t.next(200);
    }

    private static void start() {
        Trial t = trial("start").load("0:+1;");
        for (int task = 0; task < 24; task++) {
            t.start(0, task);
        }
        t.dueThrow("start(0)", () -> t.x.start(0), Trial.STATE);
        t.dueThrow("start(6)", () -> t.x.start(6), Trial.INDEX);
        t.dueThrow("start(-1)", () -> t.x.start(-1), Trial.INDEX);
        t.count(0, 24);
        t.count(2, 24);
        t.run(100, 48);
        t.dueThrow("start(0) when all ended", () -> t.x.start(0), Trial.STATE);
        t.due("reset()", () -> t.x.reset(), 0);
        t.dueThrow("start(6)", () -> t.x.start(6), Trial.INDEX);
        t.start(5, 0);
        int[] fresh = {0, 0, 0, 0, -1, 0, 0, -2, 0, -1};
        for (int what = 0; what < fresh.length; what++) {
            t.task(0, what, fresh[what]);
        }
        t.queue(0);
        t.run(5, 1);
        t.task(0, 0, 6);
    }

    private static void startKeepsProgram() {
        Trial t = trial("programs that change later").load("0:(^1y);1:+1;2:(p1y);");
        t.start(0, 0);
        t.start(2, 1);
        t.run(4, 4);
        t.load("0:;1:+9+9;2:!1;");
        t.run(100, 11);
        t.task(0, 1, 1);
        t.task(2, 1, 1);
        t.endings(2, 1, 0);
    }

    private static void cancel() {
        Trial t = trial("cancel").load("0:y;1:w5;2:>0;3:<0;4:?12;5:(p1);");
        for (int program = 0; program < 6; program++) {
            t.start(program, program);
        }
        t.run(1, 1);
        t.cancel(0, 0);
        t.queue(1, 2, 3, 4, 5, 0);
        t.run(2, 2);
        t.task(1, 0, 1);
        t.task(1, 9, 5);
        t.cancel(1, 0);
        t.task(1, 9, -1);
        t.task(2, 0, 2);
        t.cancel(2, 0);
        t.channel(0, 2, 0);
        t.run(2, 2);
        t.task(3, 0, 3);
        t.task(4, 0, 4);
        t.cancel(4, 0);
        t.cancel(3, 0);
        t.channel(0, 3, 0);
        t.channel(1, 3, 0);
        t.channel(2, 3, 0);
        t.queue(5, 0, 1, 2, 4, 3);
        t.run(1, 1);
        t.run(5, 5);
        t.endings(0, 1, 2, 4, 3);
        t.cancel(0, 8);
        for (int task = 0; task < 5; task++) {
            t.task(task, 0, 8);
            t.task(task, 6, 1);
            t.task(task, 7, -1);
        }
        t.run(3, 3);
        t.task(5, 0, 5);
        t.cancel(5, 0);
        t.run(1, 1);
        t.task(5, 0, 5);
        t.scope(0, 3, 1);
        t.cancel(5, 5);
        t.queue(6);
        t.run(9, 3);
        t.task(5, 0, 8);
        t.task(5, 2, 2);
        t.dueThrow("cancel(-1)", () -> t.x.cancel(-1), Trial.INDEX);
        t.dueThrow("cancel(7)", () -> t.x.cancel(7), Trial.INDEX);
        Trial done = trial("cancel of the done");
        done.start(0, 0);
        done.run(1, 1);
        done.cancel(0, 6);
        done.task(0, 6, 0);
        done.queue();
    }

    private static void cancelInCleanup() {
        Trial t = trial("cancel in a cleanup").load("0:(^1)+9;1:+1w5+2;");
        t.start(0, 0);
        t.run(5, 5);
        t.task(0, 0, 1);
        t.task(0, 8, 1);
        t.cancel(0, 1);
        t.task(0, 6, 1);
        t.task(0, 9, 5);
        t.run(1, 1);
        t.run(1, 1);
        t.task(0, 1, 3);
        t.run(1, 1);
        t.task(0, 8, 0);
        t.run(1, 1);
        t.scope(0, 3, 2);
        t.run(9, 1);
        t.task(0, 0, 8);
        t.task(0, 1, 3);
        t.task(0, 2, 2);
    }

    private static void run() {
        Trial t = trial("run").load("0:yyyyyyyyyyyyyyyyyyyyyyyy;1:w1w1;");
        for (int task = 0; task < 5; task++) {
            t.start(0, task);
        }
        for (int wrong : new int[] {0, -1, 101, Integer.MAX_VALUE, Integer.MIN_VALUE}) {
            t.dueThrow("run(" + wrong + ")", () -> t.x.run(wrong), Trial.ARGUMENT);
        }
        t.count(6, 0);
        t.run(100, 100);
        t.run(24, 24);
        t.run(100, 1);
        t.run(1, 0);
        t.count(6, 125);
        t.count(7, 0);
        t.start(1, 5);
        t.run(100, 5);
        t.count(6, 130);
        t.count(7, 2);
        t.count(5, 2);
    }

    private static void next() {
        Trial t = trial("next").load("0:;1:w2;2:<0;3:[5<0);4:{(p2w1!1));");
        t.next(200);
        t.start(2, 0);
        t.next(0);
        t.start(1, 1);
        t.next(0);
        t.run(1, 1);
        t.next(1);
        t.run(1, 1);
        t.next(100);
        t.run(1, 1);
        t.next(1);
        t.run(1, 1);
        t.next(300);
        t.count(1, 1);
        t.run(7, 0);
        t.start(3, 2);
        t.run(2, 2);
        t.next(100);
        t.cancel(0, 0);
        t.next(0);
        t.run(1, 1);
        t.next(100);
        t.run(100, 3);
        t.next(200);
        t.count(5, 7);
    }

    private static void turnsGoRound() {
        Trial t = trial("turns").load("0:y+1;1:(p0)-1;");
        t.start(0, 0);
        t.start(1, 1);
        t.start(0, 2);
        t.queue(0, 1, 2);
        t.run(1, 1);
        t.queue(1, 2, 0);
        t.run(3, 3);
        t.queue(1, 2, 0);
        t.run(1, 1);
        t.queue(2, 0, 3, 1);
        t.run(3, 3);
        t.queue(1, 2, 3);
        t.endings(0);
        t.run(1, 1);
        t.task(1, 0, 5);
        t.task(1, 2, 2);
        t.queue(2, 3);
        t.run(3, 3);
        t.queue(1);
        t.endings(0, 2, 3);
        t.run(9, 3);
        t.task(1, 1, -1);
        t.endings(0, 2, 3, 1);
    }

    private static void skip() {
        Trial t = trial("z").load("0:z+1z+2-2zz+3;1:+1z+1;2:(^3);3:zw9+1z+2z-3;4:zy;");
        t.start(0, 0);
        t.run(1, 1);
        t.task(0, 2, 2);
        t.task(0, 1, 0);
        t.run(1, 1);
        t.task(0, 2, 4);
        t.run(9, 5);
        t.task(0, 0, 6);
        t.task(0, 1, 1);
        t.start(1, 1);
        t.run(9, 4);
        t.task(1, 1, 2);
        t.start(2, 2);
        t.run(99, 12);
        t.task(2, 1, 0);
        t.start(4, 3);
        t.run(9, 2);
        t.task(3, 2, 2);
    }

    private static void sleep() {
        Trial t = trial("w").load("0:w3+1;1:w1w2+2;2:[3(^3));3:w7;");
        t.start(0, 0);
        t.start(1, 1);
        t.run(2, 2);
        t.task(0, 9, 3);
        t.task(1, 9, 1);
        t.next(100);
        t.run(1, 1);
        t.count(5, 1);
        t.task(1, 9, -1);
        t.task(0, 0, 1);
        t.run(1, 1);
        t.task(1, 9, 3);
        t.run(1, 1);
        t.count(5, 3);
        t.queue(0, 1);
        t.run(9, 4);
        t.count(7, 2);
        t.start(2, 2);
        t.run(5, 5);
        t.task(2, 9, 10);
        t.run(1, 1);
        t.count(5, 6);
        t.count(11, 1);
        t.task(2, 0, 1);
        t.task(2, 6, 2);
        t.run(1, 1);
        t.count(5, 10);
        t.queue(2);
    }
}
