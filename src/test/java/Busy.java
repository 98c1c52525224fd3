/** A scheduler in which nearly everything is under way, and what can be seen of a scheduler. */
final class Busy {
    // So that a scheduler that never comes to an end fails a test instead of keeping it busy.
    private static final int MOST_TURNS = 60;

    private Busy() {
    }

    /** A new scheduler with 5 tasks; the buffer, the error position and the snapshot are of their own. */
    static Trial scheduler(Trial name) {
        Trial t = name.another().load("#02;0:+1>0>0{p1p2[9(^5p3)));1:w3!7;2:>0<1+1;", "3:?12!4;4:<0>1<0;5:w1!5;");
        t.start(1, 0);
        t.save(1);
        t.reset(1);
        t.start(0, 0);
        t.start(4, 1);
        t.run(23, 23);
        t.write("6");
        t.dueThrow("execute()", () -> t.x.execute(), Trial.ARGUMENT);
        t.write("0:+2");
        return t;
    }

    /** All that a snapshot holds, as far as it can be asked for. */
    static String picture(CoroutineScheduler x) {
        StringBuilder text = new StringBuilder();
        for (int what = 0; what < 12; what++) {
            text.append(x.count(what)).append(' ');
        }
        for (int task = 0; task < x.count(0); task++) {
            addTask(text, x, task);
        }
        for (int scope = 0; scope < x.count(3); scope++) {
            for (int what = 0; what < 8; what++) {
                text.append(x.scope(scope, what)).append(' ');
            }
        }
        addTasksInOrder(text, x);
        addChannels(text, x);
        for (int program = 0; program < 6; program++) {
            int size = x.program(program, -1);
            text.append(size).append(' ');
            for (int place = 0; place < size; place++) {
                text.append(x.program(program, place)).append(' ');
            }
        }
        return text.append(x.next()).toString();
    }

    private static void addTask(StringBuilder text, CoroutineScheduler x, int task) {
        for (int what = 0; what < 10; what++) {
            text.append(x.task(task, what)).append(' ');
        }
        for (int depth = 0; depth < 3; depth++) {
            int here = depth;
            text.append(Checks.answerOf(() -> x.failure(task, here, 0))).append(' ');
            text.append(Checks.answerOf(() -> x.failure(task, here, 1))).append(' ');
        }
        for (int level = 0; level < x.task(task, 3); level++) {
            text.append(x.scopeOf(task, level)).append(' ');
        }
    }

    private static void addTasksInOrder(StringBuilder text, CoroutineScheduler x) {
        int ready = x.count(2);
        for (int index = 0; index < ready; index++) {
            text.append(x.ready(index)).append(' ');
        }
        int ended = x.count(0) - x.count(1);
        for (int index = 0; index < ended; index++) {
            text.append(x.ended(index)).append(' ');
        }
    }

    private static void addChannels(StringBuilder text, CoroutineScheduler x) {
        for (int channel = 0; channel < 4; channel++) {
            for (int what = 0; what < 4; what++) {
                text.append(x.channel(channel, what)).append(' ');
            }
            for (int index = 0; index < x.channel(channel, 1); index++) {
                text.append(x.content(channel, index)).append(' ');
            }
        }
    }

    /** What cannot be asked for at once: the course of the tasks, then their failures. */
    static String course(CoroutineScheduler x) {
        StringBuilder text = new StringBuilder();
        for (int turn = 0; turn < MOST_TURNS && x.run(1) == 1; turn++) {
            text.append(x.next()).append(' ').append(x.count(9)).append(' ').append(x.count(10)).append(' ');
        }
        for (int task = 0; task < x.count(0); task++) {
            text.append(x.task(task, 0)).append(' ').append(x.task(task, 1)).append(' ');
            int here = task;
            for (int depth = 0; depth < 2; depth++) {
                int deep = depth;
                text.append(Checks.answerOf(() -> x.failure(here, deep, 0))).append(' ');
                text.append(Checks.answerOf(() -> x.failure(here, deep, 1))).append(' ');
            }
            text.append(Checks.answerOf(() -> x.ended(here))).append(' ');
        }
        return text.toString();
    }

    /** The text in the buffer, which becomes a program by one more ;, and the snapshot. */
    static String rest(CoroutineScheduler x) {
        StringBuilder text = new StringBuilder();
        text.append(x.count(12)).append(' ');
        text.append(x.append(';' << 24)).append(' ').append(Checks.answerOf(() -> x.execute())).append(' ');
        text.append(x.program(0, -1)).append(' ');
        return text.append(Checks.answerOf(() -> x.restore())).append(' ').append(x.count(2)).toString();
    }
}
