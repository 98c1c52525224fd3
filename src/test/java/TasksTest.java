/** Promises 11, 12 and 14 to 17: properties and wrong arguments, ready, ended, isAbove, scopeOf. */
public final class TasksTest {
    private static final Checks CHECKS = new Checks();

    public static void main(String[] args) {
        taskProperties();
        scopeProperties();
        readyAndEnded();
        isAbove();
        scopeOf();
        CHECKS.finish();
    }

    private static Trial trial(String name) {
        return new Trial(CHECKS, name);
    }

    private static void taskProperties() {
        Trial t = trial("task").load("0:+4({p1?01));1:-3>0w7;");
        t.start(0, 0);
        t.run(5, 5);
        int[] owner = {0, 4, 4, 2, -1, 0, 0, -2, 0, -1};
        int[] child = {0, -3, 1, 0, 1, 0, 0, -2, 0, -1};
        for (int what = 0; what < 10; what++) {
            t.task(0, what, owner[what]);
            t.task(1, what, child[what]);
        }
        t.run(2, 2);
        t.task(0, 0, 0);
        t.task(0, 5, 1);
        t.task(0, 1, -3);
        t.run(2, 2);
        t.task(0, 0, 5);
        t.task(1, 0, 1);
        t.task(1, 2, 3);
        t.task(1, 9, 7);
        for (int wrong : new int[] {-1, 2, 24, Integer.MAX_VALUE, Integer.MIN_VALUE}) {
            t.dueThrow("task(" + wrong + ", 0)", () -> t.x.task(wrong, 0), Trial.INDEX);
            t.dueThrow("task(" + wrong + ", 10)", () -> t.x.task(wrong, 10), Trial.INDEX);
        }
        for (int wrong : new int[] {-1, 10, Integer.MAX_VALUE, Integer.MIN_VALUE}) {
            t.dueThrow("task(1, " + wrong + ")", () -> t.x.task(1, wrong), Trial.ARGUMENT);
        }
    }

    private static void scopeProperties() {
        Trial t = trial("scope").load("0:w2({^1[4p1p1<0)));1:<0;");
        t.start(0, 0);
        t.run(10, 10);
        int[][] want = {{0, 0, 0, 0, 0, 0, -1, 0}, {0, 1, 2, 0, 0, 0, -1, 1}, {0, 2, 1, 0, 2, 2, 6, 0}};
        for (int scope = 0; scope < 3; scope++) {
            for (int what = 0; what < 8; what++) {
                t.scope(scope, what, want[scope][what]);
            }
        }
        t.count(3, 3);
        t.count(4, 3);
        t.cancel(1, 0);
        t.run(2, 2);
        t.scope(2, 4, 1);
        t.scope(2, 5, 2);
        for (int wrong : new int[] {-1, 3, 60, Integer.MAX_VALUE, Integer.MIN_VALUE}) {
            t.dueThrow("scope(" + wrong + ", 0)", () -> t.x.scope(wrong, 0), Trial.INDEX);
            t.dueThrow("scope(" + wrong + ", 8)", () -> t.x.scope(wrong, 8), Trial.INDEX);
        }
        for (int wrong : new int[] {-1, 8, Integer.MAX_VALUE, Integer.MIN_VALUE}) {
            t.dueThrow("scope(2, " + wrong + ")", () -> t.x.scope(2, wrong), Trial.ARGUMENT);
        }
    }

    private static void readyAndEnded() {
        Trial t = trial("ready and ended").load("0:yy;1:;2:w1;");
        t.start(0, 0);
        t.start(1, 1);
        t.start(2, 2);
        t.queue(0, 1, 2);
        t.endings();
        t.run(3, 3);
        t.queue(0);
        t.endings(1);
        t.run(9, 4);
        t.queue();
        t.endings(1, 0, 2);
        for (int wrong : new int[] {-1, 3, 24, Integer.MAX_VALUE, Integer.MIN_VALUE}) {
            t.dueThrow("ready(" + wrong + ")", () -> t.x.ready(wrong), Trial.ELEMENT);
            t.dueThrow("ended(" + wrong + ")", () -> t.x.ended(wrong), Trial.ELEMENT);
        }
        t.dueThrow("ready(0)", () -> t.x.ready(0), Trial.ELEMENT);
    }

    private static void isAbove() {
        Trial t = trial("isAbove").load("0:(p1p2);1:(p2);2:w5;");
        t.start(0, 0);
        t.start(2, 1);
        t.run(20, 18);
        t.count(0, 5);
        t.task(2, 4, 0);
        t.task(3, 4, 0);
        t.task(4, 4, 1);
        int[][] above = {{0, 2}, {0, 3}, {0, 4}, {2, 4}};
        for (int task = 0; task < 5; task++) {
            for (int other = 0; other < 5; other++) {
                int want = 0;
                for (int[] pair : above) {
                    want += pair[0] == task && pair[1] == other ? 1 : 0;
                }
                int upper = task;
                int lower = other;
                t.due("isAbove(" + upper + ", " + lower + ")", () -> t.x.isAbove(upper, lower) ? 1 : 0, want);
            }
        }
        int[][] wrong = {{-1, 0}, {0, -1}, {5, 0}, {0, 5}, {Integer.MAX_VALUE, Integer.MIN_VALUE}, {24, 24}};
        for (int[] pair : wrong) {
            t.dueThrow("isAbove(" + pair[0] + ", " + pair[1] + ")", () -> t.x.isAbove(pair[0], pair[1]) ? 1 : 0,
                Trial.INDEX);
        }
    }

    private static void scopeOf() {
        Trial t = trial("scopeOf").load("0:()(([9{(w1!1)))));1:w9;");
        t.start(0, 0);
        t.start(1, 1);
        t.dueThrow("scopeOf(0, 0)", () -> t.x.scopeOf(0, 0), Trial.INDEX);
        t.run(9, 9);
        for (int level = 0; level < 5; level++) {
            int here = level;
            t.due("scopeOf(0, " + here + ")", () -> t.x.scopeOf(0, here), here + 1);
        }
        for (int wrong : new int[] {-1, 5, 6, Integer.MAX_VALUE, Integer.MIN_VALUE}) {
            t.dueThrow("scopeOf(0, " + wrong + ")", () -> t.x.scopeOf(0, wrong), Trial.INDEX);
            t.dueThrow("scopeOf(" + wrong + ", 0)", () -> t.x.scopeOf(wrong, 0), Trial.INDEX);
        }
        t.dueThrow("scopeOf(1, 0)", () -> t.x.scopeOf(1, 0), Trial.INDEX);
        t.run(3, 3);
        t.dueThrow("scopeOf(0, 4)", () -> t.x.scopeOf(0, 4), Trial.INDEX);
        t.due("scopeOf(0, 3)", () -> t.x.scopeOf(0, 3), 4);
        Trial closing = trial("scopeOf of a closing scope").load("0:(^1!1);1:w9;");
        closing.start(0, 0);
        closing.run(5, 5);
        closing.scope(0, 3, 1);
        closing.due("scopeOf(0, 0)", () -> closing.x.scopeOf(0, 0), 0);
    }
}
