/** Promises 9, 18 and 19: sending, receiving and choosing, channel, content. */
public final class ChannelsTest {
    private static final Checks CHECKS = new Checks();

    public static void main(String[] args) {
        wrongArguments();
        withoutRoom();
        withRoom();
        sendersRefill();
        takersInTurn();
        choosing();
        choosingByTurns();
        choosingTwiceTheSame();
        interruptedSender();
        CHECKS.finish();
    }

    private static Trial trial(String name) {
        return new Trial(CHECKS, name);
    }

    private static void content(Trial t, int channel, int... want) {
        t.channel(channel, 1, want.length);
        for (int index = 0; index < want.length; index++) {
            int here = index;
            t.due("content(" + channel + ", " + here + ")", () -> t.x.content(channel, here), want[here]);
        }
        t.dueThrow("content at the end", () -> t.x.content(channel, want.length), Trial.ELEMENT);
        t.dueThrow("content(-1)", () -> t.x.content(channel, -1), Trial.ELEMENT);
    }

    private static void wrongArguments() {
        Trial t = trial("channel").load("#13;0:+5>1;");
        t.start(0, 0);
        t.run(9, 3);
        for (int wrong : new int[] {-1, 4, Integer.MAX_VALUE, Integer.MIN_VALUE}) {
            t.dueThrow("channel(" + wrong + ", 0)", () -> t.x.channel(wrong, 0), Trial.INDEX);
            t.dueThrow("channel(" + wrong + ", 4)", () -> t.x.channel(wrong, 4), Trial.INDEX);
            t.dueThrow("channel(1, " + wrong + ")", () -> t.x.channel(1, wrong), Trial.ARGUMENT);
            t.dueThrow("content(" + wrong + ", 0)", () -> t.x.content(wrong, 0), Trial.INDEX);
            t.dueThrow("content(" + wrong + ", -1)", () -> t.x.content(wrong, -1), Trial.INDEX);
            t.dueThrow("content(1, " + wrong + ")", () -> t.x.content(1, wrong), Trial.ELEMENT);
            t.dueThrow("count(" + wrong + ")", () -> t.x.count(wrong == 4 ? 13 : wrong), Trial.ARGUMENT);
        }
        content(t, 1, 5);
        content(t, 0);
    }

    private static void withoutRoom() {
        Trial t = trial("no room").load("0:+5>0+1;1:<0;2:+9<0;3:-4>0;");
        t.start(0, 0);
        t.start(3, 1);
        t.run(4, 4);
        t.task(0, 0, 2);
        t.task(0, 2, 2);
        t.channel(0, 2, 2);
        t.channel(0, 1, 0);
        t.next(300);
        t.count(10, 0);
        t.start(1, 2);
        t.run(1, 1);
        t.task(2, 1, 5);
        t.count(10, 1);
        t.queue(0, 2);
        t.channel(0, 2, 1);
        t.run(9, 3);
        t.task(0, 1, 6);
        t.start(2, 3);
        t.run(2, 2);
        t.task(3, 1, -4);
        t.count(10, 2);
        t.start(1, 4);
        t.run(9, 3);
        t.task(4, 0, 3);
        t.channel(0, 3, 1);
        t.channel(0, 2, 0);
        t.start(0, 5);
        t.run(9, 5);
        t.task(4, 1, 5);
        t.task(5, 1, 6);
        t.count(10, 3);
        t.next(200);
    }

    private static void withRoom() {
        Trial t = trial("room").load("#23;0:+1>2+1>2+1>2+1>2;1:<2;");
        t.start(0, 0);
        t.run(99, 8);
        t.task(0, 0, 2);
        content(t, 2, 1, 2, 3);
        t.channel(2, 0, 3);
        t.channel(2, 2, 1);
        t.count(10, 0);
        t.start(1, 1);
        t.run(1, 1);
        t.task(1, 1, 1);
        t.task(0, 0, 0);
        content(t, 2, 2, 3, 4);
        t.channel(2, 2, 0);
        t.count(10, 1);
        t.run(9, 2);
        t.start(1, 2);
        t.run(9, 2);
        content(t, 2, 3, 4);
        t.channel(2, 1, 2);
        t.count(10, 2);
    }

    private static void sendersRefill() {
        Trial t = trial("senders behind a full channel").load("#01;0:+1>0;1:+2>0;2:+3>0;3:<0<0<0;");
        t.start(2, 0);
        t.start(1, 1);
        t.start(0, 2);
        t.run(99, 7);
        content(t, 0, 3);
        t.channel(0, 2, 2);
        t.start(3, 3);
        t.run(1, 1);
        content(t, 0, 2);
        t.channel(0, 2, 1);
        t.queue(1, 3);
        t.run(2, 2);
        content(t, 0, 1);
        t.queue(2, 3);
        t.run(9, 3);
        content(t, 0);
        t.task(3, 1, 1);
        t.count(10, 3);
    }

    private static void takersInTurn() {
        Trial t = trial("takers").load("0:?12;1:<1;2:+7>1+1>1;3:w1<1;");
        t.start(3, 0);
        t.start(1, 1);
        t.start(0, 2);
        t.run(5, 5);
        t.channel(1, 3, 3);
        t.channel(2, 3, 1);
        t.start(2, 3);
        t.run(2, 2);
        t.task(1, 1, 7);
        t.task(2, 0, 4);
        t.run(3, 3);
        t.task(2, 1, 8);
        t.task(2, 5, 1);
        t.task(2, 0, 0);
        t.task(0, 0, 3);
        t.channel(1, 3, 1);
        t.channel(2, 3, 0);
        t.count(10, 2);
    }

    private static void choosing() {
        Trial t = trial("choosing").load("0:?01?01;1:+4>1;2:+5>0;");
        t.start(0, 0);
        t.run(1, 1);
        t.task(0, 0, 4);
        t.channel(0, 3, 1);
        t.channel(1, 3, 1);
        t.channel(0, 2, 0);
        t.start(1, 1);
        t.run(2, 2);
        t.task(0, 1, 4);
        t.task(0, 5, 1);
        t.channel(0, 3, 0);
        t.channel(1, 3, 0);
        t.run(2, 2);
        t.task(0, 0, 4);
        t.task(0, 5, 1);
        t.task(1, 0, 6);
        t.start(2, 2);
        t.run(9, 4);
        t.task(0, 1, 5);
        t.task(0, 5, 2);
        t.task(0, 0, 6);
        Trial later = trial("choosing the later one").load("#11;0:-6>1;1:?01?01y;2:+8>0;");
        later.start(0, 0);
        later.run(9, 3);
        later.start(1, 1);
        later.run(1, 1);
        later.task(1, 1, -6);
        later.task(1, 5, 1);
        later.start(2, 2);
        later.run(2, 2);
        later.task(1, 0, 4);
        later.task(2, 1, 8);
        later.run(1, 1);
        later.task(1, 1, 8);
        later.task(1, 5, 2);
        later.count(10, 2);
    }

    private static void choosingByTurns() {
        Trial t = trial("choosing by turns").load("#03;#13;0:+1>0+1>0;1:-1>1-1>1;", "2:?01?01?01?01?01;3:?10<1<0?10;");
        t.start(0, 0);
        t.start(1, 1);
        t.run(99, 10);
        t.start(2, 2);
        int[] want = {1, -1, 2, -2};
        for (int made = 0; made < 4; made++) {
            t.run(1, 1);
            t.task(2, 1, want[made]);
            t.task(2, 5, made + 1);
        }
        t.run(1, 1);
        t.task(2, 0, 4);
        t.task(2, 5, 4);
        t.cancel(2, 0);
        t.run(1, 1);
        t.task(2, 5, 4);
        t.start(0, 3);
        t.start(1, 4);
        t.run(99, 10);
        t.start(3, 5);
        t.run(1, 1);
        t.task(5, 1, -1);
        t.run(2, 2);
        t.task(5, 1, 1);
        t.task(5, 5, 1);
        t.run(1, 1);
        t.task(5, 1, 2);
        t.task(5, 5, 2);
    }

    private static void choosingTwiceTheSame() {
        Trial t = trial("choosing of one channel").load("0:?33;1:+2>3>3;2:<3;");
        t.start(0, 0);
        t.run(1, 1);
        t.channel(3, 3, 1);
        t.start(2, 1);
        t.run(1, 1);
        t.channel(3, 3, 2);
        t.start(1, 2);
        t.run(2, 2);
        t.task(0, 1, 2);
        t.task(0, 5, 1);
        t.channel(3, 3, 1);
        t.run(9, 4);
        t.task(1, 1, 2);
        t.task(1, 5, 0);
        t.count(10, 2);
    }

    private static void interruptedSender() {
        Trial t = trial("interrupted sender").load("0:{p1w1!2);1:(+3>0);2:<0;3:(?12);");
        t.start(0, 0);
        t.start(3, 1);
        t.run(8, 8);
        t.channel(0, 2, 1);
        t.run(3, 3);
        t.channel(0, 2, 0);
        t.task(2, 0, 0);
        t.task(2, 1, 3);
        t.task(0, 0, 5);
        t.start(2, 3);
        t.run(99, 5);
        t.task(3, 0, 3);
        t.task(2, 0, 8);
        t.task(0, 1, 2);
        t.count(10, 0);
        t.cancel(1, 0);
        t.channel(1, 3, 0);
        t.channel(2, 3, 0);
        Trial sender = trial("sender in a closing scope").load("0:[1p1p1<2)<0;1:+3>0;2:+4>0;");
        sender.start(0, 0);
        sender.run(8, 8);
        sender.channel(0, 2, 2);
        sender.run(2, 2);
        sender.channel(0, 2, 0);
        sender.channel(2, 3, 0);
        sender.run(9, 4);
        sender.task(0, 0, 3);
        sender.count(10, 0);
        sender.start(2, 3);
        sender.run(9, 4);
        sender.task(0, 1, 4);
    }
}
