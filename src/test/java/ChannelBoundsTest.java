/** Boundary cases that the section Channels names. */
public final class ChannelBoundsTest {
    public static void main(String[] args) {
        Sentences.test(ChannelBoundsTest.class);
    }

    @Sentence(in = "Channels", says = "A channel has room for 0 to 3 numbers, at first 0")
    static void noRoomAtFirst(Trial t) {
        t.load("0:>0;1:>1;2:>2;3:>3;");
        for (int channel = 0; channel < 4; channel++) {
            t.channel(channel, 0, 0);
            t.start(channel, channel);
        }
        t.runAll(4);
        for (int channel = 0; channel < 4; channel++) {
            t.task(channel, 0, 2);
            t.content(channel);
            t.channel(channel, 2, 1);
        }
    }

    @Sentence(in = "Channels", says = "A channel has room for 0 to 3 numbers")
    static void roomForSoManyNumbers(Trial t) {
        for (int room = 0; room <= 3; room++) {
            Trial own = t.another().load("#3" + room + ";0:+1>3+1>3+1>3+1>3;");
            own.start(0, 0);
            own.runAll(2 * room + 2);
            own.task(0, 0, 2);
            own.task(0, 1, room + 1);
            own.channel(3, 1, room);
            own.channel(3, 2, 1);
        }
        Trial filled = t.another().load("#33;0:+1>3+1>3+1>3;");
        filled.start(0, 0);
        filled.runAll(7);
        filled.task(0, 0, 6);
        filled.content(3, 1, 2, 3);
        filled.channel(3, 2, 0);
    }

    @Sentence(in = "Channels", says = "which are first in, first out")
    static void firstInFirstOut(Trial t) {
        t.load("#13;0:+1>1+1>1+1>1;1:<1<1<1>1;2:+9>1;");
        t.start(0, 0);
        t.runAll(7);
        t.content(1, 1, 2, 3);
        t.start(1, 1);
        t.run(1, 1);
        t.task(1, 1, 1);
        t.content(1, 2, 3);
        t.start(2, 2);
        t.run(1, 1);
        t.task(1, 1, 2);
        t.content(1, 3);
        t.run(3, 3);
        t.task(1, 1, 3);
        t.content(1, 9);
        t.runAll(3);
        t.content(1, 9, 3);
    }

    @Sentence(in = "Channels", says = "if a task waits for the channel by receiving or choosing, "
        + "the one that has waited longest gets the number into its register and becomes ready")
    static void sentToTheLongestWaiting(Trial t) {
        t.load("#03;0:?10;1:<0;2:+1>0+1>0+1>0+1>0;", "3:w1<0;4:?01;");
        t.start(3, 0);
        t.start(1, 1);
        t.start(0, 2);
        t.start(4, 3);
        t.run(6, 6);
        t.queue();
        t.channel(0, 3, 4);
        t.start(2, 4);
        int[] order = {1, 2, 3, 0};
        for (int each = 0; each < 4; each++) {
            t.run(1, 1);
            t.task(order[each], 0, 3 + (order[each] / 2 == 1 ? 1 : 0));
            t.run(1, 1);
            t.task(order[each], 0, 0);
            t.task(order[each], 1, each + 1);
            t.queue(order[each], 4);
            t.run(1, 1);
            t.task(order[each], 0, 6);
        }
        t.content(0);
        t.count(10, 4);
    }

    @Sentence(in = "Channels", says = "otherwise, if there is room, the number is put into the channel")
    static void sentIntoTheRoom(Trial t) {
        t.load("#21;0:-5>2y;1:<2;");
        t.start(0, 0);
        t.run(2, 2);
        t.task(0, 0, 0);
        t.content(2, -5);
        t.count(10, 0);
        t.runAll(2);
        t.reset(0);
        t.start(1, 0);
        t.start(0, 1);
        t.run(3, 3);
        t.content(2);
        t.wholeTask(0, 0, -5);
        t.count(10, 1);
    }

    @Sentence(in = "Channels", says = "otherwise the task is sending, and waits behind other senders")
    static void sendersInTheirOrder(Trial t) {
        t.load("0:w1+1>0;1:+2>0;2:+3>0;3:<0<0<0;");
        t.start(0, 0);
        t.start(2, 1);
        t.start(1, 2);
        t.run(8, 8);
        t.channel(0, 2, 3);
        t.start(3, 3);
        int[] numbers = {3, 2, 1};
        int[] senders = {1, 2, 0};
        for (int each = 0; each < 3; each++) {
            t.run(1, 1);
            t.task(3, 1, numbers[each]);
            t.task(senders[each], 0, 0);
            t.queue(senders[each], 3);
            t.channel(0, 2, 2 - each);
            t.run(1, 1);
        }
        t.count(10, 3);
    }

    @Sentence(in = "Channels", says = "if there is a number in the channel, the first one is taken, and then, "
        + "if there are senders, the number of the first one is put into the channel, and it becomes ready")
    static void receivedFromTheRoom(Trial t) {
        t.load("#02;0:+1>0+1>0+1>0+1>0;1:+9>0;2:<0<0<0<0<0;");
        t.start(0, 0);
        t.run(6, 6);
        t.start(1, 1);
        t.run(2, 2);
        t.content(0, 1, 2);
        t.channel(0, 2, 2);
        t.start(2, 2);
        t.run(1, 1);
        t.task(2, 1, 1);
        t.content(0, 2, 3);
        t.channel(0, 2, 1);
        t.queue(0, 2);
        t.run(2, 2);
        t.task(2, 1, 2);
        t.content(0, 3, 9);
        t.channel(0, 2, 0);
        t.queue(0, 1, 2);
        t.run(3, 3);
        t.task(2, 1, 3);
        t.content(0, 9, 4);
        t.queue(0, 2);
        t.count(10, 3);
        t.runAll(4);
        t.content(0);
        t.wholeTask(2, 6, 4);
        t.count(10, 5);
    }

    @Sentence(in = "Channels",
        says = "otherwise, if there is a sender, the number of the first one is taken, and it becomes ready")
    static void receivedFromASender(Trial t) {
        t.load("0:+4>3;1:+6>3;2:<3;");
        t.start(1, 0);
        t.start(0, 1);
        t.run(4, 4);
        t.start(2, 2);
        t.run(1, 1);
        t.task(2, 1, 6);
        t.task(0, 0, 0);
        t.task(1, 0, 2);
        t.queue(0, 2);
        t.content(3);
        t.count(10, 1);
    }

    @Sentence(in = "Channels", says = "otherwise the task is receiving, and waits behind others")
    static void receiversInTheirOrder(Trial t) {
        t.load("0:w1<0;1:<0;2:?30;3:+5>0+1>0+1>0;");
        t.start(0, 0);
        t.start(2, 1);
        t.start(1, 2);
        t.run(5, 5);
        t.queue();
        t.task(0, 0, 3);
        t.task(1, 0, 4);
        t.task(2, 0, 3);
        t.channel(0, 3, 3);
        t.count(10, 0);
        t.start(3, 3);
        t.runAll(10);
        t.task(1, 1, 5);
        t.task(2, 1, 6);
        t.task(0, 1, 7);
        t.endings(1, 2, 0, 3);
    }

    @Sentence(in = "Channels", says = "if the number of choices that the task has completed is even, "
        + "the first channel is tried before the second one, otherwise the second one before the first one")
    static void choicesByFairTurns(Trial t) {
        t.load("#03;#13;0:+1>0+1>0+1>0;1:-1>1-1>1-1>1;", "2:?01?01?10?10<0?01;");
        t.start(0, 0);
        t.start(1, 1);
        t.runAll(14);
        t.start(2, 2);
        int[] numbers = {1, -1, -2, 2, 3};
        int[] choices = {1, 2, 3, 4, 4};
        for (int turn = 0; turn < numbers.length; turn++) {
            t.run(1, 1);
            t.task(2, 1, numbers[turn]);
            t.task(2, 5, choices[turn]);
        }
        t.content(0);
        t.content(1, -3);
        t.run(1, 1);
        t.task(2, 1, -3);
        t.task(2, 5, 5);
    }

    @Sentence(in = "Channels", says = "the first one from which receiving would not wait is received from")
    static void choiceOfTheOneThatDoesNotWait(Trial t) {
        t.load("#11;0:+1>1;1:+2>0+2>0;2:?01?01?10;");
        t.start(0, 0);
        t.runAll(3);
        t.start(2, 1);
        t.run(1, 1);
        t.task(1, 1, 1);
        t.task(1, 5, 1);
        t.start(1, 2);
        t.run(1, 1);
        t.task(1, 0, 4);
        t.run(2, 2);
        t.task(1, 1, 2);
        t.task(1, 5, 2);
        t.run(1, 1);
        t.run(1, 1);
        t.queue(2);
        t.task(1, 0, 4);
        t.run(1, 1);
        t.wholeTask(1, 0, 4);
        t.task(1, 5, 3);
        Trial sender = t.another().load("0:+7>2;1:?32;");
        sender.start(0, 0);
        sender.run(2, 2);
        sender.start(1, 1);
        sender.run(1, 1);
        sender.wholeTask(1, 0, 7, 1, 0, -1, 1);
        sender.task(0, 0, 0);
    }

    @Sentence(in = "Channels", says = "if there is none, the task is choosing, and waits for both")
    static void choosingWaitsForBoth(Trial t) {
        t.load("0:?12;1:+5>1;2:+6>2;3:?22;");
        for (int program = 1; program <= 2; program++) {
            Trial own = t.another().load("0:?12;1:+5>1;2:+6>2;");
            own.start(0, 0);
            own.run(1, 1);
            own.wholeTask(0, 4, 0, 1, 0, -1, 0);
            own.channel(1, 3, 1);
            own.channel(2, 3, 1);
            own.start(program, 1);
            own.run(2, 2);
            own.wholeTask(0, 0, 4 + program, 1, 0, -1, 1);
            own.channel(1, 3, 0);
            own.channel(2, 3, 0);
        }
        t.start(3, 0);
        t.run(1, 1);
        t.channel(2, 3, 1);
        t.start(2, 1);
        t.run(2, 2);
        t.wholeTask(0, 0, 6, 1, 0, -1, 1);
        t.channel(2, 3, 0);
    }

    @Sentence(in = "Channels", says = "A choice is completed when the number has come.")
    static void choiceIsCompleted(Trial t) {
        t.load("0:?00?00;1:+1>0;2:<0;");
        t.start(0, 0);
        t.start(2, 1);
        t.run(2, 2);
        t.task(0, 5, 0);
        t.start(1, 2);
        t.run(2, 2);
        t.task(0, 5, 1);
        t.run(2, 2);
        t.task(0, 0, 4);
        t.task(0, 5, 1);
        t.start(1, 3);
        t.runAll(4);
        t.task(1, 1, 1);
        t.task(1, 5, 0);
        t.cancel(0, 0);
        t.runAll(1);
        t.wholeTask(0, 8, 1, 2, 0, -1, 1);
    }
}
