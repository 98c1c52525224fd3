import java.io.ByteArrayInputStream;
import java.io.ByteArrayOutputStream;
import java.io.IOException;
import java.io.ObjectInputStream;
import java.io.ObjectOutputStream;
import java.io.Serializable;
import java.util.ArrayList;
import java.util.LinkedList;
import java.util.List;
import java.util.NoSuchElementException;
import java.util.regex.Matcher;
import java.util.regex.Pattern;

/**
 * A second scheduler, written from the document with objects and lists of the Java library
 * and sharing nothing with the first, so that both can be compared call by call.
 */
final class Oracle {
    enum Status { READY, SLEEPING, SENDING, RECEIVING, CHOOSING, JOINING, DONE, FAILED, CANCELLED }

    enum Kind { NONE, CANCELLATION, DEADLINE, FAILURE }

    static final class Failure implements Serializable {
        private static final long serialVersionUID = 1;
        int code;
        Task task;
        Failure cause;

        Failure(int code, Task task, Failure cause) {
            this.code = code;
            this.task = task;
            this.cause = cause;
        }

        Failure first() {
            return cause == null ? this : cause.first();
        }
    }

    static final class Reason implements Serializable {
        private static final long serialVersionUID = 1;
        Kind kind;
        int target;
        Failure failure;

        Reason(Kind kind, int target, Failure failure) {
            this.kind = kind;
            this.target = target;
            this.failure = failure;
        }
    }

    static final class Task implements Serializable {
        private static final long serialVersionUID = 1;
        int number;
        ArrayList<String> program;
        int place;
        int register;
        ArrayList<Scope> open = new ArrayList<>();
        Scope home;
        Status status = Status.READY;
        Reason reason;
        boolean closes;
        boolean inCleanup;
        int cleanupPlace;
        int wakes = -1;
        int choices;

        boolean live() {
            return status.compareTo(Status.DONE) < 0;
        }

        Scope inner() {
            return open.get(open.size() - 1);
        }
    }

    static final class Scope implements Serializable {
        private static final long serialVersionUID = 1;
        int number;
        Task owner;
        int level;
        char kind;
        int state;
        int deadline = -1;
        boolean passed;
        int behind;
        ArrayList<Task> children = new ArrayList<>();
        ArrayList<String> cleanup;
        boolean begun;

        List<Task> live() {
            List<Task> found = new ArrayList<>();
            for (Task child : children) {
                if (child.live()) {
                    found.add(child);
                }
            }
            return found;
        }
    }

    static final class Channel implements Serializable {
        private static final long serialVersionUID = 1;
        int room;
        LinkedList<Integer> numbers = new LinkedList<>();
        LinkedList<Task> senders = new LinkedList<>();
        LinkedList<Task> takers = new LinkedList<>();
    }

    static final class State implements Serializable {
        private static final long serialVersionUID = 1;
        ArrayList<ArrayList<String>> programs = new ArrayList<>();
        ArrayList<Task> tasks = new ArrayList<>();
        ArrayList<Scope> scopes = new ArrayList<>();
        ArrayList<Channel> channels = new ArrayList<>();
        LinkedList<Task> queue = new LinkedList<>();
        ArrayList<Task> ended = new ArrayList<>();
        int time;
        int turns;
        int timeTurns;
        int cleanups;
        int suppressed;
        int numbers;
        int deadlines;
    }

    private static final String INSTRUCTION =
            "[-+w!\\[][1-9]|[yz({)x]|[\\^p][0-5]|[<>][0-3]|\\?[0-3][0-3]";

    private State s = new State();
    private byte[] saved;
    private String buffer = "";
    private int error = -1;

    Oracle() {
        for (int i = 0; i < 6; i++) {
            s.programs.add(new ArrayList<>());
        }
        for (int i = 0; i < 4; i++) {
            s.channels.add(new Channel());
        }
    }

    int append(int packed) {
        String more = "";
        for (int i = 3; i >= 0; i--) {
            int c = (packed >> 8 * i) & 0xff;
            if (c == 0) {
                continue;
            }
            if (c < 33 || c > 126) {
                throw new IllegalArgumentException();
            }
            more += (char) c;
        }
        if ((buffer + more).length() > 60) {
            throw new IllegalStateException();
        }
        buffer += more;
        return buffer.length();
    }

    /** True if some text that is right begins like this: the first error is behind the longest such one. */
    static boolean begins(String start) {
        return wholeCommands(start, true) >= 0;
    }

    /** The number of commands, or -1 if the text is wrong; where it may go on, a beginning is right too. */
    private static int wholeCommands(String text, boolean mayGoOn) {
        int commands = 0;
        String rest = text;
        while (!rest.isEmpty()) {
            int end = rest.indexOf(';');
            String command = end < 0 ? rest : rest.substring(0, end);
            if (end < 0 ? !mayGoOn || !startsCommand(command) : !isCommand(command)) {
                return -1;
            }
            commands++;
            rest = end < 0 ? "" : rest.substring(end + 1);
        }
        return commands == 0 && !mayGoOn ? -1 : commands;
    }

    private static boolean isCommand(String command) {
        if (command.startsWith("#")) {
            return command.matches("#[0-3][0-3]");
        }
        if (!command.matches("[0-5]:(" + INSTRUCTION + ")*")) {
            return false;
        }
        List<String> list = instructions(command.substring(2));
        return suits(list) && depthOf(list) == 0 && !endsWithZ(list);
    }

    private static boolean startsCommand(String start) {
        if (start.startsWith("#")) {
            return start.matches("#[0-3]?|#[0-3][0-3]");
        }
        if (start.length() < 2) {
            return start.matches("[0-5]?");
        }
        // What is cut off within an instruction must be completed by some digits.
        for (String completion : new String[] {"", "1", "11"}) {
            String whole = start + completion;
            if (whole.matches("[0-5]:(" + INSTRUCTION + ")*")
                    && whole.length() - start.length() == completion.length()
                    && suits(instructions(whole.substring(2)))) {
                return true;
            }
        }
        return false;
    }

    private static List<String> instructions(String text) {
        List<String> list = new ArrayList<>();
        Matcher matcher = Pattern.compile(INSTRUCTION).matcher(text);
        while (matcher.find()) {
            list.add(matcher.group());
        }
        return list;
    }

    private static boolean suits(List<String> list) {
        if (list.size() > 24) {
            return false;
        }
        for (int i = 0; i < list.size(); i++) {
            int open = depthOf(list.subList(0, i));
            char sign = list.get(i).charAt(0);
            if ("([{".indexOf(sign) >= 0 && open == 5 || ")^px".indexOf(sign) >= 0 && open == 0) {
                return false;
            }
            if (i > 0 && list.get(i - 1).equals("z") && "([{)^".indexOf(sign) >= 0) {
                return false;
            }
        }
        return true;
    }

    private static int depthOf(List<String> list) {
        int depth = 0;
        for (String each : list) {
            depth += "([{".indexOf(each.charAt(0)) >= 0 ? 1 : each.equals(")") ? -1 : 0;
        }
        return depth;
    }

    private static boolean endsWithZ(List<String> list) {
        return !list.isEmpty() && list.get(list.size() - 1).equals("z");
    }

    int execute() {
        String text = buffer;
        buffer = "";
        int commands = wholeCommands(text, false);
        error = -1;
        if (commands < 0) {
            error = text.length();
            while (!begins(text.substring(0, error))) {
                error--;
            }
            throw new IllegalArgumentException();
        }
        for (String command : text.split(";")) {
            if (command.startsWith("#")) {
                boolean small = s.channels.get(command.charAt(1) - '0').numbers.size() > command.charAt(2) - '0';
                if (small || live() > 0) {
                    throw new IllegalStateException();
                }
            }
        }
        for (String command : text.split(";")) {
            if (command.startsWith("#")) {
                s.channels.get(command.charAt(1) - '0').room = command.charAt(2) - '0';
            } else {
                s.programs.set(command.charAt(0) - '0', new ArrayList<>(instructions(command.substring(2))));
            }
        }
        return commands;
    }

    int errorPosition() {
        return error;
    }

    int program(int program, int place) {
        List<String> list = s.programs.get(at(program, 6));
        if (place == -1) {
            return list.size();
        }
        String one = list.get(at(place, list.size()));
        return 100 * one.charAt(0) + (one.length() > 1 ? Integer.parseInt(one.substring(1)) : 0);
    }

    private static int at(int index, int size) {
        if (index < 0 || index >= size) {
            throw new IndexOutOfBoundsException();
        }
        return index;
    }

    int reset() {
        int live = live();
        State fresh = new State();
        fresh.programs = s.programs;
        for (Channel old : s.channels) {
            Channel channel = new Channel();
            channel.room = old.room;
            fresh.channels.add(channel);
        }
        s = fresh;
        return live;
    }

    private int live() {
        int live = 0;
        for (Task task : s.tasks) {
            live += task.live() ? 1 : 0;
        }
        return live;
    }

    private Task begin(int program, Scope home) {
        Task task = new Task();
        task.number = s.tasks.size();
        task.program = new ArrayList<>(s.programs.get(program));
        task.home = home;
        s.tasks.add(task);
        s.queue.add(task);
        if (home != null) {
            home.children.add(task);
        }
        return task;
    }

    int start(int program) {
        at(program, 6);
        if (s.tasks.size() == 24) {
            throw new IllegalStateException();
        }
        return begin(program, null).number;
    }

    int cancel(int number) {
        Task task = s.tasks.get(at(number, s.tasks.size()));
        interrupt(task, new Reason(Kind.CANCELLATION, -1, null));
        return task.status.ordinal();
    }

    private void interrupt(Task task, Reason reason) {
        if (!task.live()) {
            return;
        }
        Reason lost = null;
        if (task.reason == null) {
            task.reason = reason;
        } else if (reason.target < task.reason.target) {
            lost = task.reason;
            task.reason = reason;
        } else {
            lost = reason;
        }
        if (lost != null && lost.kind == Kind.FAILURE) {
            s.suppressed++;
        }
        boolean waits = task.status != Status.READY && (task.status != Status.JOINING || task.closes);
        if (waits && !task.inCleanup) {
            wake(task);
        }
    }

    private void wake(Task task) {
        task.status = Status.READY;
        task.wakes = -1;
        for (Channel channel : s.channels) {
            channel.senders.remove(task);
            while (channel.takers.remove(task)) {
                continue;
            }
        }
        s.queue.add(task);
    }

    private void fail(Task task, int code, Failure cause, int fromLevel) {
        int target = -1;
        for (Scope scope : task.open) {
            if (scope.kind == '{' && scope.level <= fromLevel) {
                target = scope.level;
            }
        }
        interrupt(task, new Reason(Kind.FAILURE, target, new Failure(code, task, cause)));
    }

    private void failHere(Task task, int code) {
        fail(task, code, null, task.open.size() - 1);
    }

    int run(int turns) {
        if (turns < 1 || turns > 100) {
            throw new IllegalArgumentException();
        }
        int made = 0;
        for (; made < turns && next() <= 100; made++) {
            s.turns++;
            if (next() == 100) {
                pass();
            } else {
                Task task = s.queue.removeFirst();
                turn(task);
                if (task.status == Status.READY && !s.queue.contains(task)) {
                    s.queue.add(task);
                }
            }
        }
        return made;
    }

    int next() {
        if (!s.queue.isEmpty()) {
            return s.queue.getFirst().number;
        }
        if (nextTime() < Integer.MAX_VALUE) {
            return 100;
        }
        return live() == 0 ? 200 : 300;
    }

    private int nextTime() {
        int least = Integer.MAX_VALUE;
        for (Task task : s.tasks) {
            if (task.status == Status.SLEEPING) {
                least = Math.min(least, task.wakes);
            }
            for (Scope scope : task.open) {
                if (scope.kind == '[' && !scope.passed) {
                    least = Math.min(least, scope.deadline);
                }
            }
        }
        return least;
    }

    private void pass() {
        s.time = nextTime();
        s.timeTurns++;
        for (Task task : s.tasks) {
            if (task.status == Status.SLEEPING && task.wakes == s.time) {
                wake(task);
            }
        }
        for (Scope scope : s.scopes) {
            if (scope.kind == '[' && scope.state < 2 && scope.deadline == s.time) {
                scope.passed = true;
                s.deadlines++;
                if (scope.state == 0) {
                    interrupt(scope.owner, new Reason(Kind.DEADLINE, scope.level, null));
                }
            }
        }
    }

    private void turn(Task task) {
        if (task.inCleanup) {
            cleanupTurn(task);
        } else if (task.reason != null && !task.open.isEmpty()) {
            reasonTurn(task);
        } else if (task.reason != null) {
            end(task, task.reason.kind == Kind.FAILURE ? Status.FAILED : Status.CANCELLED);
        } else if (task.place == task.program.size()) {
            end(task, Status.DONE);
        } else {
            String instruction = task.program.get(task.place);
            if (instruction.equals("z") && task.register == 0) {
                task.place++;
            }
            task.place++;
            instruction(task, instruction);
        }
    }

    private void cleanupTurn(Task task) {
        List<String> cleanup = task.inner().cleanup;
        if (task.cleanupPlace == cleanup.size()) {
            task.inCleanup = false;
            return;
        }
        String instruction = cleanup.get(task.cleanupPlace++);
        switch (instruction.charAt(0)) {
            case '!':
                task.inCleanup = false;
                int code = instruction.charAt(1) - '0';
                if (task.reason == null) {
                    fail(task, code, null, task.open.size() - 2);
                } else if (task.reason.kind == Kind.FAILURE) {
                    task.reason.failure = new Failure(code, task, task.reason.failure);
                } else {
                    s.suppressed++;
                }
                break;
            case 'z':
                task.cleanupPlace += task.register == 0 ? 1 : 0;
                break;
            case '+':
            case '-':
            case 'w':
                instruction(task, instruction);
                break;
            default:
                break;
        }
    }

    private void reasonTurn(Task task) {
        Scope scope = task.inner();
        if (scope.state == 0) {
            scope.state = 1;
            cancelAll(scope);
        }
        if (!leave(task, scope, false)) {
            return;
        }
        if (scope.level == task.reason.target) {
            task.register = task.reason.kind == Kind.DEADLINE ? -1 : task.reason.failure.first().code;
            task.place = scope.behind;
            task.reason = null;
        }
    }

    private boolean leave(Task task, Scope scope, boolean closes) {
        if (!scope.live().isEmpty()) {
            task.status = Status.JOINING;
            task.closes = closes;
        } else if (scope.cleanup != null && !scope.begun) {
            scope.begun = true;
            s.cleanups++;
            task.inCleanup = true;
            task.cleanupPlace = 0;
        } else {
            scope.state = 2;
            task.open.remove(scope);
            return true;
        }
        return false;
    }

    private void cancelAll(Scope scope) {
        for (Task child : scope.live()) {
            interrupt(child, new Reason(Kind.CANCELLATION, -1, null));
        }
    }

    private void end(Task task, Status status) {
        task.status = status;
        s.ended.add(task);
        Scope home = task.home;
        if (home == null) {
            return;
        }
        Task owner = home.owner;
        if (status == Status.FAILED && home.state == 0) {
            fail(owner, 10, task.reason.failure, home.level);
        } else if (status == Status.FAILED) {
            s.suppressed++;
        }
        if (owner.status == Status.JOINING && owner.inner() == home && home.live().isEmpty()) {
            wake(owner);
        }
    }

    private void instruction(Task task, String instruction) {
        int d = instruction.length() > 1 ? instruction.charAt(1) - '0' : 0;
        switch (instruction.charAt(0)) {
            case '+':
                task.register += d;
                break;
            case '-':
                task.register -= d;
                break;
            case 'w':
                task.status = Status.SLEEPING;
                task.wakes = s.time + d;
                break;
            case '(':
            case '[':
            case '{':
                open(task, instruction.charAt(0), d);
                break;
            case ')':
                if (!leave(task, task.inner(), true)) {
                    task.place--;
                }
                break;
            case '^':
                task.inner().cleanup = new ArrayList<>(s.programs.get(d));
                break;
            case 'p':
                if (s.tasks.size() == 24) {
                    failHere(task, 11);
                } else {
                    begin(d, task.inner());
                }
                break;
            case 'x':
                cancelAll(task.inner());
                break;
            case '>':
                send(task, s.channels.get(d));
                break;
            case '<':
                receive(task, s.channels.get(d));
                break;
            case '?':
                choose(task, s.channels.get(d), s.channels.get(instruction.charAt(2) - '0'));
                break;
            case '!':
                failHere(task, d);
                break;
            default:
                break;
        }
    }

    private void open(Task task, char kind, int d) {
        if (s.scopes.size() == 60) {
            failHere(task, 12);
            return;
        }
        Scope scope = new Scope();
        scope.number = s.scopes.size();
        scope.owner = task;
        scope.level = task.open.size();
        scope.kind = kind;
        scope.deadline = kind == '[' ? s.time + d : -1;
        int before = depthOf(task.program.subList(0, task.place)) - 1;
        scope.behind = task.place;
        do {
            scope.behind++;
        } while (depthOf(task.program.subList(0, scope.behind)) != before);
        s.scopes.add(scope);
        task.open.add(scope);
    }

    private void send(Task task, Channel channel) {
        if (!channel.takers.isEmpty()) {
            Task taker = channel.takers.getFirst();
            taker.register = task.register;
            taker.choices += taker.status == Status.CHOOSING ? 1 : 0;
            s.numbers++;
            wake(taker);
        } else if (channel.numbers.size() < channel.room) {
            channel.numbers.add(task.register);
        } else {
            task.status = Status.SENDING;
            channel.senders.add(task);
        }
    }

    private void receive(Task task, Channel channel) {
        if (!take(task, channel)) {
            task.status = Status.RECEIVING;
            channel.takers.add(task);
        }
    }

    private void choose(Task task, Channel first, Channel second) {
        boolean even = task.choices % 2 == 0;
        if (take(task, even ? first : second) || take(task, even ? second : first)) {
            task.choices++;
            return;
        }
        task.status = Status.CHOOSING;
        first.takers.add(task);
        if (first != second) {
            second.takers.add(task);
        }
    }

    private boolean take(Task task, Channel channel) {
        if (channel.numbers.isEmpty() && channel.senders.isEmpty()) {
            return false;
        }
        if (!channel.senders.isEmpty()) {
            Task sender = channel.senders.getFirst();
            channel.numbers.add(sender.register);
            wake(sender);
        }
        task.register = channel.numbers.removeFirst();
        s.numbers++;
        return true;
    }

    int task(int number, int what) {
        Task task = s.tasks.get(at(number, s.tasks.size()));
        switch (what) {
            case 0:
                return task.status.ordinal();
            case 1:
                return task.register;
            case 2:
                return task.place;
            case 3:
                return task.open.size();
            case 4:
                return task.home == null ? -1 : task.home.number;
            case 5:
                return task.choices;
            case 6:
                return task.reason == null ? 0 : task.reason.kind.ordinal();
            case 7:
                return task.reason == null ? -2 : task.reason.target;
            case 8:
                return task.inCleanup ? 1 : 0;
            case 9:
                return task.status == Status.SLEEPING ? task.wakes : -1;
            default:
                throw new IllegalArgumentException();
        }
    }

    int scope(int number, int what) {
        Scope scope = s.scopes.get(at(number, s.scopes.size()));
        switch (what) {
            case 0:
                return scope.owner.number;
            case 1:
                return scope.level;
            case 2:
                return "([{".indexOf(scope.kind);
            case 3:
                return scope.state;
            case 4:
                return scope.live().size();
            case 5:
                return scope.children.size();
            case 6:
                return scope.deadline;
            case 7:
                return scope.cleanup == null ? 0 : scope.begun ? 2 : 1;
            default:
                throw new IllegalArgumentException();
        }
    }

    int failure(int number, int depth, int what) {
        Task task = s.tasks.get(at(number, s.tasks.size()));
        if (what < 0 || what > 1) {
            throw new IllegalArgumentException();
        }
        Failure failure = task.reason == null || depth < 0 ? null : task.reason.failure;
        for (int i = 0; i < depth && failure != null; i++) {
            failure = failure.cause;
        }
        if (failure == null) {
            throw new NoSuchElementException();
        }
        return what == 0 ? failure.code : failure.task.number;
    }

    int ready(int index) {
        return element(s.queue, index).number;
    }

    int ended(int index) {
        return element(s.ended, index).number;
    }

    private static <T> T element(List<T> list, int index) {
        if (index < 0 || index >= list.size()) {
            throw new NoSuchElementException();
        }
        return list.get(index);
    }

    boolean isAbove(int task, int other) {
        Task upper = s.tasks.get(at(task, s.tasks.size()));
        Task lower = s.tasks.get(at(other, s.tasks.size()));
        while (lower.home != null) {
            lower = lower.home.owner;
            if (lower == upper) {
                return true;
            }
        }
        return false;
    }

    int scopeOf(int number, int level) {
        Task task = s.tasks.get(at(number, s.tasks.size()));
        return task.open.get(at(level, task.open.size())).number;
    }

    int channel(int number, int what) {
        Channel channel = s.channels.get(at(number, 4));
        switch (what) {
            case 0:
                return channel.room;
            case 1:
                return channel.numbers.size();
            case 2:
                return channel.senders.size();
            case 3:
                return channel.takers.size();
            default:
                throw new IllegalArgumentException();
        }
    }

    int content(int channel, int index) {
        return element(s.channels.get(at(channel, 4)).numbers, index);
    }

    int count(int what) {
        int notEnded = 0;
        for (Task task : s.tasks) {
            notEnded += task.open.size();
        }
        int[] counts = {s.tasks.size(), live(), s.queue.size(), s.scopes.size(), notEnded, s.time, s.turns,
            s.timeTurns, s.cleanups, s.suppressed, s.numbers, s.deadlines, buffer.length()};
        if (what < 0 || what >= counts.length) {
            throw new IllegalArgumentException();
        }
        return counts[what];
    }

    int save() {
        try {
            ByteArrayOutputStream bytes = new ByteArrayOutputStream();
            ObjectOutputStream out = new ObjectOutputStream(bytes);
            out.writeObject(s);
            out.close();
            saved = bytes.toByteArray();
        } catch (IOException impossible) {
            throw new AssertionError(impossible);
        }
        return s.tasks.size();
    }

    int restore() {
        if (saved == null) {
            throw new IllegalStateException();
        }
        try (ObjectInputStream in = new ObjectInputStream(new ByteArrayInputStream(saved))) {
            s = (State) in.readObject();
        } catch (IOException | ClassNotFoundException impossible) {
            throw new AssertionError(impossible);
        }
        return s.tasks.size();
    }
}
