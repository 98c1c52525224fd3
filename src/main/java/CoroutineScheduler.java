import java.util.NoSuchElementException;

/**
 * Runs the programs of tasks in turns. The public methods test their arguments and
 * throw what the document names; all that happens in a turn stands in the classes inside.
 * Tasks, scopes, channels and failures are numbers, and their properties stand in rows,
 * so that a snapshot is a copy of rows and no call has to make an object.
 */
public final class CoroutineScheduler {
    private static final int PROGRAMS = 6;
    private static final int CHANNELS = 4;
    private static final int MOST_INSTRUCTIONS = 24;
    private static final int MOST_TASKS = 24;
    private static final int MOST_SCOPES = 60;
    private static final int MOST_LEVELS = 5;
    private static final int MOST_ROOM = 3;
    private static final int MOST_CHARACTERS = 60;
    private static final int MOST_TURNS = 100;

    // No instruction of a task is executed twice, no cleanup fails twice, and no task ends twice.
    private static final int MOST_FAILURES =
            MOST_TASKS * MOST_INSTRUCTIONS + MOST_SCOPES + MOST_TASKS;

    private static final int NONE = -1;

    private static final int READY = 0;
    private static final int SLEEPING = 1;
    private static final int SENDING = 2;
    private static final int RECEIVING = 3;
    private static final int CHOOSING = 4;
    private static final int JOINING = 5;
    private static final int DONE = 6;
    private static final int FAILED = 7;
    private static final int CANCELLED = 8;

    private static final int NO_REASON = 0;
    private static final int CANCELLATION = 1;
    private static final int DEADLINE = 2;
    private static final int FAILURE = 3;

    private static final int WHOLE_TASK = -1;
    private static final int NO_TARGET = -2;

    private static final int PLAIN = 0;
    private static final int TIMED = 1;
    private static final int GUARD = 2;

    private static final int OPEN = 0;
    private static final int CLOSING = 1;
    private static final int ENDED = 2;

    private static final int NO_CLEANUP = 0;
    private static final int CLEANUP_SET = 1;
    private static final int CLEANUP_BEGUN = 2;

    private static final int CHILD_FAILED = 10;
    private static final int NO_TASK_LEFT = 11;
    private static final int NO_SCOPE_LEFT = 12;

    private static final int TIME_PASSES = 100;
    private static final int ALL_ENDED = 200;
    private static final int ALL_WAIT = 300;

    // The counts that are kept, by the number that count() has for them.
    private static final int TIME = 5;
    private static final int TURNS = 6;
    private static final int TIME_TURNS = 7;
    private static final int CLEANUPS = 8;
    private static final int SUPPRESSED = 9;
    private static final int NUMBERS = 10;
    private static final int DEADLINES = 11;
    private static final int COUNTS = 12;

    private final Line text;
    private final Reader reader;
    private final World world;
    private final World snapshot;
    private final Schedule schedule;
    private boolean hasSnapshot;
    private int errorPosition;

    public CoroutineScheduler() {
        text = new Line(MOST_CHARACTERS);
        reader = new Reader(text);
        world = new World();
        snapshot = new World();
        schedule = new Schedule(world);
        errorPosition = NONE;
    }

    public int append(int packed) throws IllegalArgumentException, IllegalStateException {
        int added = countCharacters(packed);
        if (added == NONE) {
            throw new IllegalArgumentException("a character is not from 33 to 126");
        }
        if (text.size() + added > MOST_CHARACTERS) {
            throw new IllegalStateException("the buffer has no room for that");
        }
        for (int shift = 24; shift >= 0; shift -= 8) {
            int character = packed >>> shift & 255;
            if (character != 0) {
                text.add(character);
            }
        }
        return text.size();
    }

    public int execute() throws IllegalArgumentException, IllegalStateException {
        errorPosition = reader.read();
        text.clear();
        if (errorPosition != NONE) {
            throw new IllegalArgumentException("there is an error in the text");
        }
        if (!reader.roomsSuit(world)) {
            throw new IllegalStateException("the room of a channel cannot be set now");
        }
        reader.writeTo(world);
        return reader.commands();
    }

    public int errorPosition() {
        return errorPosition;
    }

    public int program(int program, int place) throws IndexOutOfBoundsException {
        if (program < 0 || program >= PROGRAMS) {
            throw new IndexOutOfBoundsException("there is no such program");
        }
        int length = world.programs.length(program);
        if (place < -1 || place >= length) {
            throw new IndexOutOfBoundsException("there is no such place");
        }
        return place == -1 ? length : world.programs.at(program, place);
    }

    public int reset() {
        int live = world.liveTasks();
        world.removeTasks();
        return live;
    }

    public int start(int program) throws IndexOutOfBoundsException, IllegalStateException {
        if (program < 0 || program >= PROGRAMS) {
            throw new IndexOutOfBoundsException("there is no such program");
        }
        int task = world.startTask(program, NONE);
        if (task == NONE) {
            throw new IllegalStateException("there are as many tasks as can be");
        }
        return task;
    }

    public int cancel(int task) throws IndexOutOfBoundsException {
        if (!world.tasks.has(task)) {
            throw new IndexOutOfBoundsException("there is no such task");
        }
        world.interrupt(task, CANCELLATION, WHOLE_TASK, NONE);
        return world.tasks.status.at(task);
    }

    public int run(int turns) throws IllegalArgumentException {
        if (turns < 1 || turns > MOST_TURNS) {
            throw new IllegalArgumentException("turns is out of range");
        }
        int made = 0;
        while (made < turns && schedule.makeTurn()) {
            made++;
        }
        return made;
    }

    public int next() {
        return schedule.upcoming();
    }

    public int task(int task, int what) throws IndexOutOfBoundsException, IllegalArgumentException {
        if (!world.tasks.has(task)) {
            throw new IndexOutOfBoundsException("there is no such task");
        }
        if (what < 0 || what > 9) {
            throw new IllegalArgumentException("there is no such property of a task");
        }
        return world.tasks.property(task, what);
    }

    public int scope(int scope, int what) throws IndexOutOfBoundsException, IllegalArgumentException {
        if (!world.scopes.has(scope)) {
            throw new IndexOutOfBoundsException("there is no such scope");
        }
        if (what < 0 || what > 7) {
            throw new IllegalArgumentException("there is no such property of a scope");
        }
        return world.scopes.property(scope, what);
    }

    public int failure(int task, int depth, int what)
            throws IndexOutOfBoundsException, IllegalArgumentException, NoSuchElementException {
        if (!world.tasks.has(task)) {
            throw new IndexOutOfBoundsException("there is no such task");
        }
        if (what != 0 && what != 1) {
            throw new IllegalArgumentException("there is no such part of a failure");
        }
        int failure = world.failures.under(world.tasks.failure.at(task), depth);
        if (failure == NONE) {
            throw new NoSuchElementException("there is no such failure");
        }
        return what == 0 ? world.failures.codes.at(failure) : world.failures.tasks.at(failure);
    }

    public int ready(int index) throws NoSuchElementException {
        if (!world.queue.has(index)) {
            throw new NoSuchElementException("there is no such ready task");
        }
        return world.queue.at(index);
    }

    public int ended(int index) throws NoSuchElementException {
        if (!world.endings.has(index)) {
            throw new NoSuchElementException("there is no such ended task");
        }
        return world.endings.at(index);
    }

    public boolean isAbove(int task, int other) throws IndexOutOfBoundsException {
        if (!world.tasks.has(task) || !world.tasks.has(other)) {
            throw new IndexOutOfBoundsException("there is no such task");
        }
        int above = world.ownerAbove(other);
        for (int step = 0; step < MOST_TASKS && above != NONE; step++) {
            if (above == task) {
                return true;
            }
            above = world.ownerAbove(above);
        }
        return false;
    }

    public int scopeOf(int task, int level) throws IndexOutOfBoundsException {
        if (!world.tasks.has(task)) {
            throw new IndexOutOfBoundsException("there is no such task");
        }
        if (level < 0 || level >= world.tasks.depth.at(task)) {
            throw new IndexOutOfBoundsException("there is no open scope with this level");
        }
        return world.tasks.scopeAt(task, level);
    }

    public int channel(int channel, int what) throws IndexOutOfBoundsException, IllegalArgumentException {
        if (channel < 0 || channel >= CHANNELS) {
            throw new IndexOutOfBoundsException("there is no such channel");
        }
        switch (what) {
            case 0:
                return world.channels.rooms.at(channel);
            case 1:
                return world.channels.sizes.at(channel);
            case 2:
                return world.tasks.countSenders(channel);
            case 3:
                return world.tasks.countTakers(channel);
            default:
                throw new IllegalArgumentException("there is no such property of a channel");
        }
    }

    public int content(int channel, int index) throws IndexOutOfBoundsException, NoSuchElementException {
        if (channel < 0 || channel >= CHANNELS) {
            throw new IndexOutOfBoundsException("there is no such channel");
        }
        if (index < 0 || index >= world.channels.sizes.at(channel)) {
            throw new NoSuchElementException("there is no such number in the channel");
        }
        return world.channels.at(channel, index);
    }

    public int count(int what) throws IllegalArgumentException {
        switch (what) {
            case 0:
                return world.tasks.made;
            case 1:
                return world.liveTasks();
            case 2:
                return world.queue.size();
            case 3:
                return world.scopes.made;
            case 4:
                return world.scopes.countNotEnded();
            case 12:
                return text.size();
            default:
                if (what < TIME || what > DEADLINES) {
                    throw new IllegalArgumentException("there is no such count");
                }
                return world.counts.at(what);
        }
    }

    public int save() {
        snapshot.copy(world);
        hasSnapshot = true;
        return world.tasks.made;
    }

    public int restore() throws IllegalStateException {
        if (!hasSnapshot) {
            throw new IllegalStateException("there is no snapshot");
        }
        world.copy(snapshot);
        return world.tasks.made;
    }

    private static int countCharacters(int packed) {
        int found = 0;
        for (int shift = 24; shift >= 0; shift -= 8) {
            int character = packed >>> shift & 255;
            if (character != 0 && (character < 33 || character > 126)) {
                return NONE;
            }
            if (character != 0) {
                found++;
            }
        }
        return found;
    }

    /** A fixed number of ints. Outside of it there is 0, and nothing is written. */
    private static final class Row {
        private final int[] cells;

        Row(int size) {
            cells = new int[Math.max(size, 0)];
        }

        int at(int index) {
            return index >= 0 && index < cells.length ? cells[index] : 0;
        }

        void put(int index, int value) {
            if (index >= 0 && index < cells.length) {
                cells[index] = value;
            }
        }

        void change(int index, int difference) {
            if (index >= 0 && index < cells.length) {
                cells[index] += difference;
            }
        }

        void clear() {
            for (int index = 0; index < cells.length; index++) {
                cells[index] = 0;
            }
        }

        void copy(Row other) {
            System.arraycopy(other.cells, 0, cells, 0, Math.min(cells.length, other.cells.length));
        }
    }

    /** Ints in the order in which they were added, at most as many as the line was made for. */
    private static final class Line {
        private final int[] cells;
        private int size;

        Line(int most) {
            cells = new int[Math.max(most, 0)];
        }

        int size() {
            return size;
        }

        boolean has(int index) {
            return index >= 0 && index < size;
        }

        int at(int index) {
            return index >= 0 && index < size && index < cells.length ? cells[index] : NONE;
        }

        void add(int value) {
            if (size >= 0 && size < cells.length) {
                cells[size] = value;
                size++;
            }
        }

        int takeFirst() {
            int first = at(0);
            for (int index = 1; index < size && index < cells.length; index++) {
                cells[index - 1] = cells[index];
            }
            size = Math.max(size - 1, 0);
            return first;
        }

        void clear() {
            size = 0;
        }

        void copy(Line other) {
            int most = Math.min(cells.length, other.cells.length);
            System.arraycopy(other.cells, 0, cells, 0, most);
            size = Math.min(other.size, most);
        }
    }

    /** Lists of instructions, each of them 100 times its sign plus its operand. */
    private static final class Book {
        private final Row lengths;
        private final Row cells;

        Book(int lists) {
            lengths = new Row(lists);
            cells = new Row(lists * MOST_INSTRUCTIONS);
        }

        static int sign(int instruction) {
            return instruction / 100;
        }

        static int operand(int instruction) {
            return instruction % 100;
        }

        static boolean opens(int sign) {
            return sign == '(' || sign == '[' || sign == '{';
        }

        int length(int list) {
            return lengths.at(list);
        }

        int at(int list, int place) {
            boolean there = place >= 0 && place < lengths.at(list);
            return there ? cells.at(list * MOST_INSTRUCTIONS + place) : 0;
        }

        void add(int list, int instruction) {
            int place = lengths.at(list);
            if (place < MOST_INSTRUCTIONS) {
                cells.put(list * MOST_INSTRUCTIONS + place, instruction);
                lengths.put(list, place + 1);
            }
        }

        void empty(int list) {
            lengths.put(list, 0);
        }

        void copyList(int list, Book source, int sourceList) {
            empty(list);
            for (int place = 0; place < source.length(sourceList); place++) {
                add(list, source.at(sourceList, place));
            }
        }

        /** The place behind the ) of the scope that is opened just before a place. */
        int behindClosing(int list, int place) {
            int open = 1;
            for (int here = place; here < length(list); here++) {
                int sign = sign(at(list, here));
                if (opens(sign)) {
                    open++;
                } else if (sign == ')') {
                    open--;
                }
                if (open == 0) {
                    return here + 1;
                }
            }
            return length(list);
        }

        void copy(Book other) {
            lengths.copy(other.lengths);
            cells.copy(other.cells);
        }
    }

    /** The tasks, and what each of them waits for. */
    private static final class Tasks {
        int made;
        final Row status = new Row(MOST_TASKS);
        final Row register = new Row(MOST_TASKS);
        final Row place = new Row(MOST_TASKS);
        final Row depth = new Row(MOST_TASKS);
        final Row home = new Row(MOST_TASKS);
        final Row choices = new Row(MOST_TASKS);
        final Row reason = new Row(MOST_TASKS);
        final Row target = new Row(MOST_TASKS);
        final Row failure = new Row(MOST_TASKS);
        final Row cleanupPlace = new Row(MOST_TASKS);
        final Row wakeTime = new Row(MOST_TASKS);
        final Row firstChannel = new Row(MOST_TASKS);
        final Row secondChannel = new Row(MOST_TASKS);
        final Row waitsSince = new Row(MOST_TASKS);
        final Row openScopes = new Row(MOST_TASKS * MOST_LEVELS);
        final Book code = new Book(MOST_TASKS);

        boolean has(int task) {
            return task >= 0 && task < made;
        }

        int add(int home) {
            int task = made;
            made++;
            status.put(task, READY);
            register.put(task, 0);
            place.put(task, 0);
            depth.put(task, 0);
            this.home.put(task, home);
            choices.put(task, 0);
            cleanupPlace.put(task, NONE);
            wakeTime.put(task, NONE);
            giveReason(task, NO_REASON, NO_TARGET, NONE);
            return task;
        }

        void giveReason(int task, int reason, int target, int failure) {
            this.reason.put(task, reason);
            this.target.put(task, target);
            this.failure.put(task, failure);
        }

        boolean hasReason(int task) {
            return reason.at(task) != NO_REASON;
        }

        boolean hasEnded(int task) {
            return status.at(task) >= DONE;
        }

        boolean executesCleanup(int task) {
            return cleanupPlace.at(task) != NONE;
        }

        int scopeAt(int task, int level) {
            boolean open = level >= 0 && level < depth.at(task);
            return open ? openScopes.at(task * MOST_LEVELS + level) : NONE;
        }

        /** The level of the innermost open scope, or NONE. */
        int innermostLevel(int task) {
            return depth.at(task) - 1;
        }

        int innermost(int task) {
            return scopeAt(task, depth.at(task) - 1);
        }

        void enter(int task, int scope) {
            openScopes.put(task * MOST_LEVELS + depth.at(task), scope);
            depth.change(task, 1);
        }

        void sleepUntil(int task, int time) {
            status.put(task, SLEEPING);
            wakeTime.put(task, time);
        }

        void waitFor(int task, int newStatus, int first, int second, int turn) {
            status.put(task, newStatus);
            firstChannel.put(task, first);
            secondChannel.put(task, second);
            waitsSince.put(task, turn);
        }

        boolean sendsTo(int task, int channel) {
            return status.at(task) == SENDING && firstChannel.at(task) == channel;
        }

        boolean takesFrom(int task, int channel) {
            boolean takes = status.at(task) == RECEIVING || status.at(task) == CHOOSING;
            return takes && (firstChannel.at(task) == channel || secondChannel.at(task) == channel);
        }

        int countSenders(int channel) {
            int found = 0;
            for (int task = 0; task < made; task++) {
                if (sendsTo(task, channel)) {
                    found++;
                }
            }
            return found;
        }

        int countTakers(int channel) {
            int found = 0;
            for (int task = 0; task < made; task++) {
                if (takesFrom(task, channel)) {
                    found++;
                }
            }
            return found;
        }

        int property(int task, int what) {
            switch (what) {
                case 0:
                    return status.at(task);
                case 1:
                    return register.at(task);
                case 2:
                    return place.at(task);
                case 3:
                    return depth.at(task);
                case 4:
                    return home.at(task);
                case 5:
                    return choices.at(task);
                case 6:
                    return reason.at(task);
                case 7:
                    return target.at(task);
                case 8:
                    return executesCleanup(task) ? 1 : 0;
                default:
                    return wakeTime.at(task);
            }
        }

        void copy(Tasks other) {
            made = other.made;
            status.copy(other.status);
            register.copy(other.register);
            place.copy(other.place);
            depth.copy(other.depth);
            home.copy(other.home);
            choices.copy(other.choices);
            reason.copy(other.reason);
            target.copy(other.target);
            failure.copy(other.failure);
            cleanupPlace.copy(other.cleanupPlace);
            wakeTime.copy(other.wakeTime);
            firstChannel.copy(other.firstChannel);
            secondChannel.copy(other.secondChannel);
            waitsSince.copy(other.waitsSince);
            openScopes.copy(other.openScopes);
            code.copy(other.code);
        }
    }

    /** The scopes, with copies of their cleanups. */
    private static final class Scopes {
        int made;
        final Row owner = new Row(MOST_SCOPES);
        final Row level = new Row(MOST_SCOPES);
        final Row kind = new Row(MOST_SCOPES);
        final Row state = new Row(MOST_SCOPES);
        final Row liveChildren = new Row(MOST_SCOPES);
        final Row children = new Row(MOST_SCOPES);
        final Row deadline = new Row(MOST_SCOPES);
        final Row cleanupState = new Row(MOST_SCOPES);
        final Row behind = new Row(MOST_SCOPES);
        final Book cleanups = new Book(MOST_SCOPES);

        boolean has(int scope) {
            return scope >= 0 && scope < made;
        }

        int add(int owner, int level, int kind, int deadline, int behind) {
            int scope = made;
            made++;
            this.owner.put(scope, owner);
            this.level.put(scope, level);
            this.kind.put(scope, kind);
            state.put(scope, OPEN);
            liveChildren.put(scope, 0);
            children.put(scope, 0);
            this.deadline.put(scope, deadline);
            cleanupState.put(scope, NO_CLEANUP);
            this.behind.put(scope, behind);
            return scope;
        }

        void addChild(int scope) {
            liveChildren.change(scope, 1);
            children.change(scope, 1);
        }

        boolean hasEnded(int scope) {
            return state.at(scope) == ENDED;
        }

        int countNotEnded() {
            int found = 0;
            for (int scope = 0; scope < made; scope++) {
                if (!hasEnded(scope)) {
                    found++;
                }
            }
            return found;
        }

        int property(int scope, int what) {
            switch (what) {
                case 0:
                    return owner.at(scope);
                case 1:
                    return level.at(scope);
                case 2:
                    return kind.at(scope);
                case 3:
                    return state.at(scope);
                case 4:
                    return liveChildren.at(scope);
                case 5:
                    return children.at(scope);
                case 6:
                    return deadline.at(scope);
                default:
                    return cleanupState.at(scope);
            }
        }

        void copy(Scopes other) {
            made = other.made;
            owner.copy(other.owner);
            level.copy(other.level);
            kind.copy(other.kind);
            state.copy(other.state);
            liveChildren.copy(other.liveChildren);
            children.copy(other.children);
            deadline.copy(other.deadline);
            cleanupState.copy(other.cleanupState);
            behind.copy(other.behind);
            cleanups.copy(other.cleanups);
        }
    }

    /** The rooms of the channels and the numbers in them. */
    private static final class Channels {
        final Row rooms = new Row(CHANNELS);
        final Row sizes = new Row(CHANNELS);
        private final Row cells = new Row(CHANNELS * MOST_ROOM);

        int at(int channel, int index) {
            return cells.at(channel * MOST_ROOM + index);
        }

        boolean hasRoom(int channel) {
            return sizes.at(channel) < rooms.at(channel);
        }

        void add(int channel, int number) {
            cells.put(channel * MOST_ROOM + sizes.at(channel), number);
            sizes.change(channel, 1);
        }

        int takeFirst(int channel) {
            int first = at(channel, 0);
            for (int index = 1; index < sizes.at(channel); index++) {
                cells.put(channel * MOST_ROOM + index - 1, at(channel, index));
            }
            sizes.change(channel, -1);
            return first;
        }

        void copy(Channels other) {
            rooms.copy(other.rooms);
            sizes.copy(other.sizes);
            cells.copy(other.cells);
        }
    }

    /** The failures, numbered as they came into being, so that a cause has a lower number. */
    private static final class Failures {
        final Line codes = new Line(MOST_FAILURES);
        final Line tasks = new Line(MOST_FAILURES);
        final Line causes = new Line(MOST_FAILURES);

        int add(int code, int task, int cause) {
            int failure = codes.size();
            codes.add(code);
            tasks.add(task);
            causes.add(cause);
            return failure;
        }

        /** The failure that stands some causes below another one, or NONE. */
        int under(int failure, int depth) {
            int found = depth < 0 ? NONE : failure;
            for (int step = 0; step < depth && found != NONE; step++) {
                found = causes.at(found);
            }
            return found;
        }

        int codeOfFirstCause(int failure) {
            int first = failure;
            for (int step = 0; step < MOST_FAILURES && causes.at(first) != NONE; step++) {
                first = causes.at(first);
            }
            return codes.at(first);
        }

        void clear() {
            codes.clear();
            tasks.clear();
            causes.clear();
        }

        void copy(Failures other) {
            codes.copy(other.codes);
            tasks.copy(other.tasks);
            causes.copy(other.causes);
        }
    }

    /** All that a snapshot holds, with the steps that tasks and scopes have in common. */
    private static final class World {
        final Book programs = new Book(PROGRAMS);
        final Tasks tasks = new Tasks();
        final Scopes scopes = new Scopes();
        final Channels channels = new Channels();
        final Failures failures = new Failures();
        final Line queue = new Line(MOST_TASKS);
        final Line endings = new Line(MOST_TASKS);
        final Row counts = new Row(COUNTS);

        void copy(World other) {
            programs.copy(other.programs);
            tasks.copy(other.tasks);
            scopes.copy(other.scopes);
            channels.copy(other.channels);
            failures.copy(other.failures);
            queue.copy(other.queue);
            endings.copy(other.endings);
            counts.copy(other.counts);
        }

        void removeTasks() {
            tasks.made = 0;
            scopes.made = 0;
            channels.sizes.clear();
            failures.clear();
            queue.clear();
            endings.clear();
            counts.clear();
        }

        int liveTasks() {
            return tasks.made - endings.size();
        }

        /** Starts a task in a scope, or in none; answers NONE if no task is left. */
        int startTask(int program, int home) {
            if (tasks.made >= MOST_TASKS) {
                return NONE;
            }
            int task = tasks.add(home);
            tasks.code.copyList(task, programs, program);
            queue.add(task);
            return task;
        }

        int ownerAbove(int task) {
            int home = tasks.home.at(task);
            return home == NONE ? NONE : scopes.owner.at(home);
        }

        void makeReady(int task) {
            tasks.status.put(task, READY);
            tasks.wakeTime.put(task, NONE);
            queue.add(task);
        }

        void interrupt(int task, int reason, int target, int failure) {
            if (tasks.hasEnded(task)) {
                return;
            }
            // A task that joins and has a reason already joins because of that reason.
            boolean joinsByReason = tasks.status.at(task) == JOINING && tasks.hasReason(task);
            if (!tasks.hasReason(task)) {
                tasks.giveReason(task, reason, target, failure);
            } else if (target < tasks.target.at(task)) {
                suppress(tasks.reason.at(task));
                tasks.giveReason(task, reason, target, failure);
            } else {
                suppress(reason);
            }
            boolean waits = tasks.status.at(task) != READY && !joinsByReason;
            if (waits && !tasks.executesCleanup(task)) {
                makeReady(task);
            }
        }

        private void suppress(int reason) {
            if (reason == FAILURE) {
                counts.change(SUPPRESSED, 1);
            }
        }

        /** Makes a failure that comes from a level of a task, and interrupts the task by it. */
        void fail(int task, int code, int cause, int level) {
            int failure = failures.add(code, task, cause);
            interrupt(task, FAILURE, guardLevel(task, level), failure);
        }

        private int guardLevel(int task, int level) {
            for (int here = level; here >= 0; here--) {
                if (scopes.kind.at(tasks.scopeAt(task, here)) == GUARD) {
                    return here;
                }
            }
            return WHOLE_TASK;
        }

        void cancelChildren(int scope) {
            for (int task = 0; task < tasks.made; task++) {
                if (tasks.home.at(task) == scope) {
                    interrupt(task, CANCELLATION, WHOLE_TASK, NONE);
                }
            }
        }
    }

    /** Reads the text of the buffer into drafts, which are written to the world at the end. */
    private static final class Reader {
        private final Line text;
        private final Book drafts = new Book(PROGRAMS);
        private final Row drafted = new Row(PROGRAMS);
        private final Line roomChannels = new Line(MOST_CHARACTERS);
        private final Line roomSizes = new Line(MOST_CHARACTERS);
        private int commands;
        private int position;

        Reader(Line text) {
            this.text = text;
        }

        int commands() {
            return commands;
        }

        /** Answers the position of the first error, or NONE. */
        int read() {
            drafted.clear();
            roomChannels.clear();
            roomSizes.clear();
            position = 0;
            for (commands = 0; commands < MOST_CHARACTERS; commands++) {
                if (commands > 0 && position >= text.size()) {
                    return NONE;
                }
                if (!readCommand()) {
                    return position;
                }
            }
            return NONE;
        }

        private boolean readCommand() {
            return text.at(position) == '#' ? readRoom() : readProgram();
        }

        private boolean readRoom() {
            position++;
            int start = position;
            if (!pass('0', '3') || !pass('0', '3') || !pass(';', ';')) {
                return false;
            }
            roomChannels.add(digit(start));
            roomSizes.add(digit(start + 1));
            return true;
        }

        private boolean readProgram() {
            int program = digit(position);
            if (!pass('0', '5') || !pass(':', ':')) {
                return false;
            }
            drafts.empty(program);
            drafted.put(program, 1);
            return readInstructions(program);
        }

        private boolean readInstructions(int program) {
            int open = 0;
            boolean behindZ = false;
            for (int made = 0; made <= MOST_INSTRUCTIONS; made++) {
                int start = position;
                int sign = text.at(start);
                if (sign == ';' && open == 0 && !behindZ) {
                    return pass(';', ';');
                }
                if (made == MOST_INSTRUCTIONS || !mayStand(sign, open, behindZ)) {
                    return false;
                }
                position++;
                if (!passOperand(sign)) {
                    return false;
                }
                drafts.add(program, 100 * sign + operandFrom(start + 1));
                open += Book.opens(sign) ? 1 : sign == ')' ? -1 : 0;
                behindZ = sign == 'z';
            }
            return false;
        }

        private static boolean mayStand(int sign, int open, boolean behindZ) {
            switch (sign) {
                case '(':
                case '[':
                case '{':
                    return open < MOST_LEVELS && !behindZ;
                case ')':
                case '^':
                    return open > 0 && !behindZ;
                case 'p':
                case 'x':
                    return open > 0;
                case '+':
                case '-':
                case 'w':
                case 'y':
                case 'z':
                case '>':
                case '<':
                case '?':
                case '!':
                    return true;
                default:
                    return false;
            }
        }

        private boolean passOperand(int sign) {
            switch (sign) {
                case '+':
                case '-':
                case 'w':
                case '[':
                case '!':
                    return pass('1', '9');
                case '^':
                case 'p':
                    return pass('0', '5');
                case '>':
                case '<':
                    return pass('0', '3');
                case '?':
                    return pass('0', '3') && pass('0', '3');
                default:
                    return true;
            }
        }

        private boolean pass(int least, int most) {
            int character = text.at(position);
            if (character < least || character > most) {
                return false;
            }
            position++;
            return true;
        }

        private int operandFrom(int start) {
            int operand = 0;
            for (int here = start; here < position; here++) {
                operand = 10 * operand + digit(here);
            }
            return operand;
        }

        private int digit(int here) {
            return text.at(here) - '0';
        }

        boolean roomsSuit(World world) {
            if (roomChannels.size() > 0 && world.liveTasks() > 0) {
                return false;
            }
            for (int index = 0; index < roomChannels.size(); index++) {
                if (roomSizes.at(index) < world.channels.sizes.at(roomChannels.at(index))) {
                    return false;
                }
            }
            return true;
        }

        void writeTo(World world) {
            for (int program = 0; program < PROGRAMS; program++) {
                if (drafted.at(program) == 1) {
                    world.programs.copyList(program, drafts, program);
                }
            }
            for (int index = 0; index < roomChannels.size(); index++) {
                world.channels.rooms.put(roomChannels.at(index), roomSizes.at(index));
            }
        }
    }

    /** Sending, receiving and choosing. */
    private static final class Exchange {
        private final World world;
        private final Tasks tasks;
        private final Channels channels;

        Exchange(World world) {
            this.world = world;
            tasks = world.tasks;
            channels = world.channels;
        }

        void send(int task, int channel) {
            int taker = longestTaker(channel);
            int number = tasks.register.at(task);
            if (taker != NONE) {
                boolean chose = tasks.status.at(taker) == CHOOSING;
                world.makeReady(taker);
                receiveNumber(taker, number, chose);
            } else if (channels.hasRoom(channel)) {
                channels.add(channel, number);
            } else {
                tasks.waitFor(task, SENDING, channel, channel, world.counts.at(TURNS));
            }
        }

        void receive(int task, int channel) {
            if (!takeNumber(task, channel, false)) {
                tasks.waitFor(task, RECEIVING, channel, channel, world.counts.at(TURNS));
            }
        }

        void choose(int task, int first, int second) {
            boolean even = tasks.choices.at(task) % 2 == 0;
            int sooner = even ? first : second;
            int later = even ? second : first;
            if (!takeNumber(task, sooner, true) && !takeNumber(task, later, true)) {
                tasks.waitFor(task, CHOOSING, first, second, world.counts.at(TURNS));
            }
        }

        /** Receives from a channel if that is possible without waiting. */
        private boolean takeNumber(int task, int channel, boolean chooses) {
            int sender = longestSender(channel);
            int number = tasks.register.at(sender);
            if (channels.sizes.at(channel) > 0) {
                int first = channels.takeFirst(channel);
                if (sender != NONE) {
                    channels.add(channel, number);
                }
                number = first;
            } else if (sender == NONE) {
                return false;
            }
            if (sender != NONE) {
                world.makeReady(sender);
            }
            receiveNumber(task, number, chooses);
            return true;
        }

        private void receiveNumber(int task, int number, boolean chooses) {
            tasks.register.put(task, number);
            world.counts.change(NUMBERS, 1);
            if (chooses) {
                tasks.choices.change(task, 1);
            }
        }

        private int longestTaker(int channel) {
            int longest = NONE;
            for (int task = 0; task < tasks.made; task++) {
                if (tasks.takesFrom(task, channel) && waitsLonger(task, longest)) {
                    longest = task;
                }
            }
            return longest;
        }

        private int longestSender(int channel) {
            int longest = NONE;
            for (int task = 0; task < tasks.made; task++) {
                if (tasks.sendsTo(task, channel) && waitsLonger(task, longest)) {
                    longest = task;
                }
            }
            return longest;
        }

        // In one turn at most one task begins to wait for a channel, so the turns differ.
        private boolean waitsLonger(int task, int other) {
            return other == NONE || tasks.waitsSince.at(task) < tasks.waitsSince.at(other);
        }
    }

    /** The turns of tasks and the turns in which time passes. */
    private static final class Schedule {
        private final World world;
        private final Tasks tasks;
        private final Scopes scopes;
        private final Exchange exchange;

        Schedule(World world) {
            this.world = world;
            tasks = world.tasks;
            scopes = world.scopes;
            exchange = new Exchange(world);
        }

        int upcoming() {
            if (world.queue.size() > 0) {
                return world.queue.at(0);
            }
            if (nextTime() != NONE) {
                return TIME_PASSES;
            }
            return world.liveTasks() == 0 ? ALL_ENDED : ALL_WAIT;
        }

        /** Makes a turn; answers false if none can be made. */
        boolean makeTurn() {
            if (world.queue.size() == 0) {
                return passTime();
            }
            world.counts.change(TURNS, 1);
            int task = world.queue.takeFirst();
            if (tasks.executesCleanup(task)) {
                continueCleanup(task);
            } else if (tasks.hasReason(task) && tasks.depth.at(task) > 0) {
                leaveInnermost(task);
            } else if (tasks.hasReason(task)) {
                endTask(task, tasks.reason.at(task) == FAILURE ? FAILED : CANCELLED);
            } else if (tasks.place.at(task) >= tasks.code.length(task)) {
                endTask(task, DONE);
            } else {
                executeNext(task);
            }
            if (tasks.status.at(task) == READY) {
                world.queue.add(task);
            }
            return true;
        }

        private void continueCleanup(int task) {
            int scope = tasks.innermost(task);
            int place = tasks.cleanupPlace.at(task);
            if (place >= scopes.cleanups.length(scope)) {
                tasks.cleanupPlace.put(task, NONE);
                return;
            }
            int instruction = scopes.cleanups.at(scope, place);
            int sign = Book.sign(instruction);
            tasks.cleanupPlace.put(task, place + stepOver(task, sign));
            if (sign == '!') {
                failInCleanup(task, Book.operand(instruction));
            } else {
                executeSimple(task, sign, Book.operand(instruction));
            }
        }

        private int stepOver(int task, int sign) {
            return sign == 'z' && tasks.register.at(task) == 0 ? 2 : 1;
        }

        private void failInCleanup(int task, int code) {
            tasks.cleanupPlace.put(task, NONE);
            int reason = tasks.reason.at(task);
            if (reason == NO_REASON) {
                world.fail(task, code, NONE, tasks.innermostLevel(task) - 1);
            } else if (reason == FAILURE) {
                int failure = world.failures.add(code, task, tasks.failure.at(task));
                tasks.failure.put(task, failure);
            } else {
                world.counts.change(SUPPRESSED, 1);
            }
        }

        private void leaveInnermost(int task) {
            int scope = tasks.innermost(task);
            if (scopes.state.at(scope) == OPEN) {
                scopes.state.put(scope, CLOSING);
                world.cancelChildren(scope);
            }
            if (endScope(task, scope) && scopes.level.at(scope) == tasks.target.at(task)) {
                goOnBehind(task, scope);
            }
        }

        private void goOnBehind(int task, int scope) {
            boolean failed = tasks.reason.at(task) == FAILURE;
            int failure = tasks.failure.at(task);
            tasks.register.put(task, failed ? world.failures.codeOfFirstCause(failure) : -1);
            tasks.place.put(task, scopes.behind.at(scope));
            tasks.giveReason(task, NO_REASON, NO_TARGET, NONE);
        }

        /** Joins the live children, or else begins the cleanup, or else ends the scope and answers true. */
        private boolean endScope(int task, int scope) {
            if (scopes.liveChildren.at(scope) > 0) {
                tasks.status.put(task, JOINING);
                return false;
            }
            if (scopes.cleanupState.at(scope) == CLEANUP_SET) {
                scopes.cleanupState.put(scope, CLEANUP_BEGUN);
                tasks.cleanupPlace.put(task, 0);
                world.counts.change(CLEANUPS, 1);
                return false;
            }
            scopes.state.put(scope, ENDED);
            tasks.depth.change(task, -1);
            return true;
        }

        private void endTask(int task, int status) {
            tasks.status.put(task, status);
            world.endings.add(task);
            int home = tasks.home.at(task);
            if (home == NONE) {
                return;
            }
            scopes.liveChildren.change(home, -1);
            int owner = scopes.owner.at(home);
            if (status == FAILED) {
                failOwner(owner, home, tasks.failure.at(task));
            }
            boolean joins = tasks.status.at(owner) == JOINING && tasks.innermost(owner) == home;
            if (joins && scopes.liveChildren.at(home) == 0) {
                world.makeReady(owner);
            }
        }

        private void failOwner(int owner, int home, int cause) {
            if (scopes.state.at(home) == OPEN) {
                world.fail(owner, CHILD_FAILED, cause, scopes.level.at(home));
            } else {
                world.counts.change(SUPPRESSED, 1);
            }
        }

        private void executeNext(int task) {
            int place = tasks.place.at(task);
            int instruction = tasks.code.at(task, place);
            int sign = Book.sign(instruction);
            int operand = Book.operand(instruction);
            if (sign != ')') {
                tasks.place.put(task, place + stepOver(task, sign));
            }
            switch (sign) {
                case ')':
                    closeScope(task);
                    break;
                case '(':
                case '[':
                case '{':
                    openScope(task, sign, operand);
                    break;
                case '^':
                    setCleanup(task, operand);
                    break;
                case 'p':
                    startChild(task, operand);
                    break;
                case 'x':
                    world.cancelChildren(tasks.innermost(task));
                    break;
                case '>':
                    exchange.send(task, operand);
                    break;
                case '<':
                    exchange.receive(task, operand);
                    break;
                case '?':
                    exchange.choose(task, operand / 10, operand % 10);
                    break;
                case '!':
                    world.fail(task, operand, NONE, tasks.innermostLevel(task));
                    break;
                default:
                    executeSimple(task, sign, operand);
            }
        }

        /** Executes what does the same in a program and in a cleanup; y and z have no more to do. */
        private void executeSimple(int task, int sign, int operand) {
            if (sign == '+') {
                tasks.register.change(task, operand);
            } else if (sign == '-') {
                tasks.register.change(task, -operand);
            } else if (sign == 'w') {
                tasks.sleepUntil(task, world.counts.at(TIME) + operand);
            }
        }

        private void closeScope(int task) {
            if (endScope(task, tasks.innermost(task))) {
                tasks.place.change(task, 1);
            }
        }

        private void openScope(int task, int sign, int units) {
            if (scopes.made >= MOST_SCOPES) {
                world.fail(task, NO_SCOPE_LEFT, NONE, tasks.innermostLevel(task));
                return;
            }
            int kind = sign == '{' ? GUARD : sign == '[' ? TIMED : PLAIN;
            int deadline = kind == TIMED ? world.counts.at(TIME) + units : NONE;
            int behind = tasks.code.behindClosing(task, tasks.place.at(task));
            tasks.enter(task, scopes.add(task, tasks.depth.at(task), kind, deadline, behind));
        }

        private void setCleanup(int task, int program) {
            int scope = tasks.innermost(task);
            scopes.cleanupState.put(scope, CLEANUP_SET);
            scopes.cleanups.copyList(scope, world.programs, program);
        }

        private void startChild(int task, int program) {
            int scope = tasks.innermost(task);
            if (world.startTask(program, scope) == NONE) {
                world.fail(task, NO_TASK_LEFT, NONE, tasks.innermostLevel(task));
            } else {
                scopes.addChild(scope);
            }
        }

        /** The least time at which a task wakes or a deadline passes, or NONE. */
        private int nextTime() {
            int least = NONE;
            for (int task = 0; task < tasks.made; task++) {
                if (tasks.status.at(task) == SLEEPING) {
                    least = sooner(least, tasks.wakeTime.at(task));
                }
            }
            for (int scope = 0; scope < scopes.made; scope++) {
                if (!scopes.hasEnded(scope) && scopes.deadline.at(scope) > world.counts.at(TIME)) {
                    least = sooner(least, scopes.deadline.at(scope));
                }
            }
            return least;
        }

        private static int sooner(int least, int time) {
            return least == NONE ? time : Math.min(least, time);
        }

        private boolean passTime() {
            int time = nextTime();
            if (time == NONE) {
                return false;
            }
            world.counts.change(TURNS, 1);
            world.counts.change(TIME_TURNS, 1);
            world.counts.put(TIME, time);
            wakeTasks(time);
            passDeadlines(time);
            return true;
        }

        private void wakeTasks(int time) {
            for (int task = 0; task < tasks.made; task++) {
                if (tasks.status.at(task) == SLEEPING && tasks.wakeTime.at(task) == time) {
                    world.makeReady(task);
                }
            }
        }

        private void passDeadlines(int time) {
            for (int scope = 0; scope < scopes.made; scope++) {
                if (scopes.hasEnded(scope) || scopes.deadline.at(scope) != time) {
                    continue;
                }
                world.counts.change(DEADLINES, 1);
                if (scopes.state.at(scope) == OPEN) {
                    world.interrupt(scopes.owner.at(scope), DEADLINE, scopes.level.at(scope), NONE);
                }
            }
        }
    }
}
