/** Promises 1 to 5: a new object, append, execute, errorPosition, program. */
public final class TextTest {
    private static final Checks CHECKS = new Checks();

    public static void main(String[] args) {
        newObject();
        append();
        appendRefuses();
        execute();
        executeRefusesText();
        executeRefusesRooms();
        errorPositions();
        program();
        CHECKS.finish();
    }

    private static Trial trial(String name) {
        return new Trial(CHECKS, name);
    }

    private static void newObject() {
        Trial t = trial("new object");
        for (int what = 0; what <= 12; what++) {
            t.count(what, 0);
        }
        for (int program = 0; program < 6; program++) {
            int p = program;
            t.due("program(" + p + ", -1)", () -> t.x.program(p, -1), 0);
        }
        for (int channel = 0; channel < 4; channel++) {
            for (int what = 0; what < 4; what++) {
                t.channel(channel, what, 0);
            }
        }
        t.due("errorPosition()", () -> t.x.errorPosition(), -1);
        t.next(200);
        t.queue();
        t.endings();
        t.run(1, 0);
        t.due("reset()", () -> t.x.reset(), 0);
        t.dueThrow("restore()", () -> t.x.restore(), Trial.STATE);
        t.dueThrow("task(0, 0)", () -> t.x.task(0, 0), Trial.INDEX);
        t.dueThrow("scope(0, 0)", () -> t.x.scope(0, 0), Trial.INDEX);
    }

    private static void append() {
        Trial t = trial("append");
        t.due("append(0)", () -> t.x.append(0), 0);
        t.due("append of four", () -> t.x.append(Trial.pack("0:+1")), 4);
        t.due("append of one last", () -> t.x.append('-'), 5);
        t.due("append of one first", () -> t.x.append('2' << 24), 6);
        t.due("append with gaps", () -> t.x.append('y' << 16 | ';'), 8);
        t.count(12, 8);
        t.due("execute()", () -> t.x.execute(), 1);
        t.due("program(0, 1)", () -> t.x.program(0, 1), 4502);
        t.due("program(0, 2)", () -> t.x.program(0, 2), 12100);
        t.count(12, 0);
        t.due("append of 33 and 126", () -> t.x.append(33 << 24 | 126), 2);
    }

    private static void appendRefuses() {
        Trial t = trial("append refuses");
        for (int wrong : new int[] {1, 32, 127, 128, 255, 32 << 8, 127 << 16, 200 << 24, -1, 'y' << 8 | 10}) {
            t.dueThrow("append(" + wrong + ")", () -> t.x.append(wrong), Trial.ARGUMENT);
        }
        t.count(12, 0);
        for (int made = 4; made <= 56; made += 4) {
            int want = made;
            t.due("append", () -> t.x.append(Trial.pack("yyyy")), want);
        }
        t.due("append", () -> t.x.append('y'), 57);
        t.dueThrow("append of a 61st", () -> t.x.append(Trial.pack("yyyy")), Trial.STATE);
        t.dueThrow("append of what is wrong too", () -> t.x.append(Trial.pack("yyy ")), Trial.ARGUMENT);
        t.count(12, 57);
        t.due("append up to 60", () -> t.x.append(Trial.pack("yyy")), 60);
        t.due("append(0) at 60", () -> t.x.append(0), 60);
        t.dueThrow("append at 60", () -> t.x.append('y'), Trial.STATE);
        t.count(12, 60);
    }

    private static void execute() {
        Trial t = trial("execute").load("0:;1:y;#03;0:+9w1;0:-1;", "#12;");
        t.due("program(0, -1), the last one counts", () -> t.x.program(0, -1), 1);
        t.due("program(0, 0)", () -> t.x.program(0, 0), 4501);
        t.due("program(1, 0)", () -> t.x.program(1, 0), 12100);
        t.channel(0, 0, 3);
        t.channel(1, 0, 2);
        t.load("#00;#03;#01;");
        t.channel(0, 0, 1);
        t.load("0:;");
        t.due("program(0, -1)", () -> t.x.program(0, -1), 0);
        t.load("0:yyyyyyyyyyyyyyyyyyyyyyyy;", "5:((((()))))zy;", "1:zzy;");
        t.due("program(0, -1)", () -> t.x.program(0, -1), 24);
    }

    private static void executeRefusesText() {
        Trial t = trial("execute refuses").load("0:y;");
        t.write("0:+1;#03;1:");
        t.dueThrow("execute()", () -> t.x.execute(), Trial.ARGUMENT);
        t.due("program(0, 0) is the old one", () -> t.x.program(0, 0), 12100);
        t.channel(0, 0, 0);
        t.count(12, 0);
        t.due("errorPosition()", () -> t.x.errorPosition(), 11);
        t.dueThrow("execute() of nothing", () -> t.x.execute(), Trial.ARGUMENT);
        t.due("errorPosition()", () -> t.x.errorPosition(), 0);
        t.load("1:yy;");
        t.due("errorPosition()", () -> t.x.errorPosition(), -1);
        t.due("program(0, 0) is still the old one", () -> t.x.program(0, 0), 12100);
        t.due("program(1, -1)", () -> t.x.program(1, -1), 2);
        t.channel(0, 0, 0);
    }

    private static void executeRefusesRooms() {
        Trial t = trial("rooms").load("#03;0:>0>0<1;1:>1;");
        t.start(0, 0);
        t.write("#13;2:y;");
        t.dueThrow("execute() while a task is live", () -> t.x.execute(), Trial.STATE);
        t.channel(1, 0, 0);
        t.due("program(2, -1)", () -> t.x.program(2, -1), 0);
        t.count(12, 0);
        t.due("errorPosition()", () -> t.x.errorPosition(), -1);
        t.write("#13;2:q;");
        t.dueThrow("execute(), text first", () -> t.x.execute(), Trial.ARGUMENT);
        t.due("errorPosition()", () -> t.x.errorPosition(), 6);
        t.load("2:y;");
        t.run(100, 3);
        t.start(1, 1);
        t.run(100, 3);
        t.count(1, 0);
        t.channel(0, 1, 2);
        t.write("#01;#03;");
        t.dueThrow("execute() with less room than numbers", () -> t.x.execute(), Trial.STATE);
        t.channel(0, 0, 3);
        t.load("#02;");
        t.channel(0, 0, 2);
        t.write("#11;#01;");
        t.dueThrow("execute() of the second one", () -> t.x.execute(), Trial.STATE);
        t.channel(1, 0, 0);
    }

    private static void error(String text, int position) {
        Trial t = trial("error in " + text);
        t.write(text);
        t.dueThrow("execute()", () -> t.x.execute(), Trial.ARGUMENT);
        t.due("errorPosition()", () -> t.x.errorPosition(), position);
    }

    private static void errorPositions() {
        for (String wrong : new String[] {"6", ":", "y", ";", "00", "0#", "0;", "0:;6", "0:;#03;x", "#4", "##"}) {
            error(wrong + ":;", wrong.length() - 1);
        }
        for (String wrong : new String[] {"#04", "#0;", "#3:", "#009", "#00:"}) {
            error(wrong + ";", wrong.length() - 1);
        }
        for (String wrong : new String[] {"+0", "-0", "w0", "!0", "[0", "+:", "p", "(p6", "(p;", "^", "(^6", "x", ")",
            "()x", "()p", "()^", "())", ">4", "<4", ">;", "?4", "?04", "?0;", "z(", "z[", "z{", "(z)", "(z^", "z;",
            "zz;", "(;", "{(y);", "((((((", "([1{([1{", "((((([", "((((()((", "q", "0", "+12", "~", "yY", "()()(;"}) {
            error("0:" + wrong + ";y", 1 + wrong.length());
        }
        for (String unfinished : new String[] {"", "0", "0:", "0:y", "0:+", "0:?", "0:?0", "0:(", "0:[", "0:z", "#",
            "#0", "#00", "0:;1", "0:;#", "0:(p", "0:(p0", "0:(p0)", "0:y;#00;5:"}) {
            error(unfinished, unfinished.length());
        }
        String full = "yyyyyyyyyyyyyyyyyyyyyyyy";
        error("0:" + full + "y;", 26);
        error("0:" + full + "+1;", 26);
        error("0:" + full + "q", 26);
        error("0:" + full, 26);
        error("0:+1" + full + ";", 27);
        error("0:" + full.substring(1) + "z;", 26);
        error("0:" + full.substring(1) + "zy;", 26);
        error("0:(" + full.substring(1) + ");", 26);
    }

    private static void program() {
        Trial t = trial("program").load("4:+1-9w5yz!3>0<3?21?00([7{)^5p0x));", "0:;");
        int[] want = {4301, 4509, 11905, 12100, 12200, 3303, 6200, 6003, 6321, 6300, 4000, 9107, 12300, 4100,
            9405, 11200, 12000, 4100, 4100};
        t.due("program(4, -1)", () -> t.x.program(4, -1), want.length);
        for (int place = 0; place < want.length; place++) {
            int here = place;
            t.due("program(4, " + here + ")", () -> t.x.program(4, here), want[here]);
        }
        int[][] wrong = {{-1, 0}, {6, 0}, {6, -1}, {4, -2}, {4, want.length}, {0, 0}, {4, Integer.MAX_VALUE},
            {Integer.MIN_VALUE, -1}};
        for (int[] each : wrong) {
            t.dueThrow("program(" + each[0] + ", " + each[1] + ")", () -> t.x.program(each[0], each[1]), Trial.INDEX);
        }
    }
}
