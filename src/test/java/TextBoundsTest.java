/** Boundary cases that the sections Programs and Text name, and promises 1 to 5. */
public final class TextBoundsTest {
    private static final String FULL = "yyyyyyyyyyyyyyyyyyyyyyyy";

    public static void main(String[] args) {
        Sentences.test(TextBoundsTest.class);
    }

    private static int code(char sign, int operand) {
        return 100 * sign + operand;
    }

    // Programs

    @Sentence(in = "Programs", says = "There are 6 programs, numbered from 0")
    static void sixPrograms(Trial t) {
        t.load("0:+1;1:+2;2:+3;3:+4;4:+5;5:+6;");
        for (int program = 0; program < 6; program++) {
            t.program(program, 0, code('+', program + 1));
            t.start(program, program);
        }
        t.runAll(12);
        for (int task = 0; task < 6; task++) {
            t.task(task, 1, task + 1);
        }
        t.refuses("6:y;", 0);
        t.refuses("/:y;", 0);
        t.dueThrow("program(6, -1)", () -> t.x.program(6, -1), Trial.INDEX);
        t.dueThrow("start(6)", () -> t.x.start(6), Trial.INDEX);
    }

    @Sentence(in = "Programs", says = "with at most 24 instructions each")
    static void twentyFourInstructions(Trial t) {
        for (int program = 0; program < 6; program++) {
            t.load(program + ":" + FULL + ";");
        }
        for (int program = 0; program < 6; program++) {
            int p = program;
            t.program(p, -1, 24);
            t.program(p, 0, code('y', 0));
            t.program(p, 23, code('y', 0));
            t.dueThrow("program(p, 24)", () -> t.x.program(p, 24), Trial.INDEX);
        }
        t.start(5, 0);
        t.runAll(25);
        t.task(0, 2, 24);
        t.refuses("0:" + FULL + "y;", 26);
    }

    @Sentence(in = "Programs", says = "with at most 24 instructions each")
    static void twentyFourInstructionsWithOperands(Trial t) {
        String twelve = "+1+2+3+4+5+6-1-2-3-4-5-6";
        t.load("0:" + twelve + twelve + ";", "1:(^0);");
        t.program(0, -1, 24);
        t.program(0, 23, code('-', 6));
        t.start(0, 0);
        t.run(18, 18);
        t.task(0, 1, 21);
        t.runAll(7);
        t.task(0, 1, 0);
        t.refuses("0:" + twelve + twelve + "+1;", 50);
        t.start(1, 1);
        t.runAll(3 + 25 + 2);
        t.count(8, 1);
        t.task(1, 1, 0);
    }

    @Sentence(in = "Programs", says = "none at first")
    static void noInstructionsAtFirst(Trial t) {
        for (int program = 0; program < 6; program++) {
            int p = program;
            t.program(p, -1, 0);
            t.dueThrow("program(p, 0)", () -> t.x.program(p, 0), Trial.INDEX);
        }
        t.start(5, 0);
        t.run(100, 1);
        t.wholeTask(0, 6, 0, 0);
    }

    @Sentence(in = "Programs", says = "where d is a digit from 1 to 9")
    static void digitsFromOneToNine(Trial t) {
        for (String sign : new String[] {"+", "-", "w", "!"}) {
            t.fits("0:" + sign + "1" + sign + "9;");
            t.refuses("0:" + sign + "0;", 3);
            t.refuses("0:" + sign + ":;", 3);
        }
        t.fits("0:[1)[9);");
        t.refuses("0:[0);", 3);
        t.refuses("0:[:);", 3);
    }

    @Sentence(in = "Programs", says = "c and e are channels, 0 to 3")
    static void channelsFromZeroToThree(Trial t) {
        for (String sign : new String[] {"<", ">", "?0", "?3"}) {
            t.fits("0:" + sign + "0" + sign + "3;");
            t.refuses("0:" + sign + "4;", 2 + sign.length());
            t.refuses("0:" + sign + "/;", 2 + sign.length());
        }
        t.refuses("0:?40;", 3);
        t.refuses("0:?/0;", 3);
    }

    @Sentence(in = "Programs", says = "q is a program, 0 to 5")
    static void operandsFromZeroToFive(Trial t) {
        for (String sign : new String[] {"^", "p"}) {
            t.fits("0:(" + sign + "0" + sign + "5);");
            t.refuses("0:(" + sign + "6);", 4);
            t.refuses("0:(" + sign + "/);", 4);
        }
    }

    @Sentence(in = "Programs", says = "+d and -d: the register increases or decreases by d.")
    static void registerByOneAndByNine(Trial t) {
        t.load("0:+9+1-9-9-1+9;");
        t.start(0, 0);
        for (int want : new int[] {9, 10, 1, -8, -9, 0}) {
            t.run(1, 1);
            t.task(0, 1, want);
        }
    }

    @Sentence(in = "Programs", says = "wd: sleep for d units of time.")
    static void sleepForOneAndForNine(Trial t) {
        t.load("0:w1w9;");
        t.start(0, 0);
        t.run(1, 1);
        t.task(0, 9, 1);
        t.run(2, 2);
        t.task(0, 9, 10);
        t.run(1, 1);
        t.count(5, 10);
        t.task(0, 9, -1);
    }

    @Sentence(in = "Programs", says = "y: yield.")
    static void yieldIsATurn(Trial t) {
        t.load("0:y+1;1:+2;");
        t.start(0, 0);
        t.start(1, 1);
        t.run(1, 1);
        t.wholeTask(0, 0, 0, 1);
        t.queue(1, 0);
        t.run(2, 2);
        t.task(1, 1, 2);
        t.task(0, 1, 1);
    }

    @Sentence(in = "Programs", says = "z: if the register is 0, the next instruction is skipped.")
    static void skipAtZeroAlone(Trial t) {
        t.load("0:z+5;1:+1z+5;2:-1z+5;");
        t.start(0, 0);
        t.start(1, 1);
        t.start(2, 2);
        t.runAll(2 + 4 + 4);
        t.wholeTask(0, 6, 0, 2);
        t.wholeTask(1, 6, 6, 3);
        t.wholeTask(2, 6, 4, 3);
    }

    @Sentence(in = "Programs", says = "a scope with the deadline in d units of time from now")
    static void deadlineInOneAndInNine(Trial t) {
        t.load("0:w3[9[1<0));");
        t.start(0, 0);
        t.run(5, 5);
        t.scope(0, 6, 12);
        t.scope(1, 6, 4);
        t.run(1, 1);
        t.count(5, 4);
        t.run(2, 2);
        t.task(0, 0, 0);
        t.scope(1, 3, 2);
    }

    @Sentence(in = "Programs", says = "receive from one of both channels, which can be the same")
    static void chooseFromTheSame(Trial t) {
        t.load("0:?00?33?03?30;");
        t.program(0, 0, code('?', 0));
        t.program(0, 1, code('?', 33));
        t.program(0, 2, code('?', 3));
        t.program(0, 3, code('?', 30));
    }

    @Sentence(in = "Programs", says = "fail with the code d")
    static void codesOneAndNine(Trial t) {
        t.load("0:!1;1:!9;");
        t.start(0, 0);
        t.start(1, 1);
        t.runAll(4);
        t.failure(0, 0, 1, 0);
        t.failure(1, 0, 9, 1);
    }

    @Sentence(in = "Programs", says = "scopes are closed in pairs")
    static void scopesInPairs(Trial t) {
        for (String open : new String[] {"(", "[1", "{"}) {
            int behind = 2 + open.length();
            t.fits("0:" + open + ");");
            t.fits("0:" + open + ")y" + open + ");");
            t.refuses("0:" + open + ";", behind);
            t.refuses("0:" + open + "));", behind + 1);
            t.refuses("0:" + open + open + ");", behind + open.length() + 1);
        }
        t.refuses("0:);", 2);
        t.refuses("0:)(;", 2);
    }

    @Sentence(in = "Programs", says = "at most 5 are open at the same place")
    static void fiveScopesOpen(Trial t) {
        t.fits("0:((((()))));");
        t.fits("0:[1[2[3[4[5)))));");
        t.fits("0:{{{{{)))));");
        t.fits("0:(((((){)[9)))))((((()))));");
        t.refuses("0:(((((()))))));", 7);
        t.refuses("0:((((([1))))));", 7);
        t.refuses("0:((((({))))));", 7);
        t.refuses("0:[1{([2{()));", 9);
        t.refuses("0:((((()(()));", 9);
    }

    @Sentence(in = "Programs", says = "^, p and x stand only where a scope is open")
    static void onlyWhereAScopeIsOpen(Trial t) {
        for (String sign : new String[] {"^0", "p0", "x"}) {
            t.refuses("0:" + sign + ";", 2);
            t.refuses("0:" + sign + "();", 2);
            t.refuses("0:()" + sign + ";", 4);
            t.refuses("0:(())" + sign + ";", 6);
            t.fits("0:(" + sign + ");");
            t.fits("0:[1" + sign + "){" + sign + ");");
            t.fits("0:(()" + sign + ");");
            t.fits("0:(((((" + sign + ")))));");
        }
    }

    @Sentence(in = "Programs", says = "the instruction after z is none of ( [ { ) ^")
    static void instructionAfterZ(Trial t) {
        for (String sign : new String[] {"(", "[1", "{", ")", "^0"}) {
            t.refuses("0:(z" + sign + "));", 4);
        }
        t.refuses("0:z(y);", 3);
        for (String sign : new String[] {"+1", "-1", "w1", "y", "zy", "p0", "x", ">0", "<0", "?00", "!1"}) {
            t.fits("0:(z" + sign + ");");
        }
        t.fits("0:zy(y)zy();");
    }

    @Sentence(in = "Programs", says = "and there is one")
    static void zIsNotTheLast(Trial t) {
        t.refuses("0:z;", 3);
        t.refuses("0:zyz;", 5);
        t.refuses("0:zz;", 4);
        t.fits("0:zzy;");
        t.fits("0:" + FULL.substring(2) + "zy;");
        t.refuses("0:" + FULL.substring(1) + "z;", 26);
        t.refuses("0:" + FULL.substring(1) + "zy;", 26);
    }

    // Text

    @Sentence(in = "Text", says = "A buffer holds at most 60 characters.")
    static void sixtyCharacters(Trial t) {
        t.write("0:" + FULL + ";1:" + FULL + ";2:yyy");
        t.append(";", 60);
        t.dueThrow("append of a 61st", () -> t.x.append('y'), Trial.STATE);
        t.count(12, 60);
        t.due("execute()", () -> t.x.execute(), 3);
        t.program(0, -1, 24);
        t.program(1, -1, 24);
        t.program(2, -1, 3);
        t.write("0:" + FULL + ";1:" + FULL + ";2:yyyy");
        t.count(12, 60);
        t.dueThrow("execute()", () -> t.x.execute(), Trial.ARGUMENT);
        t.errorPosition(60);
    }

    @Sentence(in = "Text", says = "where braces mean zero or more repetitions")
    static void zeroOrMoreRepetitions(Trial t) {
        t.load("0:;");
        t.program(0, -1, 0);
        t.load("0:y;");
        t.program(0, -1, 1);
        t.load("0:;1:;2:;3:;4:;5:;0:;1:;2:;3:;4:;5:;0:;1:;2:;3:;4:;5:;0:y;");
        t.load("0:;1:;2:;3:;4:;5:;0:;1:;2:;3:;4:;5:;0:;1:;2:;3:;4:;5:;0:;1:;");
        t.program(0, -1, 0);
        t.load("#00;#11;#22;#33;#00;#11;#22;#33;#00;#11;#22;#33;#01;#12;#23;");
        t.channel(0, 0, 1);
        t.channel(3, 0, 3);
        t.refuses("", 0);
    }

    @Sentence(in = "Text", says = "The first kind of command replaces the instructions of a program")
    static void replacesInstructions(Trial t) {
        t.load("0:+1+2+3;1:-1;", "0:+4;");
        t.program(0, -1, 1);
        t.program(0, 0, code('+', 4));
        t.program(1, -1, 1);
        t.load("0:;");
        t.program(0, -1, 0);
        t.load("0:yyy;0:-7;");
        t.program(0, -1, 1);
        t.program(0, 0, code('-', 7));
    }

    @Sentence(in = "Text", says = "the second one sets the room of a channel, from 0 to 3")
    static void roomsFromZeroToThree(Trial t) {
        for (int channel = 0; channel < 4; channel++) {
            for (int room = 3; room >= 0; room--) {
                t.load("#" + channel + room + ";");
                t.channel(channel, 0, room);
            }
        }
        t.refuses("#04;", 2);
        t.refuses("#0/;", 2);
        t.refuses("#40;", 1);
        t.refuses("#/0;", 1);
    }

    @Sentence(in = "Text", says = "the first error is reported at its position")
    static void firstOfTwoErrors(Trial t) {
        t.refuses("0:yq!0;1:);7", 3);
        t.refuses("0:+1;1:);7:", 7);
        t.refuses("0:;#04;6", 5);
        t.refuses("0:()!0(", 5);
        t.refuses("0:z;q", 3);
    }

    @Sentence(in = "Text", says = "at a character that is not allowed")
    static void atTheCharacter(Trial t) {
        for (String wrong : new String[] {"a", "Y", "~", "*", "|", "]", "}", "@", "=", "%"}) {
            t.refuses(wrong + ":y;", 0);
            t.refuses("0" + wrong + "y;", 1);
            t.refuses("0:" + wrong + ";", 2);
            t.refuses("0:y" + wrong + ";", 3);
            t.refuses("0:+" + wrong + ";", 3);
            t.refuses("0:y;" + wrong, 4);
            t.refuses("#" + wrong + "0;", 1);
            t.refuses("#0" + wrong + ";", 2);
            t.refuses("#00" + wrong, 3);
        }
        t.refuses("0:y;;", 4);
        t.refuses("0::;", 2);
        t.refuses("0:0;", 2);
        t.refuses("0:#00;", 2);
        t.refuses("##;", 1);
        t.refuses("#00:", 3);
        t.refuses("#00<", 3);
        t.refuses("0;y;", 1);
        t.refuses("09y;", 1);
        t.refuses(":y;", 0);
        t.refuses(";", 0);
        t.refuses("00:y;", 1);
    }

    @Sentence(in = "Text", says = "where a ; is not allowed as long as a scope is open or behind z")
    static void semicolonTooEarly(Trial t) {
        t.refuses("0:(;", 3);
        t.refuses("0:[9;", 4);
        t.refuses("0:{y;", 4);
        t.refuses("0:((((();", 8);
        t.refuses("0:((((())));", 11);
        t.refuses("0:z;", 3);
        t.refuses("0:+1z;y;", 5);
        t.fits("0:((((()))));");
    }

    @Sentence(in = "Text", says = "at the first character of a twenty-fifth instruction")
    static void atTheTwentyFifthInstruction(Trial t) {
        t.refuses("0:" + FULL + "y;", 26);
        t.refuses("0:" + FULL + "+1;", 26);
        t.refuses("0:" + FULL + "+0;", 26);
        t.refuses("0:" + FULL + "?00;", 26);
        t.refuses("0:+1?00" + FULL + ";", 29);
        t.refuses("0:(" + FULL.substring(1) + ");", 26);
        t.refuses("0:y;1:" + FULL + "y;", 30);
        t.fits("0:?00" + FULL.substring(1) + ";");
    }

    @Sentence(in = "Text", says = "or at the length of the text if it ends too early")
    static void atTheLength(Trial t) {
        String text = "#01;3:(^2?01z+1[9<3>0p5x{!1)))-2;#33;";
        for (int length = 0; length < text.length(); length++) {
            String part = text.substring(0, length);
            if (part.endsWith(";")) {
                t.fits(part);
            } else {
                t.refuses(part, length);
            }
        }
        t.refuses("0:" + FULL, 26);
        t.refuses("0:" + FULL + ";1:" + FULL + ";2:yyyy", 60);
    }

    // Promises 1 to 5

    @Sentence(in = "Promise 1", says = "Creates a scheduler without tasks, whose programs have no instructions.")
    static void newScheduler(Trial t) {
        t.load("0:y;#03;");
        t.start(0, 0);
        t.save(1);
        t.write("q");
        Trial fresh = t.another();
        for (int what = 0; what <= 12; what++) {
            fresh.count(what, 0);
        }
        for (int program = 0; program < 6; program++) {
            fresh.program(program, -1, 0);
        }
        fresh.channel(0, 0, 0);
        fresh.next(200);
        fresh.queue();
        fresh.endings();
        fresh.dueThrow("task(0, 0)", () -> fresh.x.task(0, 0), Trial.INDEX);
        fresh.dueThrow("scope(0, 0)", () -> fresh.x.scope(0, 0), Trial.INDEX);
        fresh.dueThrow("restore()", () -> fresh.x.restore(), Trial.STATE);
    }

    @Sentence(in = "Promise 2", says = "Appends up to four characters to the buffer")
    static void noneToFourCharacters(Trial t) {
        t.append("", 0);
        t.append("5", 1);
        t.append(":+", 3);
        t.append("1-2", 6);
        t.append("w3!4", 10);
        t.append(";", 11);
        t.due("execute()", () -> t.x.execute(), 1);
        t.program(5, 0, code('+', 1));
        t.program(5, 1, code('-', 2));
        t.program(5, 2, code('w', 3));
        t.program(5, 3, code('!', 4));
    }

    @Sentence(in = "Promise 2", says = "from the most significant one to the least significant one")
    static void mostSignificantFirst(Trial t) {
        t.due("append", () -> t.x.append('0' << 24 | ':' << 16 | '+' << 8 | '7'), 4);
        t.due("append", () -> t.x.append(';' << 24), 5);
        t.due("execute()", () -> t.x.execute(), 1);
        t.program(0, 0, code('+', 7));
    }

    @Sentence(in = "Promise 2", says = "bytes that are 0 are skipped")
    static void zerosAreSkipped(Trial t) {
        t.due("append of nothing", () -> t.x.append(0), 0);
        t.due("append of first and last", () -> t.x.append('1' << 24 | ':'), 2);
        t.due("append of the second", () -> t.x.append('y' << 16), 3);
        t.due("append of the third", () -> t.x.append('y' << 8), 4);
        t.due("append of second and last", () -> t.x.append('+' << 16 | '1'), 6);
        t.due("append of the last", () -> t.x.append(';'), 7);
        t.due("execute()", () -> t.x.execute(), 1);
        t.program(1, -1, 3);
        t.program(1, 2, code('+', 1));
    }

    @Sentence(in = "Promise 2", says = "Returns the number of characters in the buffer.")
    static void numberOfCharacters(Trial t) {
        t.append("0:yy", 4);
        t.append("y", 5);
        t.append("", 5);
        t.dueThrow("append of a space", () -> t.x.append(' '), Trial.ARGUMENT);
        t.append(";", 6);
        t.due("execute()", () -> t.x.execute(), 1);
        t.append("1:", 2);
        t.reset(0);
        t.append(";", 3);
    }

    @Sentence(in = "Promise 2", says = "if a byte that is not 0 is not from 33 to 126")
    static void bytesFrom33To126(Trial t) {
        int made = 0;
        for (int shift = 24; shift >= 0; shift -= 8) {
            int s = shift;
            for (int wrong : new int[] {1, 32, 127, 128, 255}) {
                t.dueThrow("append(" + wrong + " << " + s + ")", () -> t.x.append(wrong << s), Trial.ARGUMENT);
                int others = Trial.pack("yyyy") & ~(255 << s);
                t.dueThrow("append(" + wrong + " << " + s + ", among others)", () -> t.x.append(others | wrong << s),
                    Trial.ARGUMENT);
            }
            for (int right : new int[] {33, 126}) {
                made++;
                t.due("append(" + right + " << " + s + ")", () -> t.x.append(right << s), made);
            }
        }
        t.count(12, 8);
    }

    @Sentence(in = "Promise 2", says = "if there would be more than 60 characters")
    static void wouldBeMoreThanSixty(Trial t) {
        t.write(FULL + FULL + "yyyyyyyy");
        t.count(12, 56);
        t.append("yyyy", 60);
        t.dueThrow("append of one to 60", () -> t.x.append('y'), Trial.STATE);
        t.append("", 60);
        for (int size = 57; size <= 59; size++) {
            Trial other = t.another();
            other.write(FULL + FULL + FULL.substring(60 - size + 12));
            String rest = FULL.substring(0, 60 - size);
            other.dueThrow("append of one too many to " + size, () -> other.x.append(Trial.pack(rest + "y")),
                Trial.STATE);
            other.count(12, size);
            other.append(rest, 60);
        }
    }

    @Sentence(in = "Promise 3", says = "Reads the text in the buffer and executes its commands in their order.")
    static void commandsInTheirOrder(Trial t) {
        t.load("#01;#03;#02;1:+1;1:+2;1:+3;");
        t.channel(0, 0, 2);
        t.program(1, 0, code('+', 3));
    }

    @Sentence(in = "Promise 3", says = "The buffer is empty afterwards, also if an exception is thrown")
    static void bufferIsEmptyAfterwards(Trial t) {
        t.write("0:<0;");
        t.due("execute()", () -> t.x.execute(), 1);
        t.count(12, 0);
        t.write("1:y;q");
        t.dueThrow("execute() of a wrong text", () -> t.x.execute(), Trial.ARGUMENT);
        t.count(12, 0);
        t.start(0, 0);
        t.write("1:yy;#01;");
        t.dueThrow("execute() while a task is live", () -> t.x.execute(), Trial.STATE);
        t.count(12, 0);
        t.load("2:y;");
        t.program(1, -1, 0);
        t.program(2, -1, 1);
    }

    @Sentence(in = "Promise 3", says = "then no command is executed")
    static void noCommandIsExecuted(Trial t) {
        t.load("0:+1>0;#02;");
        t.write("0:;#03;1:y;2");
        t.dueThrow("execute() of a wrong text", () -> t.x.execute(), Trial.ARGUMENT);
        t.program(0, -1, 2);
        t.program(1, -1, 0);
        t.channel(0, 0, 2);
        t.start(0, 0);
        t.write("0:;2:y;#11;3:y;");
        t.dueThrow("execute() while a task is live", () -> t.x.execute(), Trial.STATE);
        t.runAll(3);
        t.write("#13;0:;#00;2:y;#33;");
        t.dueThrow("execute() with less room than numbers", () -> t.x.execute(), Trial.STATE);
        t.program(0, -1, 2);
        t.program(2, -1, 0);
        t.program(3, -1, 0);
        t.channel(0, 0, 2);
        t.channel(1, 0, 0);
        t.channel(3, 0, 0);
    }

    @Sentence(in = "Promise 3", says = "Returns the number of commands.")
    static void numberOfCommands(Trial t) {
        t.load("0:y;");
        t.load("#00;0:;");
        t.load("0:;0:;0:;0:;0:;0:;0:;0:;0:;0:;0:;0:;0:;0:;0:;0:;0:;0:;0:;0:;");
    }

    @Sentence(in = "Promise 3", says = "if the room of a channel is set while a task is live")
    static void roomWhileATaskIsLive(Trial t) {
        t.load("0:(p1);1:w1<0;2:y;");
        t.start(0, 0);
        for (int turns : new int[] {0, 2, 2, 1, 1}) {
            if (turns > 0) {
                t.run(turns, turns);
            }
            t.write("#00;");
            t.dueThrow("execute() of the same room", () -> t.x.execute(), Trial.STATE);
            t.write("#13;");
            t.dueThrow("execute() of another channel", () -> t.x.execute(), Trial.STATE);
            t.load("2:yy;");
        }
        t.cancel(0, 0);
        t.run(2, 2);
        t.count(1, 1);
        t.write("#13;");
        t.dueThrow("execute() before the last task ends", () -> t.x.execute(), Trial.STATE);
        t.runAll(2);
        t.count(1, 0);
        t.load("#13;");
        t.channel(1, 0, 3);
    }

    @Sentence(in = "Promise 3", says = "or less than the number of the numbers that are in it")
    static void roomLessThanNumbers(Trial t) {
        t.load("#03;#12;0:>0>0>1;");
        t.start(0, 0);
        t.runAll(4);
        for (String text : new String[] {"#00;", "#01;", "#10;", "#02;#01;", "#03;#10;"}) {
            t.write(text);
            t.dueThrow("execute() of " + text, () -> t.x.execute(), Trial.STATE);
        }
        t.channel(0, 0, 3);
        t.channel(1, 0, 2);
        t.load("#02;#11;");
        t.channel(0, 0, 2);
        t.channel(1, 0, 1);
        t.content(0, 0, 0);
        t.load("#03;");
        t.reset(0);
        t.load("#00;");
        t.channel(0, 0, 0);
    }

    @Sentence(in = "Promise 3", says = "if there is an error in the text")
    static void errorBeforeRoom(Trial t) {
        t.load("0:<0;");
        t.start(0, 0);
        t.write("#03;0:q;");
        t.dueThrow("execute() with both", () -> t.x.execute(), Trial.ARGUMENT);
        t.errorPosition(6);
    }

    @Sentence(in = "Promise 4", says = "Returns the index of the character")
    static void indexOfTheCharacter(Trial t) {
        t.refuses("6", 0);
        t.refuses("0:+1+2q", 6);
        String text = "0:" + FULL + ";1:" + FULL + ";2:yyyq";
        t.refuses(text, 59);
        t.refuses(text.replace("q", "y"), 60);
    }

    @Sentence(in = "Promise 4", says = "or -1 if that text had no error or execute was not called")
    static void noError(Trial t) {
        t.errorPosition(-1);
        t.write("q");
        t.errorPosition(-1);
        t.dueThrow("execute()", () -> t.x.execute(), Trial.ARGUMENT);
        t.errorPosition(0);
        t.write("0:y;");
        t.errorPosition(0);
        t.due("execute()", () -> t.x.execute(), 1);
        t.errorPosition(-1);
    }

    @Sentence(in = "Promise 4", says = "in the text that execute read most recently")
    static void mostRecentText(Trial t) {
        t.write("0:y7");
        t.dueThrow("execute()", () -> t.x.execute(), Trial.ARGUMENT);
        t.errorPosition(3);
        t.write("#7");
        t.dueThrow("execute()", () -> t.x.execute(), Trial.ARGUMENT);
        t.errorPosition(1);
        t.start(0, 0);
        t.write("#00;");
        t.dueThrow("execute() of a text without an error", () -> t.x.execute(), Trial.STATE);
        t.errorPosition(-1);
    }

    @Sentence(in = "Promise 5", says = "from 0, or -1 for the number of instructions")
    static void placesFromMinusOne(Trial t) {
        t.load("5:+1-2;");
        t.program(5, -1, 2);
        t.program(5, 0, code('+', 1));
        t.program(5, 1, code('-', 2));
        t.program(4, -1, 0);
    }

    @Sentence(in = "Promise 5",
        says = "100 times the character code of the instruction plus its operand, 0 without one")
    static void partOfAProgram(Trial t) {
        t.load("0:+1-9w1[9(^0p5x));1:{y)zyy>0<3!9;");
        int[] first = {4301, 4509, 11901, 9109, 4000, 9400, 11205, 12000, 4100, 4100};
        int[] second = {12300, 12100, 4100, 12200, 12100, 12100, 6200, 6003, 3309};
        t.program(0, -1, first.length);
        for (int place = 0; place < first.length; place++) {
            t.program(0, place, first[place]);
        }
        t.program(1, -1, second.length);
        for (int place = 0; place < second.length; place++) {
            t.program(1, place, second[place]);
        }
    }

    @Sentence(in = "Promise 5", says = "the operand of ? is 10 times the first channel plus the second one")
    static void operandOfChoice(Trial t) {
        t.load("0:?00?01?10?33?30?03;");
        int[] want = {6300, 6301, 6310, 6333, 6330, 6303};
        for (int place = 0; place < want.length; place++) {
            t.program(0, place, want[place]);
        }
    }

    @Sentence(in = "Promise 5", says = "if there is no such program or place")
    static void noSuchProgramOrPlace(Trial t) {
        t.load("0:yy;5:y;");
        int[][] wrong = {{-1, -1}, {6, -1}, {6, 0}, {0, -2}, {0, 2}, {5, 1}, {4, 0}, {0, Integer.MAX_VALUE},
            {0, Integer.MIN_VALUE}, {Integer.MAX_VALUE, 0}, {Integer.MIN_VALUE, 0}};
        for (int[] each : wrong) {
            t.dueThrow("program(" + each[0] + ", " + each[1] + ")", () -> t.x.program(each[0], each[1]), Trial.INDEX);
        }
    }
}
