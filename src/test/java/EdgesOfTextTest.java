/** Each sentence of the promises 28 to 33 with the cases at its edges. */
public final class EdgesOfTextTest {
    public static void main(String[] args) {
        Sentences.promises(28, 33);
        append();
        clear();
        errorPosition();
        errorKind();
        execute();
        executeStops();
        executeRefused();
        undo();
        undoRefused();
        Sentences.end("EdgesOfTextTest");
    }

    private static IcePlant typed(String text) {
        IcePlant x = new IcePlant();
        Stories.type(x, text);
        return x;
    }

    private static void append() {
        Sentences.promise(28);
        Sentences.test("Appends a character to the buffer.");
        IcePlant x = typed("h");
        x.append('7');
        x.execute();
        Check.due("what has been appended is executed", x.total(0), 7);
        Sentences.test("`code`: its code, 32 to 126");
        Check.range("code", 32, 126, Check.ARGUMENT, value -> new IcePlant().append(value));
        Check.argument("a code that is h but for higher bits", () -> new IcePlant().append('h' + 65536));
        Sentences.test("Returns the length of the text.");
        IcePlant y = new IcePlant();
        for (int length = 1; length <= 120; length++) {
            Check.due("length", y.append("h1;".charAt((length - 1) % 3)), length);
        }
        Sentences.test("Throws `IllegalStateException` if the text has 120 characters");
        Check.state("a 121st character", () -> y.append('h'));
        Check.state("and again", () -> y.append('~'));
        Check.due("the text has stayed", y.errorPosition(), 120);
        Check.due("its length", y.clear(), 120);
        Check.due("then there is place", y.append('h'), 1);
        IcePlant z = typed("x".repeat(119));
        Check.due("with 119 characters there is place", z.append(' '), 120);
        Sentences.test("Throws `IllegalArgumentException` if code is out of range");
        Check.argument("31", () -> y.append(31));
        Check.argument("127", () -> y.append(127));
        Check.argument("with 120 characters too, as it is listed first", () -> z.append(31));
        Check.argument("with 120 characters too, as it is listed first", () -> z.append(127));
        Check.due("refused calls append nothing", y.clear(), 1);
        Check.due("nothing is saved", y.total(15), 0);
    }

    private static void clear() {
        Sentences.promise(29);
        Sentences.test("Empties the buffer.");
        IcePlant x = typed("h1;x");
        Check.due("an error", x.errorPosition(), 3);
        x.clear();
        Check.due("no error in the empty text", x.errorPosition(), -1);
        Check.due("no command in the empty text", x.execute(), 0);
        Stories.type(x, "h2");
        Check.due("only what has been appended since", x.execute(), 1);
        Check.due("time", x.total(0), 2);
        Sentences.test("Returns the length that the text had.");
        Check.due("empty", new IcePlant().clear(), 0);
        Check.due("one", typed(" ").clear(), 1);
        Check.due("119", typed("h".repeat(119)).clear(), 119);
        IcePlant y = typed("h".repeat(120));
        Check.due("120", y.clear(), 120);
        Check.due("empty now", y.clear(), 0);
    }

    private static void error(String text, int position, int kind) {
        IcePlant x = typed(text);
        Check.due("errorPosition of " + text, x.errorPosition(), position);
        Check.due("errorKind of " + text, x.errorKind(), kind);
        Check.due("errorPosition once more of " + text, x.errorPosition(), position);
        Check.due("the text stays: " + text, x.clear(), text.length());
    }

    private static void errorPosition() {
        Sentences.promise(30);
        Sentences.test("Returns the position of the error of the text.");
        error("x", 0, 1);
        error("hx", 1, 1);
        error("h1;h2;h3;x;y", 9, 1);
        error("h1;".repeat(39) + "h1x", 119, 1);
        error(" ".repeat(120), 0, 1);
        Telling.changesNothing("errorPosition", Stories::full, IcePlant::errorPosition);
        Sentences.test("Returns the position; NONE if there is no error.");
        error("", IcePlant.NONE, 0);
        error("h1", IcePlant.NONE, 0);
        error("h1;".repeat(39) + "h12", IcePlant.NONE, 0);
        IcePlant x = typed("h");
        Check.due("h", x.errorPosition(), 1);
        x.append(';');
        Check.due("h;", x.errorPosition(), 1);
        x.clear();
        x.append('h');
        for (int digits = 1; digits <= 6; digits++) {
            x.append('9');
            Check.due(digits + " digits", x.errorPosition(), IcePlant.NONE);
        }
        x.append('9');
        Check.due("7 digits", x.errorPosition(), 7);
        x.append('9');
        Check.due("8 digits", x.errorPosition(), 7);
    }

    private static void errorKind() {
        Sentences.promise(31);
        Sentences.test("Returns the kind of the error of the text.");
        error("h,", 1, 1);
        error("h1234567", 7, 2);
        error("h", 1, 3);
        IcePlant x = typed("h");
        Check.due("asked before the position", x.errorKind(), 3);
        Stories.type(x, "1");
        Check.due("of the text that there is now", x.errorKind(), 0);
        Stories.type(x, "x");
        Check.due("and now", x.errorKind(), 1);
        x.clear();
        Check.due("and of the empty text", x.errorKind(), 0);
        Telling.changesNothing("errorKind", Stories::full, IcePlant::errorKind);
        Sentences.test("Returns 1 to 3; 0 if there is no error.");
        error("", -1, 0);
        error("m0,1", -1, 0);
        error("m0,1,", 4, 1);
        error("m0,1234567", 9, 2);
        error("m0,", 3, 3);
        error("h1;".repeat(40), 120, 3);
        error("h".repeat(120), 1, 1);
        error("h1;".repeat(37) + "h12345678", 118, 2);
    }

    private static void execute() {
        Sentences.promise(32);
        Sentences.test("Undoable, as one call, also if no command is executed.");
        Telling.Story open = () -> {
            IcePlant x = Stories.small();
            x.clear();
            return x;
        };
        String[] texts = {"", "h1", "h0", "c0,6000", "h2;o1,5,6!;c0,8;p0,9;m0,1", "h1;h49;h1"};
        for (String text : texts) {
            Telling.undoable("execute " + text, open, x -> {
                Stories.type(x, text);
                return x.execute();
            });
        }
        IcePlant x = typed("h1;h1;h1");
        x.execute();
        Check.due("three commands save one state", x.total(15), 1);
        x.undo();
        Check.due("all three are taken back", x.total(0), 0);
        Check.due("the buffer is not brought back", x.clear(), 0);
        Sentences.test("Returns the number of commands that are executed.");
        Check.due("none in an empty text", new IcePlant().execute(), 0);
        Check.due("one", typed("h1").execute(), 1);
        IcePlant y = typed("h1;".repeat(39) + "h48");
        Check.due("forty", y.execute(), 40);
        Check.due("their hours", y.total(0), 87);
        Check.due("none, as the first would throw", typed("h0;h1").execute(), 0);
        Check.due("one, as the second would throw", typed("h1;h0;h1").execute(), 1);
        Check.due("all but the last", typed("h1;h1;h0").execute(), 2);
    }

    private static IcePlant withAll() {
        IcePlant x = new IcePlant();
        x.addSilo(2, 0, 0);
        x.addSilo(1, 0, 0);
        x.addBoat(0);
        return x;
    }

    /** The first commands are executed; the one behind them would throw, and h9 behind it is not reached. */
    private static void stops(String first, int executed, String refused) {
        IcePlant x = withAll();
        Stories.type(x, first + refused + ";h9");
        Check.due("execute " + first + refused, x.execute(), executed);
        Check.due("the rest is not executed", x.total(0) < 9 ? 1 : 0, 1);
        Check.due("the buffer is empty", x.clear(), 0);
        IcePlant y = withAll();
        Stories.type(y, first + "h9");
        Check.due("execute " + first + "h9", y.execute(), executed + 1);
    }

    private static void executeStops() {
        Sentences.promise(32);
        Sentences.test("Executes the commands of the text one after the other, up to the first one whose method would throw");
        String[] alone = {"h0", "h49", "h999999", "o1,1,1", "o0,0,1", "o0,10000,1", "o0,1,0", "o0,1,201!", "c1,0",
            "p1,1", "p0,0", "m0,0", "m2,0", "m0,2", "m1,0", "m0,1", "m000005,000005"};
        for (String refused : alone) {
            stops("", 0, refused);
        }
        String[] behindOne = {"m1,0", "m0,0", "h49"};
        for (String refused : behindOne) {
            stops("h1;", 1, refused);
        }
        stops("h1;m0,1;", 2, "m0,1");
        stops("p0,999999;", 1, "p0,2");
        stops("p0,999999;p0,1;", 2, "p0,1");
        stops("o0,1,9;".repeat(14), 14, "o1,1,9");
        String[] allowed = {"h1", "h48", "h000048", "o0,1,1", "o0,9999,200!", "c0,0", "c0,999999", "p0,1", "p0,999999"};
        for (String command : allowed) {
            IcePlant x = withAll();
            Stories.type(x, command);
            Check.due("execute " + command, x.execute(), 1);
        }
        IcePlant x = withAll();
        Stories.type(x, "o0,60,9!;o0,70,8;c0,777;h1;p0,40");
        x.execute();
        int[][] due = {{0, 60, 100, 9, 1, 1}, {0, 70, 0, 7, 0, 0}};
        for (int order = 0; order < 2; order++) {
            for (int property = 0; property < 6; property++) {
                Check.due("order " + order + ", property " + property, x.orderProperty(order, property), due[order][property]);
            }
        }
        Check.due("catch", x.boat(0, 0), 777);
        Check.due("debt", x.boat(0, 1), 1460);
        executeAtLimits();
    }

    private static void executeAtLimits() {
        IcePlant orders = withAll();
        for (int order = 0; order < 19; order++) {
            orders.order(0, 1, 9, false);
        }
        Stories.type(orders, "o0,1,9;o0,1,9");
        Check.due("the place of the 20th open order", orders.execute(), 1);
        Check.due("open orders", orders.total(10), 20);
        IcePlant late = Stories.late();
        Stories.type(late, "h2");
        Check.due("time 10001", late.execute(), 0);
        Stories.type(late, "h1;h1");
        Check.due("time 10000", late.execute(), 1);
        Check.due("time", late.total(0), 10000);
        IcePlant placed = Stories.placed();
        Stories.type(placed, "c0,1;o0,1,9;c0,2");
        Check.due("200 orders have been placed", placed.execute(), 1);
    }

    private static void executeRefused() {
        Sentences.promise(32);
        Sentences.test("Throws `IllegalStateException` if the text has an error (the buffer stays as it is then)");
        String[] texts = {"x", "h", "h1;", "h1;x", "h1234567", "h1;h", "o0,1;h1", " h1", "h1 "};
        for (String text : texts) {
            IcePlant x = typed(text);
            Check.state("execute " + text, x::execute);
            Check.due("no command is executed", x.total(0), 0);
            Check.due("nothing is saved", x.total(15), 0);
            Check.due("the buffer stays", x.clear(), text.length());
        }
        Telling.changesNothing("execute with an error", Stories::full, x -> {
            Check.state("execute", x::execute);
            return 0;
        });
        IcePlant y = typed("h1;");
        Check.state("execute", y::execute);
        Stories.type(y, "h2");
        Check.due("the text can be gone on with", y.execute(), 2);
        Check.due("time", y.total(0), 3);
    }

    private static void undo() {
        Sentences.promise(33);
        Sentences.test("Restores the state that was saved last, and removes it from the saved states.");
        IcePlant x = new IcePlant();
        for (int hours = 1; hours <= 8; hours++) {
            x.pass(hours);
        }
        int time = 36;
        Sentences.test("Returns the number of saved states that remain.");
        for (int hours = 8; hours >= 1; hours--) {
            Check.due("undo", x.undo(), hours - 1);
            time -= hours;
            Check.due("time", x.total(0), time);
            Check.due("saved", x.total(15), hours - 1);
        }
        Check.due("the state of the beginning", time, 0);
        IcePlant y = new IcePlant();
        for (int round = 0; round < 20; round++) {
            y.pass(2);
            y.pass(1);
            Check.due("one more and one less", y.undo(), Math.min(round + 1, 7));
            Check.due("time", y.total(0), 2 * round + 2);
        }
        for (int left = 6; left >= 0; left--) {
            Check.due("back", y.undo(), left);
        }
        Check.due("the oldest that was kept", y.total(0), 26);
        Check.state("no more", y::undo);
    }

    private static void undoRefused() {
        Sentences.promise(33);
        Sentences.test("Throws `IllegalStateException` if no state is saved");
        IcePlant x = new IcePlant();
        Check.state("a new plant", x::undo);
        x.addBoat(0);
        Check.due("one", x.undo(), 0);
        Check.state("none is left", x::undo);
        Check.state("and again", x::undo);
        Check.due("nothing has changed", x.total(8), 0);
        Check.argument("a refused call saves nothing", () -> x.addBoat(-1));
        Check.state("none", x::undo);
        for (int boat = 0; boat < 8; boat++) {
            x.addBoat(boat);
        }
        x.set(0, 1);
        for (int left = 7; left >= 0; left--) {
            Check.due("undo", x.undo(), left);
        }
        Check.state("the ninth", x::undo);
        Check.due("the first call can not be taken back", x.total(8), 1);
    }
}
