/** Promises 28 to 33: the buffer, its errors, its execution, and undo. */
public final class TextTest {
    public static void main(String[] args) {
        append();
        clear();
        textsWithoutError();
        errors();
        executeCommands();
        executeMove();
        executeStops();
        executeErrors();
        executeIsOneCall();
        executeEachRefusal();
        undo();
        undoKeepsBuffer();
        undoRestoresAll();
        Check.end("TextTest");
    }

    private static void type(IcePlant x, String text) {
        for (int i = 0; i < text.length(); i++) {
            x.append(text.charAt(i));
        }
    }

    private static void append() {
        IcePlant x = new IcePlant();
        Check.argument("code 31", () -> x.append(31));
        Check.argument("code 127", () -> x.append(127));
        Check.argument("code -1", () -> x.append(-1));
        Check.argument("code of h and 65536", () -> x.append(65536 + 'h'));
        Check.due("refused calls append nothing", x.clear(), 0);
        for (int length = 1; length <= 120; length++) {
            Check.due("length", x.append(length % 2 == 0 ? 32 : 126), length);
        }
        Check.argument("the code before the length", () -> x.append(31));
        Check.state("121 characters", () -> x.append(32));
        Check.due("no state is saved", x.total(15), 0);
        Check.due("length", x.clear(), 120);
        Check.due("from the beginning", x.append(32), 1);
    }

    private static void clear() {
        IcePlant x = new IcePlant();
        Check.due("empty", x.clear(), 0);
        type(x, "h1;");
        Check.due("three", x.clear(), 3);
        Check.due("empty again", x.clear(), 0);
        Check.due("no error any more", x.errorKind(), 0);
        Check.due("no state is saved", x.total(15), 0);
        type(x, "h2");
        Check.due("only the new text", x.execute(), 1);
        Check.due("time", x.total(0), 2);
    }

    private static void check(String text, int position, int kind) {
        IcePlant x = new IcePlant();
        type(x, text);
        Check.due("position in " + text, x.errorPosition(), position);
        Check.due("kind in " + text, x.errorKind(), kind);
        Check.due("position again in " + text, x.errorPosition(), position);
        Check.due("the text stays: " + text, x.clear(), text.length());
        IcePlant y = new IcePlant();
        type(y, text);
        Check.due("kind asked first in " + text, y.errorKind(), kind);
        Check.due("then position in " + text, y.errorPosition(), position);
    }

    private static void textsWithoutError() {
        String[] texts = {"", "h1", "h000001", "h999999", "o0,1,2", "o0,1,2!", "c0,1", "p999999,000000", "m3,4",
            "h1;h2", "o1,2,3!;h1;o1,2,3;c1,2;p1,2;m1,2"};
        for (String text : texts) {
            check(text, -1, 0);
        }
        check("h1;".repeat(39) + "h12", -1, 0);
    }

    private static void errors() {
        String[] unfit = {"#x", "#;", "#H1", "#1", "# h1", "h#;", "h#,", "h1#,", "h1#!", "h1# ", "h1#h1", "h1;#;", "h1;#!",
            "o#,", "o0#;", "o0#!", "o0,#,", "o0,0#!", "o0,0#;", "o0,0,#!", "o0,0,0#,", "o0,0,0!#!", "o0,0,0!#1",
            "c0#;", "c0,#;", "c0,0#,", "c0,0#!", "p0#!", "p0,0#,", "m0#-", "m#-", "h1#c", "h123456#,", "o0,0,0!#,",
            "o0,0,1#/", "h1#:", "h#/", "h#:", "c0,0;o#,"};
        for (String text : unfit) {
            check(text.replace("#", ""), text.indexOf('#'), 1);
        }
        String[] seventh = {"h123456#7", "h000000#0", "o123456#7", "o0,123456#7", "o0,0,123456#7;h1",
            "c123456#7", "c1,123456#7x", "p1,123456#7", "m123456#7", "h1;h123456#7"};
        for (String text : seventh) {
            check(text.replace("#", ""), text.indexOf('#'), 2);
        }
        String[] early = {"h", "o", "c", "p", "m", "o0", "o0,", "o0,0", "o0,0,", "c0", "c0,", "p0", "p0,", "m0", "m0,",
            "h1;", "o0,0,0!;", "h1;h", "c123456", "h1;h1;"};
        for (String text : early) {
            check(text, text.length(), 3);
        }
        check("h1;".repeat(40), 120, 3);
        check("h1;x;h", 3, 1);
        check("h;h1234567", 1, 1);
    }

    private static void executeCommands() {
        IcePlant x = new IcePlant();
        x.addSilo(3, 0, 0);
        x.addSilo(3, 0, 0);
        x.addBoat(1);
        x.addBoat(2);
        type(x, "h2;m0,1;o1,60,10!;o0,000070,20;c1,777;p1,5;h1");
        Check.due("all commands", x.execute(), 7);
        Check.due("time", x.total(0), 3);
        Check.due("catch", x.boat(1, 0), 777);
        Check.due("the whole order", x.orderProperty(0, 4), 1);
        Check.due("its wanted mass", x.orderProperty(0, 1), 60);
        Check.due("its boat", x.orderProperty(0, 0), 1);
        Check.due("its hours", x.orderProperty(0, 3), 10);
        Check.due("the partial order", x.orderProperty(1, 4), 0);
        Check.due("its wanted mass", x.orderProperty(1, 1), 70);
        Check.due("its boat", x.orderProperty(1, 0), 0);
        Check.due("payments", x.total(12), 5);
        Check.due("debt", x.boat(1, 1), 1500 - 5);
        Check.due("the moved block is on top of the other silo", x.total(6), 2);
        Check.due("delivered", x.total(2), 200);
        Check.due("the buffer is empty", x.clear(), 0);
    }

    private static void executeMove() {
        IcePlant x = new IcePlant();
        x.addSilo(3, 0, 0);
        x.addSilo(3, 0, 0);
        type(x, "h1;m0,1;m0,1;m1,0;m1,1;h1");
        Check.due("three moves, and none from a silo to itself", x.execute(), 4);
        Check.due("back again", x.block(0, 0, 0), 0);
        Check.due("moved", x.block(1, 0, 0), 1);
        Check.due("time", x.total(0), 1);
    }

    private static void executeStops() {
        IcePlant x = new IcePlant();
        x.addBoat(1);
        type(x, "c0,5;h3;c1,6;c0,7");
        Check.due("up to the first that throws", x.execute(), 2);
        Check.due("the next is not executed", x.boat(0, 0), 5);
        Check.due("time", x.total(0), 3);
        Check.due("the buffer is empty", x.clear(), 0);
        type(x, "h49");
        Check.due("the first throws", x.execute(), 0);
        Check.due("time", x.total(0), 3);
        Check.due("a state is saved all the same", x.total(15), 3);
        Check.due("the buffer is empty", x.clear(), 0);
        Check.due("an empty text", x.execute(), 0);
        Check.due("and a state", x.total(15), 4);
    }

    private static void executeErrors() {
        IcePlant x = new IcePlant();
        type(x, "h1;");
        Check.state("an error", x::execute);
        Check.due("nothing is executed", x.total(0), 0);
        Check.due("nothing is saved", x.total(15), 0);
        type(x, "h2");
        Check.due("the buffer has stayed", x.execute(), 2);
        Check.due("time", x.total(0), 3);
    }

    private static void executeIsOneCall() {
        IcePlant x = new IcePlant();
        x.addBoat(1);
        type(x, "h1;h1;p0,5;c0,9");
        x.execute();
        Check.due("one state", x.total(15), 2);
        Check.due("undo takes all back", x.undo(), 1);
        Check.due("time", x.total(0), 0);
        Check.due("catch", x.boat(0, 0), 1);
        Check.due("payments", x.total(12), 0);
        Check.due("the buffer stays empty", x.clear(), 0);
    }

    private static void executeEachRefusal() {
        String[] refused = {"h0", "h49", "o1,1,1", "o0,0,1", "o0,10000,1", "o0,1,0", "o0,1,201", "c1,0", "c0,999999;x",
            "p1,1", "p0,0", "m0,0", "m0,1", "m0,2", "m2,0", "m1,0"};
        for (String text : refused) {
            IcePlant x = new IcePlant();
            x.addSilo(1, 0, 0);
            x.addSilo(1, 0, 0);
            x.addBoat(0);
            type(x, text);
            if (text.endsWith("x")) {
                Check.state(text, x::execute);
            } else {
                Check.due(text, x.execute(), 0);
            }
        }
        IcePlant x = new IcePlant();
        x.addBoat(0);
        type(x, "p0,999999;p0,1;p0,1;h1");
        Check.due("the lowest debt", x.execute(), 2);
        for (int i = 0; i < 208; i++) {
            x.pass(48);
        }
        type(x, "h16;h1");
        Check.due("the limit of time", x.execute(), 1);
        Check.due("time", x.total(0), 10000);
        IcePlant y = new IcePlant();
        y.addBoat(0);
        type(y, "o0,1,200" + ";o0,1,9".repeat(16));
        Check.due("17 orders", y.execute(), 17);
        type(y, "o0,1,9;o0,1,9;o0,1,9;o0,1,9;h1");
        Check.due("at most 20 are open", y.execute(), 3);
        Check.due("time", y.total(0), 0);
    }

    private static void undo() {
        IcePlant x = new IcePlant();
        Check.state("nothing is saved", x::undo);
        for (int i = 1; i <= 12; i++) {
            x.pass(i);
            Check.due("saved", x.total(15), Math.min(i, 8));
        }
        int time = 78;
        for (int i = 12; i > 4; i--) {
            Check.due("undo", x.undo(), i - 5);
            time -= i;
            Check.due("time", x.total(0), time);
        }
        Check.state("the older ones are dropped", x::undo);
        Check.due("nothing has changed", x.total(0), 10);
        x.pass(1);
        x.pass(1);
        Check.due("undo again", x.undo(), 1);
        x.pass(5);
        Check.due("another way", x.total(0), 16);
        Check.due("undo", x.undo(), 1);
        Check.due("undo", x.undo(), 0);
        Check.due("time", x.total(0), 10);
    }

    private static void undoKeepsBuffer() {
        IcePlant x = new IcePlant();
        x.pass(1);
        type(x, "h1");
        x.undo();
        Check.due("the buffer is no part of the state", x.clear(), 2);
    }

    private static void undoRestoresAll() {
        IcePlant x = new IcePlant();
        x.addSilo(9, 1, 5);
        x.addBoat(6000);
        x.order(0, 120, 30, false);
        x.pass(1);
        StringBuilder before = told(x);
        x.pass(30);
        x.undo();
        x.set(3, 5);
        x.undo();
        x.setTemperature(4, 4);
        x.undo();
        x.cancel(0);
        x.undo();
        x.pay(0, 9);
        x.undo();
        x.addSilo(3, 3, 3);
        x.undo();
        x.addBoat(3);
        x.undo();
        StringBuilder after = told(x);
        if (!after.toString().contentEquals(before)) {
            Check.report("all there is", after.toString(), before.toString());
        }
        Check.due("temperature", x.setTemperature(4, 9), 10);
    }

    private static StringBuilder told(IcePlant x) {
        StringBuilder all = new StringBuilder();
        for (int property = 0; property < 16; property++) {
            all.append(x.total(property)).append(' ');
            all.append(property < 8 ? x.setting(property) : 0).append(' ');
        }
        for (int i = 0; i < 4; i++) {
            for (int property = 0; property < 7; property++) {
                int item = i;
                int p = property;
                all.append(Check.outcome(() -> x.silo(item, p))).append(' ');
                all.append(Check.outcome(() -> x.block(0, item, p))).append(' ');
                all.append(Check.outcome(() -> x.boat(item, p))).append(' ');
                all.append(Check.outcome(() -> x.orderProperty(item, p))).append(' ');
                all.append(Check.outcome(() -> x.receipt(item, p))).append(' ');
                all.append(Check.outcome(() -> x.account(item, p))).append(' ');
            }
        }
        return all;
    }
}
