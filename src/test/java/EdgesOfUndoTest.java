/** Each sentence about undo and errors with the cases at its edges; RefusalTest has the refused calls one by one. */
public final class EdgesOfUndoTest {
    private record Named(String call, Telling.Act act) {
    }

    private static final Named[] UNDOABLE = {
        new Named("addSilo", x -> x.addSilo(1, 0, 0)),
        new Named("setRule", x -> x.setRule(0, 2)),
        new Named("setStrength", x -> x.setStrength(0, 99)),
        new Named("setTemperature", x -> x.setTemperature(5, 44)),
        new Named("set", x -> x.set(4, 999)),
        new Named("move", x -> x.move(0, 1)),
        new Named("pass", x -> x.pass(1)),
        new Named("addBoat", x -> x.addBoat(1)),
        new Named("setCatch", x -> x.setCatch(0, 5)),
        new Named("order", x -> x.order(0, 1, 1, false)),
        new Named("cancel", x -> x.cancel(3)),
        new Named("pay", x -> x.pay(1, 1)),
        new Named("execute", x -> {
            x.clear();
            return x.execute();
        })};

    /** Calls that are allowed and leave everything as it is. */
    private static final Named[] WITHOUT_CHANGE = {
        new Named("setRule", x -> x.setRule(0, x.silo(0, 1))),
        new Named("setStrength", x -> x.setStrength(1, x.silo(1, 2))),
        new Named("setTemperature", x -> x.setTemperature(7, 10)),
        new Named("set", x -> x.set(6, x.setting(6))),
        new Named("setCatch", x -> x.setCatch(1, x.boat(1, 0))),
        new Named("execute of an empty text", x -> {
            x.clear();
            return x.execute();
        }),
        new Named("execute of a first command that would throw", x -> {
            x.clear();
            Stories.type(x, "h0");
            return x.execute();
        })};

    private static final Named[] SAVING_NOTHING = {
        new Named("silo", x -> x.silo(0, 0)),
        new Named("block", x -> x.block(0, 0, 0)),
        new Named("boat", x -> x.boat(0, 0)),
        new Named("orderProperty", x -> x.orderProperty(0, 6)),
        new Named("receipt", x -> x.receipt(0, 0)),
        new Named("account", x -> x.account(0, 0)),
        new Named("findAccount", x -> x.findAccount(0, 0)),
        new Named("setting", x -> x.setting(0)),
        new Named("total", x -> x.total(0)),
        new Named("meanAge", x -> (long) x.meanAge()),
        new Named("massAfter", x -> x.massAfter(48)),
        new Named("completeIn", x -> x.completeIn(3)),
        new Named("bestRule", x -> x.bestRule(0, 24)),
        new Named("quote", x -> x.quote(0, 1, 0)),
        new Named("append", x -> x.append('h')),
        new Named("errorPosition", IcePlant::errorPosition),
        new Named("errorKind", IcePlant::errorKind),
        new Named("clear", IcePlant::clear)};

    public static void main(String[] args) {
        Sentences.open("UNDO AND ERRORS");
        eachSuccessfulCall();
        mostSaved();
        state();
        bufferIsNoPart();
        refusedCalls();
        severalExceptions();
        constants();
        Sentences.free("Ahead of the calls");
        Sentences.end("EdgesOfUndoTest");
    }

    private static void eachSuccessfulCall() {
        Sentences.test("Each successful call of a method that is marked as undoable saves the state from before the call, also if");
        for (Named undoable : UNDOABLE) {
            Check.due(undoable.call, Telling.after(Stories::small, 1, undoable.act).total(15), 6);
        }
        for (Named undoable : WITHOUT_CHANGE) {
            IcePlant x = Telling.after(Stories::small, 2, undoable.act);
            Check.due(undoable.call + " twice, without a change", x.total(15), 7);
            Check.due("undo", x.undo(), 6);
            Check.due("undo", x.undo(), 5);
        }
        for (Named query : SAVING_NOTHING) {
            Check.due(query.call, Telling.after(Stories::small, 1, query.act).total(15), 5);
        }
        IcePlant x = Stories.small();
        x.pass(1);
        x.undo();
        Check.due("undo saves nothing either", x.total(15), 5);
        Check.due("so that it can not be taken back", x.undo(), 4);
        Check.due("the undo after it goes on backwards", x.total(0), 0);
    }

    private static void mostSaved() {
        Sentences.test("At most 8 states are saved; if one more is saved, the oldest one is dropped.");
        for (Named undoable : UNDOABLE) {
            IcePlant x = Stories.small();
            x.set(0, 1);
            x.set(0, 2);
            x.set(0, 3);
            Check.due("eight", x.total(15), 8);
            undoable.act.on(x);
            Check.due("still eight after " + undoable.call, x.total(15), 8);
            for (int left = 7; left >= 0; left--) {
                Check.due("undo", x.undo(), left);
            }
            Check.state("the oldest one is dropped", x::undo);
            Check.due("it was the state without silos", x.total(7), 1);
            Check.due("the next one has no boats", x.total(8), 0);
        }
        for (int calls = 7; calls <= 26; calls++) {
            IcePlant x = new IcePlant();
            for (int call = 1; call <= calls; call++) {
                x.pass(1);
            }
            Check.due("saved of " + calls, x.total(15), Math.min(calls, 8));
            for (int undone = 1; undone <= Math.min(calls, 8); undone++) {
                x.undo();
                Check.due("undo " + undone + " of " + calls, x.total(0), calls - undone);
            }
            Check.state("no more of " + calls, x::undo);
        }
    }

    private static void state() {
        Sentences.test("The state consists of everything but the buffer and the saved states.");
        for (Named undoable : UNDOABLE) {
            if (!undoable.call.equals("execute")) {
                Telling.undoable(undoable.call, Stories::small, undoable.act);
            }
        }
        // Everything that an undo brings back, at once: a text that changes all that a text can change.
        Telling.Story before = () -> {
            IcePlant x = Stories.small();
            x.clear();
            return x;
        };
        Telling.undoable("execute", before, x -> {
            Stories.type(x, "h5;o0,5,6;o1,50,60!;c0,9999;p1,77;m0,1;h40;c1,3;o1,2,3;p0,5");
            return x.execute();
        });
        Telling.undoable("pass with a full plant", EdgesOfUndoTest::fullWithFewStates, x -> x.pass(48));
        IcePlant x = Stories.small();
        x.undo();
        x.undo();
        x.undo();
        Check.due("without the boats and all that came after them", x.total(8) + x.total(9) + x.total(13) + x.total(0), 0);
        Check.due("their numbers begin again", x.addBoat(1), 0);
        Check.due("those of the orders too", x.order(0, 50, 9, false), 0);
        x.pass(1);
        Check.due("those of the blocks too", x.block(0, 0, 0), 1);
        Check.due("those of the accounts too", x.findAccount(0, 0), 0);
        Check.due("the first code again", x.receipt(0, 4), 50 * 31 + 750);
    }

    /** A full silo, receipts, accounts and open orders behind three saved states. */
    private static IcePlant fullWithFewStates() {
        IcePlant x = new IcePlant();
        x.addSilo(30, 1, 3);
        x.addSilo(9, 0, 1);
        x.addBoat(5000);
        Stories.type(x, "h30;o0,900,30;o0,80,20!;o0,9999,200!;h5;m0,1;p0,9;o0,9999,90;h4;o0,500,40");
        x.execute();
        return x;
    }

    private static void bufferIsNoPart() {
        Sentences.test("The state consists of everything but the buffer");
        IcePlant x = new IcePlant();
        Stories.type(x, "h1;");
        x.pass(3);
        Stories.type(x, "h2");
        x.undo();
        Check.due("the text stays after undo", x.errorPosition(), IcePlant.NONE);
        Check.due("both of its commands", x.execute(), 2);
        Check.due("time", x.total(0), 3);
        x.undo();
        Check.due("the text of execute does not come back", x.clear(), 0);
        Stories.type(x, "h");
        x.pass(1);
        x.clear();
        x.undo();
        Check.due("nor does what has been cleared", x.clear(), 0);
        Sentences.test("and the saved states.");
        x.pass(1);
        x.pass(1);
        x.undo();
        Check.due("the saved state that is older stays", x.total(15), 1);
    }

    private static void refusedCalls() {
        Sentences.test("A call that throws an exception changes nothing.");
        Named[] refused = {
            new Named("addSilo", x -> x.addSilo(31, 0, 0)), new Named("setRule", x -> x.setRule(0, 4)),
            new Named("setStrength", x -> x.setStrength(0, 101)), new Named("setTemperature", x -> x.setTemperature(0, 46)),
            new Named("set", x -> x.set(0, 201)), new Named("move", x -> x.move(1, 1)), new Named("pass", x -> x.pass(49)),
            new Named("addBoat", x -> x.addBoat(1000001)), new Named("setCatch", x -> x.setCatch(0, 1000001)),
            new Named("order", x -> x.order(0, 1, 201, true)), new Named("cancel", x -> x.cancel(0)),
            new Named("pay", x -> x.pay(0, 1000001)), new Named("append", x -> x.append(127))};
        for (Named call : refused) {
            Telling.changesNothing(call.call, Stories::small, x -> {
                String thrown = Check.outcome(() -> call.act.on(x));
                Check.due(call.call + " is refused with " + thrown, thrown.endsWith("Exception") ? 1 : 0, 1);
                return 0;
            });
        }
        Telling.changesNothing("execute with an error", Stories::full, x -> {
            Check.state("execute", x::execute);
            return 0;
        });
        Telling.changesNothing("undo", Stories::empty, x -> {
            Check.state("undo", x::undo);
            return 0;
        });
    }

    private static void severalExceptions() {
        Sentences.test("If several exceptions apply to a call, the one that is listed first is thrown.");
        IcePlant x = Stories.full();
        Check.argument("addSilo: argument, state", () -> x.addSilo(31, 0, 0));
        Check.index("setRule: index, argument", () -> x.setRule(5, 4));
        Check.index("move: index, argument", () -> x.move(5, 5));
        Check.index("move: index, state", () -> x.move(0, 5));
        Check.argument("move: argument, state", () -> x.move(0, 0));
        Check.argument("addBoat: argument, state", () -> x.addBoat(-1));
        Check.index("order: index, argument, state", () -> x.order(8, 0, 0, true));
        Check.argument("order: argument, state", () -> x.order(0, 0, 1, true));
        Check.index("order: index, state", () -> x.order(8, 1, 1, true));
        Check.argument("append: argument, state", () -> x.append(31));
        Check.index("quote: index, argument", () -> x.quote(8, 10000, 2));
        IcePlant y = Stories.late();
        Check.argument("pass: argument, and the time would be too great", () -> y.pass(49));
        IcePlant z = Stories.busy();
        Check.index("pay: index, argument", () -> z.pay(2, 0));
        Check.argument("pay: argument, and the debt would be too small", () -> z.pay(1, 1000001));
        Check.state("pay: state alone", () -> z.pay(1, 1));
    }

    private static void constants() {
        Sentences.test("The constants: `NONE = -1`: There is no such result.");
        Check.due("NONE", IcePlant.NONE, -1);
        IcePlant x = Stories.busy();
        Check.due("an order that is not open has no place", x.orderProperty(0, 6), -1);
        Check.due("no account", x.findAccount(1, 0), -1);
        Check.due("it would not be complete in 48 hours", nextOrder(x), -1);
        Check.due("no error", x.errorPosition(), -1);
    }

    private static int nextOrder(IcePlant x) {
        x.set(1, 0);
        return x.completeIn(3);
    }
}
