/** Each sentence of the promises 9 to 13 with the cases at its edges. */
public final class EdgesOfBoatsTest {
    public static void main(String[] args) {
        Sentences.promises(9, 13);
        addBoat();
        setCatch();
        order();
        orderArguments();
        orderLimits();
        cancel();
        cancelRefused();
        pay();
        payRefused();
        Sentences.end("EdgesOfBoatsTest");
    }

    private static IcePlant withBoats(int count) {
        IcePlant x = new IcePlant();
        for (int boat = 0; boat < count; boat++) {
            x.addBoat(boat);
        }
        return x;
    }

    private static void addBoat() {
        Sentences.promise(9);
        Sentences.test("Adds a boat.");
        IcePlant x = new IcePlant();
        x.addBoat(123);
        int[] due = {123, 0, 0, 0};
        for (int property = 0; property < 4; property++) {
            Check.due("property " + property, x.boat(0, property), due[property]);
        }
        x.pay(0, 5);
        x.undo();
        x.undo();
        x.addBoat(7);
        Check.due("nothing is left of the boat that has been taken back", x.boat(0, 1), 0);
        Sentences.test("Undoable.");
        Telling.undoable("addBoat", Stories::small, y -> y.addBoat(1000000));
        Sentences.test("`catchMass`: its catch, 0 to 1000000");
        Check.range("catchMass", 0, 1000000, Check.ARGUMENT, value -> new IcePlant().addBoat(value));
        IcePlant y = new IcePlant();
        y.addBoat(0);
        y.addBoat(1000000);
        Check.due("the lowest", y.boat(0, 0), 0);
        Check.due("the highest", y.boat(1, 0), 1000000);
        Sentences.test("Returns the number of the boat.");
        IcePlant z = new IcePlant();
        for (int boat = 0; boat < 8; boat++) {
            Check.due("boat", z.addBoat(100 - boat), boat);
            Check.due("its catch", z.boat(boat, 0), 100 - boat);
        }
        Sentences.test("Throws `IllegalStateException` if there are 8 boats");
        Check.state("a ninth boat", () -> z.addBoat(0));
        Check.due("boats", z.total(8), 8);
        z.undo();
        Check.due("with 7 boats there is a place again", z.addBoat(1), 7);
        Check.state("then there is none", () -> z.addBoat(1000000));
        Sentences.test("Throws `IllegalArgumentException` if catchMass is out of range");
        Check.argument("above", () -> y.addBoat(1000001));
        Check.argument("below", () -> y.addBoat(-1));
        Check.argument("with 8 boats too, as it is listed first", () -> z.addBoat(-1));
        Check.argument("with 8 boats too, as it is listed first", () -> z.addBoat(1000001));
        Check.due("refused calls add nothing", y.total(8), 2);
        Check.due("refused calls save nothing", y.total(15), 2);
    }

    private static void setCatch() {
        Sentences.promise(10);
        Sentences.test("Changes the catch of a boat.");
        IcePlant x = withBoats(3);
        x.setCatch(1, 9000);
        Check.due("the boat before it", x.boat(0, 0), 0);
        Check.due("the boat itself", x.boat(1, 0), 9000);
        Check.due("the boat after it", x.boat(2, 0), 2);
        Check.due("it gets the discount now", x.quote(1, 100, 1), 1800);
        Sentences.test("Undoable.");
        Telling.undoable("setCatch", Stories::small, y -> y.setCatch(1, 9000));
        Telling.undoable("setCatch to the same", Stories::small, y -> y.setCatch(0, 6000));
        Sentences.test("`boat`: number of a boat");
        Check.range("boat of three", 0, 2, Check.INDEX, value -> withBoats(3).setCatch(value, 0));
        Check.range("boat of eight", 0, 7, Check.INDEX, value -> withBoats(8).setCatch(value, 0));
        Sentences.test("`catchMass`: 0 to 1000000");
        Check.range("catchMass", 0, 1000000, Check.ARGUMENT, value -> withBoats(1).setCatch(0, value));
        Sentences.test("Returns the previous catch.");
        IcePlant z = withBoats(1);
        int[] catches = {0, 1000000, 1000000, 1, 999999, 0, 0};
        for (int i = 1; i < catches.length; i++) {
            Check.due("to " + catches[i], z.setCatch(0, catches[i]), catches[i - 1]);
        }
        Sentences.test("Throws `IndexOutOfBoundsException` if there is no such boat");
        Check.index("without boats", () -> new IcePlant().setCatch(0, 0));
        Check.index("with 7 boats", () -> withBoats(7).setCatch(7, 0));
        Check.index("the boat is listed before the catch", () -> z.setCatch(1, -1));
        Sentences.test("Throws `IllegalArgumentException` if catchMass is out of range");
        Check.argument("above", () -> z.setCatch(0, 1000001));
        Check.argument("below", () -> z.setCatch(0, -1));
        Check.due("the catch has stayed", z.boat(0, 0), 0);
    }

    private static void order() {
        Sentences.promise(11);
        Sentences.test("Places an order, which is open.");
        IcePlant x = withBoats(2);
        x.order(1, 70, 8, true);
        int[] due = {1, 70, 0, 8, 1, 0, 0};
        for (int property = 0; property < 7; property++) {
            Check.due("property " + property, x.orderProperty(0, property), due[property]);
        }
        Check.due("open orders", x.total(10), 1);
        Check.due("open orders of its boat", x.boat(1, 3), 1);
        Check.due("open orders of the other boat", x.boat(0, 3), 0);
        x.undo();
        x.order(0, 71, 9, false);
        int[] next = {0, 71, 0, 9, 0, 0, 0};
        for (int property = 0; property < 7; property++) {
            Check.due("after undo, property " + property, x.orderProperty(0, property), next[property]);
        }
        IcePlant y = Stories.withBoats(0);
        y.order(0, 9999, 9, false);
        y.pass(1);
        y.undo();
        y.undo();
        y.order(0, 60, 9, false);
        Check.due("nothing is left of the order that has been taken back", y.orderProperty(0, 2), 0);
        Sentences.test("Undoable.");
        Telling.undoable("order", Stories::small, z -> z.order(1, 9999, 200, false));
        Telling.undoable("a whole order", Stories::small, z -> z.order(0, 1, 1, true));
        Sentences.test("`whole`: whether it is a whole order");
        IcePlant z = Stories.withBoats(0);
        Check.due("a whole order", z.orderProperty(z.order(0, 101, 9, true), 4), 1);
        Check.due("waits until there is enough", z.pass(1), 0);
        Check.due("a partial order", z.orderProperty(z.order(0, 101, 9, false), 4), 0);
        z.cancel(0);
        z.set(1, 0);
        Check.due("takes what there is", z.pass(1), 100);
        Sentences.test("Returns the number of the order.");
        IcePlant n = withBoats(2);
        Check.due("the first", n.order(1, 1, 1, false), 0);
        Check.due("the second", n.order(0, 1, 1, true), 1);
        n.cancel(1);
        Check.due("cancelled orders count", n.order(0, 1, 1, true), 2);
        n.pass(1);
        Check.due("expired orders count", n.order(0, 1, 1, true), 3);
        n.undo();
        Check.due("orders that have been taken back do not", n.order(0, 1, 1, true), 3);
    }

    private static void orderArguments() {
        Sentences.promise(11);
        Sentences.test("`boat`: number of a boat");
        Check.range("boat of three", 0, 2, Check.INDEX, value -> withBoats(3).order(value, 1, 1, false));
        Check.range("boat of eight", 0, 7, Check.INDEX, value -> withBoats(8).order(value, 1, 1, true));
        Sentences.test("`wanted`: wanted mass, 1 to 9999");
        Check.range("wanted", 1, 9999, Check.ARGUMENT, value -> withBoats(1).order(0, value, 1, false));
        IcePlant x = withBoats(1);
        x.order(0, 9999, 200, false);
        x.order(0, 1, 1, false);
        Check.due("the highest", x.orderProperty(0, 1), 9999);
        Check.due("the lowest", x.orderProperty(1, 1), 1);
        Sentences.test("`hours`: hours left, 1 to 200");
        Check.range("hours", 1, 200, Check.ARGUMENT, value -> withBoats(1).order(0, 1, value, true));
        Check.due("the highest", x.orderProperty(0, 3), 200);
        Check.due("the lowest", x.orderProperty(1, 3), 1);
        x.pass(1);
        Check.due("1 hour has passed: expired", x.orderProperty(1, 5), 2);
        for (int i = 0; i < 4; i++) {
            x.pass(48);
        }
        x.pass(6);
        Check.due("199 hours have passed: open", x.orderProperty(0, 5), 0);
        x.pass(1);
        Check.due("200 hours have passed: expired", x.orderProperty(0, 5), 2);
        Sentences.test("Throws `IndexOutOfBoundsException` if there is no such boat");
        Check.index("without boats", () -> new IcePlant().order(0, 1, 1, true));
        Check.index("with 7 boats", () -> withBoats(7).order(7, 1, 1, true));
        Check.index("the boat is listed before wanted", () -> x.order(1, 0, 1, true));
        Check.index("the boat is listed before hours", () -> x.order(-1, 1, 201, true));
        Sentences.test("Throws `IllegalArgumentException` if wanted or hours is out of range");
        Check.argument("wanted alone, below", () -> x.order(0, 0, 1, true));
        Check.argument("wanted alone, above", () -> x.order(0, 10000, 200, false));
        Check.argument("hours alone, below", () -> x.order(0, 1, 0, true));
        Check.argument("hours alone, above", () -> x.order(0, 9999, 201, false));
        Check.argument("both", () -> x.order(0, 0, 0, true));
        Check.due("refused calls place nothing", x.total(9), 2);
    }

    private static void orderLimits() {
        Sentences.promise(11);
        Sentences.test("Throws `IllegalStateException` if 20 orders are open, or 200 orders have been placed");
        IcePlant x = withBoats(2);
        for (int order = 0; order < 20; order++) {
            Check.due("order", x.order(order % 2, 1, 200, order % 3 == 0), order);
        }
        Check.state("a 21st open order", () -> x.order(0, 1, 1, false));
        Check.state("a 21st open order of the other boat", () -> x.order(1, 1, 1, true));
        Check.index("the boat is listed first", () -> x.order(2, 1, 1, true));
        Check.argument("wanted is listed first", () -> x.order(0, 0, 1, true));
        Check.argument("hours is listed first", () -> x.order(0, 1, 0, true));
        Check.due("orders", x.total(9), 20);
        x.undo();
        Check.due("with 19 there is a place", x.order(0, 1, 1, false), 19);
        x.cancel(0);
        Check.due("a cancelled order gives its place", x.order(0, 1, 1, false), 20);
        Check.state("and no more than that", () -> x.order(0, 1, 1, false));
        x.pass(1);
        Check.due("two have expired", x.total(10), 18);
        x.order(0, 1, 1, false);
        x.order(0, 1, 1, false);
        Check.state("20 are open", () -> x.order(0, 1, 1, false));
        x.addSilo(1, 0, 0);
        x.pass(1);
        Check.due("two have expired, one is complete", x.total(10), 17);
        Check.due("a complete order gives its place", x.order(0, 1, 1, false), 23);
        IcePlant y = Stories.placed();
        Check.due("orders", y.total(9), 200);
        Check.due("none is open", y.total(10), 0);
        Check.state("the order 200", () -> y.order(0, 1, 1, false));
        Check.index("the boat is listed first", () -> y.order(1, 1, 1, false));
        Check.argument("wanted is listed first", () -> y.order(0, 10000, 1, false));
        Check.argument("hours is listed first", () -> y.order(0, 1, 201, false));
        Stories.type(y, "o0,1,1");
        Check.due("in a text too", y.execute(), 0);
        y.undo();
        y.undo();
        Check.due("20 are open again without the last hour", y.total(10), 20);
        Check.state("both limits at once", () -> y.order(0, 1, 1, false));
        y.undo();
        Check.due("199 have been placed", y.total(9), 199);
        Check.due("the order 199", y.order(0, 1, 1, false), 199);
    }

    private static void cancel() {
        Sentences.promise(12);
        Sentences.test("Cancels an order.");
        IcePlant x = Stories.withBoats(5, 6);
        x.order(0, 60, 9, false);
        x.order(1, 60, 9, false);
        x.order(0, 60, 9, false);
        x.cancel(1);
        Check.due("its state", x.orderProperty(1, 5), 3);
        Check.due("the order before it", x.orderProperty(0, 6), 0);
        Check.due("the order after it moves up", x.orderProperty(2, 6), 1);
        Check.due("it has no place", x.orderProperty(1, 6), -1);
        Check.due("open orders", x.total(10), 2);
        Check.due("open orders of its boat", x.boat(1, 3), 0);
        Check.due("orders", x.total(9), 3);
        x.pass(3);
        Check.due("nothing is delivered to it", x.orderProperty(1, 2), 0);
        Check.due("its hours stay", x.orderProperty(1, 3), 9);
        x.pass(9);
        Check.due("it does not expire", x.orderProperty(1, 5), 3);
        Sentences.test("Undoable.");
        Telling.undoable("cancel", Stories::small, y -> y.cancel(3));
        Sentences.test("Returns its remaining mass.");
        IcePlant y = Stories.withBoats(0);
        y.order(0, 9999, 9, false);
        y.order(0, 1, 9, false);
        y.order(0, 101, 9, false);
        Check.due("the highest", y.cancel(0), 9999);
        Check.due("the lowest", y.cancel(1), 1);
        y.pass(1);
        Check.due("what deliveries have left", y.cancel(2), 1);
    }

    private static void cancelRefused() {
        Sentences.promise(12);
        Sentences.test("`order`: number of an order");
        Check.range("order of three", 0, 2, Check.INDEX, value -> {
            IcePlant x = withBoats(1);
            x.order(0, 1, 1, false);
            x.order(0, 1, 1, false);
            x.order(0, 1, 1, false);
            return x.cancel(value);
        });
        Sentences.test("Throws `IndexOutOfBoundsException` if there is no such order");
        Check.index("without orders", () -> withBoats(1).cancel(0));
        Check.index("the order -1 of 200", () -> Stories.placed().cancel(-1));
        Check.index("the order 200 of 200", () -> Stories.placed().cancel(200));
        Sentences.test("Throws `IllegalStateException` if the order is not open");
        IcePlant x = Stories.busy();
        Check.state("a complete one", () -> x.cancel(0));
        Check.state("an expired one", () -> x.cancel(1));
        Check.state("a cancelled one", () -> x.cancel(2));
        Check.due("the states stay", x.orderProperty(0, 5) * 100 + x.orderProperty(1, 5) * 10 + x.orderProperty(2, 5), 123);
        Check.due("an open one", x.cancel(3), 500);
        Check.state("now it is not", () -> x.cancel(3));
        Check.state("the order 199 of 200", () -> Stories.placed().cancel(199));
    }

    private static void pay() {
        Sentences.promise(13);
        Sentences.test("Records a payment of a boat, which reduces its debt.");
        IcePlant x = Stories.withBoats(0, 0);
        x.order(0, 50, 9, false);
        x.order(1, 50, 9, false);
        x.pass(1);
        x.pay(1, 700);
        Check.due("its debt", x.boat(1, 1), 50);
        Check.due("the debt of the other boat", x.boat(0, 1), 750);
        Check.due("payments", x.total(12), 700);
        Check.due("prices", x.total(11), 1500);
        x.pay(1, 50);
        Check.due("its debt is paid", x.boat(1, 1), 0);
        x.pay(1, 1);
        Check.due("more than it owes", x.boat(1, 1), -1);
        Check.due("payments", x.total(12), 751);
        Sentences.test("Undoable.");
        Telling.undoable("pay", Stories::small, y -> y.pay(0, 3));
        Sentences.test("`boat`: number of a boat");
        Check.range("boat of three", 0, 2, Check.INDEX, value -> withBoats(3).pay(value, 1));
        Check.range("boat of eight", 0, 7, Check.INDEX, value -> withBoats(8).pay(value, 1));
        Sentences.test("`amount`: 1 to 1000000");
        Check.range("amount", 1, 1000000, Check.ARGUMENT, value -> withBoats(1).pay(0, value));
        Sentences.test("Returns its debt after the payment.");
        Check.due("of the boat that owes 750", x.pay(0, 1), 749);
        Check.due("nothing is owed", x.pay(0, 749), 0);
        Check.due("less than nothing", x.pay(0, 250), -250);
        Check.due("of the other boat", x.pay(1, 1), -2);
    }

    private static void payRefused() {
        Sentences.promise(13);
        Sentences.test("Throws `IndexOutOfBoundsException` if there is no such boat");
        IcePlant x = withBoats(2);
        Check.index("without boats", () -> new IcePlant().pay(0, 1));
        Check.index("with 7 boats", () -> withBoats(7).pay(7, 1));
        Check.index("the boat is listed before the amount", () -> x.pay(2, 0));
        Check.index("the boat is listed before the amount", () -> x.pay(-1, 1000001));
        Sentences.test("Throws `IllegalArgumentException` if amount is out of range");
        Check.argument("below", () -> x.pay(0, 0));
        Check.argument("above", () -> x.pay(0, 1000001));
        Check.argument("negative", () -> x.pay(0, -5));
        Check.due("nothing is paid", x.total(12), 0);
        Sentences.test("Throws `IllegalStateException` if its debt would become less than -1000000");
        Check.due("from 0 to the lowest debt", x.pay(0, 1000000), -1000000);
        Check.state("the least below it", () -> x.pay(0, 1));
        Check.state("the most below it", () -> x.pay(0, 1000000));
        Check.argument("the amount is listed first", () -> x.pay(0, 0));
        Check.argument("the amount is listed first", () -> x.pay(0, 1000001));
        Check.due("its debt stays", x.boat(0, 1), -1000000);
        Check.due("payments", x.total(12), 1000000);
        x.pay(1, 1);
        Check.state("from -1", () -> x.pay(1, 1000000));
        Check.due("from -1 to the lowest debt", x.pay(1, 999999), -1000000);
        IcePlant y = Stories.withBoats(0);
        y.order(0, 50, 9, false);
        y.pass(1);
        Check.due("from a debt of 750", y.pay(0, 1000000), -999250);
        Check.state("751 more", () -> y.pay(0, 751));
        Check.due("750 more", y.pay(0, 750), -1000000);
        Stories.type(y, "p0,1");
        Check.due("in a text too", y.execute(), 0);
    }
}
