/** Promises 9 to 13: boats, their catches and payments, orders, and how an hour serves them. */
public final class BoatsTest {
    public static void main(String[] args) {
        addBoat();
        setCatch();
        orderArguments();
        orderLimits();
        cancel();
        pay();
        sequenceByNumber();
        sequenceByCatch();
        sequenceByHours();
        sequenceByShare();
        shareNeedsLongNumbers();
        sequenceIsThatOfTheBeginning();
        servedInSequence();
        creditLimit();
        wholeOrders();
        oldestBlockFirst();
        pricesOfBlocks();
        bands();
        expiry();
        receiptCodes();
        Check.end("BoatsTest");
    }

    private static IcePlant plant(int capacity, int... catches) {
        IcePlant x = new IcePlant();
        x.addSilo(capacity, 0, 0);
        for (int load : catches) {
            x.addBoat(load);
        }
        return x;
    }

    private static void addBoat() {
        IcePlant x = new IcePlant();
        Check.argument("catch -1", () -> x.addBoat(-1));
        Check.argument("catch 1000001", () -> x.addBoat(1000001));
        Check.due("refused calls save nothing", x.total(15), 0);
        for (int boat = 0; boat < 8; boat++) {
            Check.due("boat", x.addBoat(boat == 0 ? 0 : 1000000 - boat), boat);
        }
        Check.argument("the argument before the number of boats", () -> x.addBoat(-1));
        Check.state("ninth boat", () -> x.addBoat(0));
        Check.due("boats", x.total(8), 8);
        Check.due("saved", x.total(15), 8);
        Check.due("catch", x.boat(0, 0), 0);
        Check.due("last catch", x.boat(7, 0), 999993);
        Check.due("debt", x.boat(7, 1), 0);
        x.undo();
        Check.due("the highest catch", x.addBoat(1000000), 7);
        Check.due("the highest catch", x.boat(7, 0), 1000000);
    }

    private static void setCatch() {
        IcePlant x = new IcePlant();
        Check.index("no boat", () -> x.setCatch(0, 0));
        x.addBoat(12);
        x.addBoat(13);
        Check.index("boat -1", () -> x.setCatch(-1, 0));
        Check.index("boat 2", () -> x.setCatch(2, 0));
        Check.index("the boat before the catch", () -> x.setCatch(2, -1));
        Check.argument("catch -1", () -> x.setCatch(0, -1));
        Check.argument("catch 1000001", () -> x.setCatch(0, 1000001));
        Check.due("refused calls save nothing", x.total(15), 2);
        Check.due("previous", x.setCatch(1, 1000000), 13);
        Check.due("previous", x.setCatch(1, 0), 1000000);
        Check.due("now", x.boat(1, 0), 0);
        Check.due("the other boat", x.boat(0, 0), 12);
        Check.due("each call saves", x.total(15), 4);
        x.undo();
        Check.due("after undo", x.boat(1, 0), 1000000);
    }

    private static void orderArguments() {
        IcePlant x = new IcePlant();
        Check.index("no boat", () -> x.order(0, 1, 1, true));
        x.addBoat(0);
        x.addBoat(0);
        Check.index("boat -1", () -> x.order(-1, 1, 1, true));
        Check.index("boat 2", () -> x.order(2, 1, 1, true));
        Check.index("the boat first", () -> x.order(2, 0, 0, true));
        Check.argument("wanted 0", () -> x.order(0, 0, 1, true));
        Check.argument("wanted 10000", () -> x.order(0, 10000, 1, true));
        Check.argument("hours 0", () -> x.order(0, 1, 0, true));
        Check.argument("hours 201", () -> x.order(0, 1, 201, true));
        Check.argument("negative", () -> x.order(0, -1, -1, true));
        Check.due("refused calls place nothing", x.total(9), 0);
        Check.due("refused calls save nothing", x.total(15), 2);
        Check.due("first", x.order(0, 1, 200, true), 0);
        Check.due("second", x.order(1, 9999, 1, false), 1);
        int[][] due = {{0, 1, 0, 200, 1, 0, 0}, {1, 9999, 0, 1, 0, 0, 1}};
        for (int order = 0; order < 2; order++) {
            for (int property = 0; property < 7; property++) {
                Check.due("order " + order + " " + property, x.orderProperty(order, property), due[order][property]);
            }
        }
        Check.due("saved", x.total(15), 4);
        x.undo();
        Check.due("after undo", x.total(9) * 10 + x.total(10), 11);
    }

    private static void orderLimits() {
        IcePlant x = new IcePlant();
        x.addBoat(0);
        for (int i = 0; i < 20; i++) {
            Check.due("order", x.order(0, 1, 200, false), i);
        }
        Check.state("21 open orders", () -> x.order(0, 1, 1, false));
        Check.argument("the argument before the number of orders", () -> x.order(0, 0, 1, false));
        Check.due("open", x.total(10), 20);
        Check.due("open of the boat", x.boat(0, 3), 20);
        x.cancel(7);
        Check.due("a place is free again", x.order(0, 1, 200, false), 20);
        Check.state("20 are open again", () -> x.order(0, 1, 1, false));
        for (int i = 21; i < 200; i++) {
            x.cancel(i - 1);
            Check.due("order", x.order(0, 1, 1, false), i);
        }
        x.cancel(0);
        Check.state("200 have been placed", () -> x.order(0, 1, 1, false));
        Check.due("orders", x.total(9), 200);
        Check.due("open", x.total(10), 19);
        Check.due("the last one", x.orderProperty(199, 6), 18);
        Check.index("no order 200", () -> x.orderProperty(200, 0));
        x.undo();
        Check.due("open after undo", x.total(10), 20);
    }

    private static void cancel() {
        IcePlant x = plant(30, 0);
        Check.index("no order", () -> x.cancel(0));
        x.order(0, 250, 9, false);
        x.order(0, 70, 1, true);
        x.order(0, 70, 9, true);
        Check.index("order -1", () -> x.cancel(-1));
        Check.index("order 3", () -> x.cancel(3));
        Check.due("remaining of an order without deliveries", x.cancel(2), 70);
        Check.state("a second time", () -> x.cancel(2));
        Check.due("state", x.orderProperty(2, 5), 3);
        Check.due("no place in the sequence", x.orderProperty(2, 6), -1);
        Check.due("hours stay", x.orderProperty(2, 3), 9);
        x.pass(1);
        Check.state("an expired one", () -> x.cancel(1));
        Check.due("saved", x.total(15), 7);
        Check.due("remaining", x.cancel(0), 150);
        Check.due("delivered stays", x.orderProperty(0, 2), 100);
        Check.due("nothing is delivered any more", x.pass(3), 0);
        Check.due("hours left stay", x.orderProperty(0, 3), 8);
        x.undo();
        x.undo();
        Check.due("open again", x.orderProperty(0, 5), 0);
        Check.due("the sequence again", x.orderProperty(0, 6), 0);
        Check.due("goes on", x.pass(2), 150);
        Check.state("a complete one", () -> x.cancel(0));
    }

    private static void pay() {
        IcePlant x = new IcePlant();
        Check.index("no boat", () -> x.pay(0, 1));
        x.addBoat(0);
        x.addBoat(0);
        Check.index("boat -1", () -> x.pay(-1, 1));
        Check.index("boat 2", () -> x.pay(2, 1));
        Check.index("the boat before the amount", () -> x.pay(2, 0));
        Check.argument("amount 0", () -> x.pay(0, 0));
        Check.argument("amount 1000001", () -> x.pay(0, 1000001));
        Check.due("debt", x.pay(0, 1), -1);
        Check.state("below the lowest debt", () -> x.pay(0, 1000000));
        Check.due("to the lowest debt", x.pay(0, 999999), -1000000);
        Check.argument("the amount before the debt", () -> x.pay(0, 0));
        Check.state("1 less", () -> x.pay(0, 1));
        Check.due("the other boat", x.pay(1, 1000000), -1000000);
        Check.due("payments", x.total(12), 2000000);
        Check.due("saved", x.total(15), 5);
        Check.due("prices do not change", x.total(11), 0);
        x.undo();
        Check.due("debt after undo", x.boat(1, 1), 0);
        Check.due("payments after undo", x.total(12), 1000000);
    }

    private static void placesInSequence(String what, IcePlant x, int... places) {
        for (int order = 0; order < places.length; order++) {
            Check.due(what + ": place of order " + order, x.orderProperty(order, 6), places[order]);
        }
    }

    private static void sequenceByNumber() {
        IcePlant x = plant(30, 1, 2, 3);
        x.order(0, 60, 5, false);
        x.order(2, 30, 1, false);
        x.order(1, 10, 3, false);
        placesInSequence("by number", x, 0, 1, 2);
        Check.due("100 delivered", x.pass(1), 100);
        Check.due("the first", x.orderProperty(0, 5), 1);
        Check.due("the second", x.orderProperty(1, 5), 2);
        placesInSequence("afterwards", x, -1, -1, 0);
    }

    private static void sequenceByCatch() {
        IcePlant x = plant(30, 5, 7, 7, 0);
        x.set(2, 1);
        x.order(3, 50, 9, false);
        x.order(2, 50, 9, false);
        x.order(0, 50, 9, false);
        x.order(1, 50, 9, false);
        placesInSequence("by catch", x, 3, 0, 2, 1);
        x.pass(1);
        placesInSequence("two are complete", x, 1, -1, 0, -1);
        x.setCatch(3, 6);
        placesInSequence("another catch", x, 0, -1, 1, -1);
    }

    private static void sequenceByHours() {
        IcePlant x = plant(30, 5, 7);
        x.set(2, 2);
        x.set(1, 1);
        x.order(0, 50, 9, false);
        x.order(1, 50, 4, false);
        x.order(0, 50, 9, false);
        x.order(1, 50, 4, false);
        x.order(1, 50, 5, false);
        placesInSequence("by hours", x, 3, 0, 4, 1, 2);
        x.pass(1);
        placesInSequence("an hour later", x, 2, -1, 3, 0, 1);
        x.order(0, 50, 3, false);
        placesInSequence("equal hours", x, 3, -1, 4, 0, 2, 1);
    }

    private static void sequenceByShare() {
        IcePlant x = plant(30, 100, 200, 0);
        x.set(2, 3);
        x.set(1, 1);
        x.order(0, 100, 9, false);
        x.order(1, 200, 9, false);
        x.order(2, 1, 9, false);
        x.order(1, 199, 9, false);
        placesInSequence("by share", x, 1, 2, 3, 0);
        x.pass(1);
        Check.due("the greatest share is served", x.orderProperty(3, 2), 50);
        x.set(2, 0);
        x.pass(1);
        Check.due("the first is served", x.orderProperty(0, 2), 50);
        x.set(2, 3);
        placesInSequence("by the remaining masses", x, 0, 2, 3, 1);
    }

    private static void shareNeedsLongNumbers() {
        IcePlant x = plant(30, 1000000, 999999);
        x.set(2, 3);
        x.order(0, 9999, 9, false);
        x.order(1, 9998, 9, false);
        x.order(1, 5000, 9, false);
        placesInSequence("9999000000 and its like", x, 2, 1, 0);
    }

    private static void sequenceIsThatOfTheBeginning() {
        IcePlant x = plant(30, 100, 100);
        x.set(2, 3);
        x.set(1, 4);
        x.order(0, 120, 9, false);
        x.order(1, 100, 9, false);
        x.order(1, 110, 9, true);
        x.pass(1);
        Check.due("first", x.orderProperty(1, 2), 100);
        Check.due("a whole order that is skipped", x.orderProperty(2, 2), 0);
        Check.due("the next in the sequence", x.orderProperty(0, 2), 100);
        Check.due("the latest receipt", x.receipt(0, 0), 0);
        Check.due("the receipt before it", x.receipt(1, 0), 1);
    }

    private static void servedInSequence() {
        IcePlant x = plant(30, 3, 1, 4, 5, 2, 6);
        x.set(1, 12);
        for (int boat = 0; boat < 6; boat++) {
            x.order(boat, 1, 10 + (boat * 5 + 2) % 6, false);
        }
        int[][] due = {{0, 1, 2, 3, 4, 5}, {5, 3, 2, 0, 4, 1}, {2, 1, 0, 5, 4, 3}, {5, 3, 2, 0, 4, 1}};
        for (int priority = 0; priority < 4; priority++) {
            x.set(2, priority);
            x.pass(1);
            for (int turn = 0; turn < 6; turn++) {
                Check.due("priority " + priority + ", turn " + turn, x.receipt(5 - turn, 0), due[priority][turn]);
            }
            x.undo();
        }
    }

    private static void creditLimit() {
        IcePlant x = plant(30, 0, 0);
        x.set(3, 1500);
        x.set(1, 4);
        x.order(0, 100, 50, false);
        x.order(0, 100, 50, false);
        x.order(0, 50, 50, false);
        x.order(1, 50, 50, false);
        Check.due("the debt is asked before the first block only", x.pass(1), 200);
        Check.due("debt equal to the limit is not greater: the second order too", x.boat(0, 1), 3000);
        Check.due("the third is skipped for its boat", x.pass(1), 50);
        Check.due("the other boat", x.orderProperty(3, 5), 1);
        Check.due("skipped", x.orderProperty(2, 5), 0);
        x.pay(0, 1499);
        Check.due("debt 1501", x.pass(1), 0);
        x.pay(0, 1);
        Check.due("debt 1500", x.pass(1), 50);
        Check.due("complete", x.orderProperty(2, 5), 1);
        IcePlant y = plant(30, 0);
        y.set(3, 0);
        y.set(1, 12);
        y.order(0, 600, 50, false);
        Check.due("one order may go far beyond the limit", y.pass(1), 600);
        Check.due("debt", y.boat(0, 1), 9000);
    }

    private static void wholeOrders() {
        IcePlant x = plant(30, 0);
        x.addSilo(2, 0, 0);
        x.order(0, 201, 50, true);
        Check.due("100 are too few", x.pass(1), 0);
        Check.due("200 are too few", x.pass(1), 0);
        Check.due("300 are enough", x.pass(1), 250);
        Check.due("more than wanted", x.orderProperty(0, 2), 250);
        Check.due("complete", x.orderProperty(0, 5), 1);
        x.order(0, 150, 50, true);
        Check.due("just enough", x.pass(1), 150);
        x.order(0, 60, 50, false);
        x.order(0, 50, 50, true);
        Check.due("the partial order leaves nothing", x.pass(1), 100);
        Check.due("what is stored then counts", x.orderProperty(3, 2), 0);
        x.pass(1);
        Check.due("now it is whole", x.orderProperty(3, 2), 50);
        IcePlant y = plant(2, 0);
        y.addSilo(2, 0, 0);
        y.set(1, 4);
        y.order(0, 160, 9, true);
        Check.due("the blocks of all silos count", y.pass(1), 200);
    }

    private static void oldestBlockFirst() {
        IcePlant x = plant(2, 0);
        x.addSilo(4, 0, 10);
        x.pass(1);
        x.move(0, 1);
        x.move(0, 1);
        Check.due("serial 1 lies at the bottom", x.block(1, 0, 0), 1);
        Check.due("serial 0 lies on top", x.block(1, 1, 0), 0);
        x.pass(1);
        x.set(1, 0);
        x.order(0, 10, 9, false);
        Check.due("the oldest is delivered, with what is left of it", x.pass(1), 30);
        Check.due("the other one stays", x.block(1, 0, 0), 1);
        x.order(0, 60, 9, false);
        Check.due("then 1 of the second silo and 2 of the first", x.pass(1), 20 + 50);
        Check.due("the second silo is empty", x.silo(1, 3), 0);
        Check.due("one is left in the first", x.silo(0, 3), 1);
        Check.due("it has moved down", x.block(0, 0, 0), 3);
        Check.due("with its age", x.block(0, 0, 2), 3);
        Check.due("and its mass", x.block(0, 0, 1), 50);
    }

    private static void pricesOfBlocks() {
        IcePlant x = plant(30, 5000, 4999);
        x.set(0, 33);
        x.set(5, 7);
        x.set(7, 9);
        x.order(0, 60, 9, false);
        x.pass(1);
        Check.due("66 * 7 - 2 * (231 * 9 / 100): each block is rounded", x.boat(0, 1), 462 - 40);
        x.order(1, 60, 9, false);
        x.pass(1);
        Check.due("no discount below the discount catch", x.boat(1, 1), 462);
        x.set(6, 0);
        x.set(7, 100);
        x.order(1, 60, 9, false);
        x.pass(1);
        Check.due("all of the price is off", x.boat(1, 1), 462);
        Check.due("the receipt of it", x.receipt(0, 2), 0);
        Check.due("its mass", x.receipt(0, 1), 66);
        Check.due("prices of all", x.total(11), 462 + 422);
        Check.due("delivered to the boat", x.boat(1, 2), 132);
    }

    private static void bands() {
        IcePlant x = plant(30, 0);
        x.set(1, 1);
        x.order(0, 9999, 200, false);
        int debt = 0;
        for (int time = 0; time < 60; time++) {
            x.pass(1);
            int hour = time % 24;
            debt += 50 * (hour < 6 || hour > 21 ? 15 : 20);
            Check.due("debt after hour " + time, x.boat(0, 1), debt);
        }
        Check.due("night first", x.findAccount(0, 0), 0);
        Check.due("day second", x.findAccount(0, 1), 1);
        Check.due("night mass", x.account(0, 2), 50 * (6 + 8 + 8));
        Check.due("day mass", x.account(1, 2), 50 * (16 + 16 + 6));
    }

    private static void expiry() {
        IcePlant x = plant(1, 0);
        x.set(1, 1);
        x.order(0, 120, 2, false);
        x.order(0, 50, 3, false);
        x.pass(1);
        Check.due("hours left", x.orderProperty(0, 3), 1);
        Check.due("open", x.orderProperty(0, 5), 0);
        x.pass(1);
        Check.due("no hours left", x.orderProperty(0, 3), 0);
        Check.due("expired", x.orderProperty(0, 5), 2);
        Check.due("delivered before", x.orderProperty(0, 2), 100);
        Check.due("the other has one more", x.orderProperty(1, 3), 1);
        x.pass(1);
        Check.due("complete in its last hour", x.orderProperty(1, 5), 1);
        Check.due("hours stay", x.orderProperty(1, 3), 1);
        x.pass(2);
        Check.due("hours still stay", x.orderProperty(1, 3), 1);
        Check.due("hours of the expired", x.orderProperty(0, 3), 0);
        x.set(1, 0);
        x.pass(1);
        for (int i = 0; i < 3; i++) {
            x.order(0, 60, 1, false);
        }
        x.pass(1);
        Check.due("a block and nothing more", x.orderProperty(2, 2), 50);
        for (int i = 2; i < 5; i++) {
            Check.due("all expire at once", x.orderProperty(i, 5), 2);
        }
        Check.due("none is open", x.total(10), 0);
    }

    private static void receiptCodes() {
        IcePlant x = plant(30, 0);
        x.set(1, 1);
        x.set(0, 200);
        x.set(5, 999);
        x.set(4, 999);
        x.set(3, 1000000);
        x.order(0, 9999, 200, false);
        x.pass(6);
        int code = 0;
        for (int i = 0; i < 6; i++) {
            code = Integer.rotateLeft(code, 5) ^ (200 * 31 + 199800);
        }
        Check.due("code of the sixth receipt", x.receipt(0, 4), code);
        x.undo();
        x.pass(5);
        Check.due("code of the fifth receipt is that before", x.receipt(0, 4), Integer.rotateRight(code ^ 206000, 5));
        x.pass(1);
        Check.due("the same code after undo", x.receipt(0, 4), code);
        Check.due("a debt above the limit stops it", x.pass(3), 0);
        Check.due("no receipt without a block", x.total(13), 6);
        x.pay(0, 1000000);
        x.order(0, 9999, 200, false);
        x.cancel(0);
        x.pass(1);
        Check.due("with the number of the order", x.receipt(0, 4),
                Integer.rotateLeft(code, 5) ^ (65537 + 800 * 31 + 799200));
    }
}
