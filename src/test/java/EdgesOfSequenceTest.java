/** Each sentence about boats, orders and their sequence with the cases at its edges. */
public final class EdgesOfSequenceTest {
    public static void main(String[] args) {
        Sentences.open("BOATS AND ORDERS");
        boats();
        orderLimits();
        orderParts();
        states();
        byNumber();
        byCatch();
        byHours();
        byShare();
        shareInLongNumbers();
        ties();
        Sentences.end("EdgesOfSequenceTest");
    }

    private static void boats() {
        Sentences.test("There are at most 8 boats, numbered from 0 in the order in which they are added.");
        IcePlant x = new IcePlant();
        for (int boat = 0; boat < 8; boat++) {
            Check.due("boat", x.addBoat(1000 + boat), boat);
        }
        Check.state("boat 8", () -> x.addBoat(0));
        for (int boat = 0; boat < 8; boat++) {
            Check.due("catch", x.boat(boat, 0), 1000 + boat);
        }
        Sentences.test("A boat has a catch and a debt, which is 0 at first, and which is negative if the boat has paid more");
        Check.due("at first", x.boat(7, 1), 0);
        x.pay(7, 1);
        Check.due("paid 1", x.boat(7, 1), -1);
        IcePlant y = Stories.withBoats(0);
        y.order(0, 50, 9, false);
        y.pass(1);
        Check.due("owes", y.boat(0, 1), 750);
        y.pay(0, 750);
        Check.due("has paid what it owes", y.boat(0, 1), 0);
        y.pay(0, 10);
        Check.due("has paid more", y.boat(0, 1), -10);
        y.order(0, 50, 9, false);
        y.pass(1);
        Check.due("which counts for the next delivery", y.boat(0, 1), 740);
    }

    private static void orderLimits() {
        Sentences.test("At most 20 orders are open at a time, and at most 200 orders are placed in all");
        IcePlant x = new IcePlant();
        x.addBoat(0);
        for (int order = 0; order < 200; order++) {
            if (order % 20 == 0 && order > 0) {
                Check.state("21 open orders", () -> x.order(0, 1, 1, false));
                x.pass(1);
                Check.due("open", x.total(10), 0);
            }
            Check.due("order", x.order(0, 1 + order, 1, false), order);
        }
        Check.state("201 orders, and 21 open", () -> x.order(0, 1, 1, false));
        x.cancel(190);
        Check.state("201 orders, and 20 open", () -> x.order(0, 1, 1, false));
        x.pass(1);
        Check.state("201 orders, and 1 open", () -> x.order(0, 1, 1, false));
        Check.due("the first", x.orderProperty(0, 1), 1);
        Check.due("the last", x.orderProperty(199, 1), 200);
        Check.due("orders", x.total(9), 200);
    }

    private static void orderParts() {
        Sentences.test("An order has a boat, a wanted mass, a number of hours left, a delivered mass, which is 0 at first");
        IcePlant x = Stories.withBoats(0, 0);
        x.order(1, 9999, 200, true);
        x.order(0, 1, 1, false);
        int[][] due = {{1, 9999, 0, 200, 1}, {0, 1, 0, 1, 0}};
        for (int order = 0; order < 2; order++) {
            for (int property = 0; property < 5; property++) {
                Check.due("order " + order + ", property " + property, x.orderProperty(order, property), due[order][property]);
            }
        }
        Sentences.test("Its remaining mass is the wanted mass minus the delivered mass, but at least 0.");
        IcePlant y = Stories.withBoats(0);
        y.order(0, 149, 9, false);
        y.order(0, 200, 9, false);
        Check.due("before the first delivery", y.cancel(0), 149);
        y.undo();
        y.pass(1);
        Check.due("after 100 of 149", y.cancel(0), 49);
        y.undo();
        y.pass(1);
        Check.due("150 of 149: none remains, and not -1", y.orderProperty(0, 5), 1);
        Check.due("50 of 200", y.cancel(1), 150);
    }

    private static void states() {
        Sentences.test("Its state is 0 (open), 1 (complete), 2 (expired) or 3 (cancelled).");
        IcePlant x = Stories.withBoats(0);
        x.order(0, 50, 9, false);
        x.order(0, 9999, 1, true);
        x.order(0, 9999, 2, true);
        x.order(0, 9999, 9, true);
        x.cancel(3);
        x.pass(1);
        int[] due = {1, 2, 0, 3};
        for (int order = 0; order < 4; order++) {
            Check.due("order " + order, x.orderProperty(order, 5), due[order]);
        }
        x.pass(1);
        Check.due("order 2 an hour later", x.orderProperty(2, 5), 2);
        x.pass(48);
        for (int order = 0; order < 4; order++) {
            Check.due("closed orders stay as they are", x.orderProperty(order, 5), order == 2 ? 2 : due[order]);
        }
    }

    /**
     * The sequence, as the queries tell it, and as the deliveries of the next hour follow it, which has
     * a block for each order.
     */
    private static void sequence(String what, IcePlant x, int... due) {
        for (int place = 0; place < due.length; place++) {
            Check.due(what + ": place of the order " + due[place], x.orderProperty(due[place], 6), place);
        }
        int production = x.set(1, 0);
        x.set(1, 12);
        x.set(0, 200);
        x.pass(1);
        for (int turn = 0; turn < due.length && turn < 12; turn++) {
            int receipt = Math.min(due.length, 12) - 1 - turn;
            Check.due(what + ": turn " + turn, x.receipt(receipt, 0), due[turn]);
        }
        for (int i = 0; i < 4; i++) {
            x.undo();
        }
        Check.due("the production is that of before", x.setting(1), production);
    }

    private static void byNumber() {
        Sentences.test("The open orders have a sequence, which depends on the setting 2.");
        IcePlant x = Stories.withBoats(10, 30, 20);
        x.order(0, 40, 3, false);
        x.order(1, 180, 2, false);
        x.order(2, 20, 1, false);
        int[][] due = {{0, 1, 2}, {1, 2, 0}, {2, 1, 0}, {2, 0, 1}};
        for (int priority = 0; priority < 4; priority++) {
            x.set(2, priority);
            sequence("setting " + priority, x, due[priority]);
        }
        Sentences.test("With 0, an order comes before those with higher numbers.");
        IcePlant y = Stories.withBoats(0, 1000000);
        for (int order = 0; order < 12; order++) {
            y.order(order % 2, 200 - order, 100 - order, false);
        }
        sequence("by number", y, 0, 1, 2, 3, 4, 5, 6, 7, 8, 9, 10, 11);
        y.cancel(0);
        y.cancel(5);
        sequence("without two", y, 1, 2, 3, 4, 6, 7, 8, 9, 10, 11);
    }

    private static void byCatch() {
        Sentences.test("With 1, an order comes before those of boats with smaller catches");
        IcePlant x = Stories.withBoats(0, 1, 1000000, 999999, 1, 0);
        x.set(2, 1);
        for (int boat = 0; boat < 6; boat++) {
            x.order(boat, 1, 9, false);
        }
        sequence("the greatest catch first, then the lowest number", x, 2, 3, 1, 4, 0, 5);
        x.setCatch(5, 2);
        sequence("with the present catches", x, 2, 3, 5, 1, 4, 0);
    }

    private static void byHours() {
        Sentences.test("With 2, an order comes before those with more hours left (so the fewest hours come first).");
        IcePlant x = Stories.withBoats(0);
        x.set(2, 2);
        int[] hours = {200, 1, 199, 2, 1, 200};
        for (int left : hours) {
            x.order(0, 1, left, false);
        }
        sequence("the fewest hours first, then the lowest number", x, 1, 4, 3, 2, 0, 5);
        x.set(1, 0);
        x.pass(1);
        sequence("an hour later two have expired", x, 3, 2, 0, 5);
        x.order(0, 1, 2, false);
        sequence("with the hours that are left now", x, 3, 6, 2, 0, 5);
    }

    private static void byShare() {
        Sentences.test("With 3, the order a comes before the order b if (catch of the boat of a) * (remaining mass of b)");
        IcePlant x = Stories.withBoats(100, 101, 99);
        x.set(2, 3);
        x.order(0, 100, 9, false);
        x.order(1, 101, 9, false);
        x.order(2, 100, 9, false);
        x.order(2, 98, 9, false);
        x.order(1, 102, 9, false);
        sequence("shares of 1, 1, 0.99, 1.0102, 0.9902", x, 3, 0, 1, 4, 2);
        x.set(1, 1);
        x.set(2, 0);
        x.pass(1);
        x.set(2, 3);
        sequence("the order 0 has 50 remaining now", x, 0, 3, 1, 4, 2);
        IcePlant y = Stories.withBoats(0, 1);
        y.set(2, 3);
        y.order(0, 1, 9, false);
        y.order(1, 200, 9, false);
        sequence("a catch of 0 comes last", y, 1, 0);
    }

    private static void shareInLongNumbers() {
        Sentences.test("computed as long numbers.");
        // Each row: catch and mass of two orders whose products are another way round as int numbers.
        int[][] rows = {{429497, 1, 1000000, 9999}, {1000000, 2147, 1000000, 2148}, {1000000, 1, 999999, 8590},
            {1000000, 4294, 500000, 4295}};
        for (int[] row : rows) {
            long left = (long) row[0] * row[3];
            long right = (long) row[2] * row[1];
            Check.due("the row needs long numbers", left > right && (int) left <= (int) right ? 1 : 0, 1);
            for (int turned = 0; turned < 2; turned++) {
                IcePlant x = Stories.withBoats(row[0], row[2]);
                x.set(2, 3);
                x.order(turned, turned == 0 ? row[1] : row[3], 9, false);
                x.order(1 - turned, turned == 0 ? row[3] : row[1], 9, false);
                Check.due("the order of the boat 0", x.orderProperty(turned, 6), 0);
                Check.due("the order of the boat 1", x.orderProperty(1 - turned, 6), 1);
            }
        }
    }

    private static void ties() {
        Sentences.test("If this does not decide, the order with the lower number comes first.");
        for (int priority = 0; priority < 4; priority++) {
            IcePlant x = Stories.withBoats(60, 60, 0, 0);
            x.set(2, priority);
            for (int order = 0; order < 4; order++) {
                x.order(1 - order % 2, 30, 5, false);
            }
            sequence("alike in all, setting " + priority, x, 0, 1, 2, 3);
        }
        IcePlant x = Stories.withBoats(20, 10, 0, 0);
        x.set(2, 3);
        x.order(2, 7, 9, false);
        x.order(1, 50, 9, false);
        x.order(0, 100, 9, false);
        x.order(3, 3, 9, false);
        x.order(1, 50, 9, false);
        sequence("10 * 100 is 20 * 50, and 0 is 0", x, 1, 2, 4, 0, 3);
        IcePlant y = Stories.withBoats(1000000, 500000);
        y.set(2, 3);
        y.order(1, 4999, 9, false);
        y.order(0, 9998, 9, false);
        y.order(1, 4999, 9, false);
        Check.due("equal long numbers", y.orderProperty(0, 6) * 100 + y.orderProperty(1, 6) * 10 + y.orderProperty(2, 6), 12);
    }
}
