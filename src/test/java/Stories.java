/** Plants in the states that the tests of edges begin with. */
final class Stories {
    private Stories() {
    }

    static void type(IcePlant x, String text) {
        for (int i = 0; i < text.length(); i++) {
            x.append(text.charAt(i));
        }
    }

    static IcePlant empty() {
        return new IcePlant();
    }

    /** One silo of 30 places in which nothing melts, and boats with these catches. */
    static IcePlant withBoats(int... catches) {
        IcePlant x = new IcePlant();
        x.addSilo(30, 0, 0);
        for (int load : catches) {
            x.addBoat(load);
        }
        return x;
    }

    /**
     * Time 5, with five saved states, so that there are places for more. Silo 0 has the blocks 6, 7 and 8
     * of 45, 45 and 50, silo 1 the block 9. Orders 0 and 2 are complete, 1 expired, 3 open and whole.
     */
    static IcePlant small() {
        IcePlant x = new IcePlant();
        x.addSilo(5, 1, 10);
        x.addSilo(30, 0, 3);
        x.addBoat(6000);
        x.addBoat(100);
        type(x, "o0,130,9;o1,60,1;o1,120,200;h3;o0,9999,50!;p0,100;h2;m0,1");
        x.execute();
        type(x, "h2;c0,77");
        return x;
    }

    /**
     * Time 3. Silo 0 is full with 2 blocks, silo 1 has 2 blocks and 3 places. Order 0 is complete,
     * 1 expired, 2 cancelled, 3 open. Boat 1 has the lowest debt. 8 saved states.
     */
    static IcePlant busy() {
        IcePlant x = new IcePlant();
        x.addSilo(2, 0, 5);
        x.addSilo(3, 1, 10);
        x.addBoat(6000);
        x.addBoat(100);
        x.order(0, 100, 9, false);
        x.order(1, 9999, 1, true);
        x.order(1, 50, 9, true);
        x.cancel(2);
        x.order(1, 500, 50, true);
        x.set(5, 7);
        for (int hour = 0; hour < 3; hour++) {
            x.pass(1);
        }
        x.setTemperature(3, 33);
        x.pay(1, 1000000);
        x.setStrength(1, 11);
        type(x, "h2;c0,5");
        return x;
    }

    /**
     * Time 56. Everything is as full as it can be: 5 silos with 30 blocks each, 8 boats, 36 orders, of
     * which 16 to 35 are open, 16 receipts, 16 accounts, 120 characters (with an error at their end),
     * 8 saved states.
     */
    static IcePlant full() {
        IcePlant x = new IcePlant();
        for (int silo = 0; silo < 5; silo++) {
            x.addSilo(30, silo % 4, 0);
        }
        for (int boat = 0; boat < 8; boat++) {
            x.addBoat(1000 * boat);
        }
        x.set(0, 1);
        orderForEachBoat(x);
        x.set(1, 0);
        x.pass(5);
        orderForEachBoat(x);
        x.set(1, 12);
        x.set(0, 200);
        x.pass(48);
        x.set(3, 0);
        for (int order = 0; order < 20; order++) {
            x.order(order % 8, 9999, 200, false);
        }
        x.pass(1);
        type(x, "h1;".repeat(40));
        return x;
    }

    private static void orderForEachBoat(IcePlant x) {
        x.set(1, 8);
        for (int boat = 0; boat < 8; boat++) {
            x.order(boat, 1, 9, false);
        }
        x.pass(1);
    }

    /** Time 9999, with an open order. */
    static IcePlant late() {
        IcePlant x = new IcePlant();
        x.addSilo(30, 2, 1);
        x.addBoat(0);
        x.set(1, 0);
        for (int i = 0; i < 208; i++) {
            x.pass(48);
        }
        x.pass(15);
        x.set(1, 1);
        x.order(0, 60, 5, false);
        return x;
    }

    /** Time 10. 200 orders have been placed, and none of them is open. */
    static IcePlant placed() {
        IcePlant x = new IcePlant();
        x.addBoat(0);
        for (int order = 0; order < 200; order++) {
            x.order(0, 1, 1, false);
            if (order % 20 == 19) {
                x.pass(1);
            }
        }
        return x;
    }
}
