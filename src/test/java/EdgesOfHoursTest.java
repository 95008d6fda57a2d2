/** Each sentence about what happens in an hour with the cases at its edges. */
public final class EdgesOfHoursTest {
    public static void main(String[] args) {
        Sentences.open("WHAT HAPPENS IN AN HOUR");
        oneAfterTheOther();
        heat();
        losses();
        topBlock();
        emptyBlocks();
        production();
        missedBlocks();
        sequenceOfTheBeginning();
        creditLimit();
        creditLimitIsAskedOnce();
        wholeOrders();
        oldestBlocks();
        deliveredMasses();
        completion();
        prices();
        discounts();
        expiry();
        agesAndTime();
        Sentences.end("EdgesOfHoursTest");
    }

    private static IcePlant withSilo(int capacity, int rule, int strength) {
        IcePlant x = new IcePlant();
        x.addSilo(capacity, rule, strength);
        return x;
    }

    private static void oneAfterTheOther() {
        Sentences.test("When an hour passes, the following steps happen one after the other.");
        IcePlant x = withSilo(1, 0, 100);
        x.set(1, 1);
        x.pass(1);
        Check.due("production is after melting: a new block has not melted", x.silo(0, 4), 50);
        x.pass(1);
        Check.due("it takes the place of one that has melted in this hour", x.total(5), 0);
        Check.due("which has gone", x.block(0, 0, 0), 1);
        x.addBoat(0);
        x.order(0, 50, 1, true);
        Check.due("deliveries are after production: a block is made and delivered at once", x.pass(1), 50);
        Check.due("expiry is after the deliveries: the last hour still counts", x.orderProperty(0, 5), 1);
        Check.due("the time increases after the deliveries", x.receipt(0, 3), 2);
        x.pass(3);
        x.order(0, 50, 9, false);
        x.pass(1);
        Check.due("at the time 6 the price is that of the day", x.receipt(0, 2), 1000);
        IcePlant y = Stories.withBoats(0);
        y.pass(15);
        y.order(0, 50, 9, false);
        y.pass(1);
        Check.due("production is before the deliveries: they make no place for it", y.total(5), 2);
    }

    /** The mass that the only block loses in the next hour. */
    private static int loss(int mass, int rule, int strength, int degrees) {
        IcePlant x = withSilo(1, rule, strength);
        x.set(0, mass);
        x.pass(1);
        x.set(1, 0);
        x.setTemperature(1, degrees);
        x.pass(1);
        Check.due("what has melted is not left", x.silo(0, 4), mass - x.silo(0, 5));
        Check.due("a block without mass is removed", x.silo(0, 3), x.silo(0, 5) < mass ? 1 : 0);
        Check.due("all that has melted", x.total(3), x.silo(0, 5));
        return x.silo(0, 5);
    }

    private static void heat() {
        Sentences.test("The heat is the temperature of the hour of the day, or 0 if that is negative.");
        int[][] due = {{-20, 0}, {-1, 0}, {0, 0}, {1, 5}, {2, 10}, {20, 100}, {40, 200}, {45, 200}};
        for (int[] row : due) {
            Check.due("with " + row[0] + " degrees", loss(200, 2, 100, row[0]), row[1]);
        }
        IcePlant x = withSilo(1, 2, 20);
        x.set(1, 1);
        for (int hour = 1; hour < 24; hour++) {
            x.setTemperature(hour, hour == 5 ? 9 : -20);
        }
        Check.due("hour 5 of the first day", x.massAfter(6), 41);
        Check.due("negative temperatures give nothing back", x.massAfter(24), 41);
        Check.due("hour 0 of the second day", x.massAfter(25), 31);
        Check.due("hour 5 of the second day", x.massAfter(30), 22);
    }

    private static void losses() {
        Sentences.test("Each block of each silo loses mass, at most all of its mass: with the rule 0, the strength");
        // The mass, the rule, the strength, the degrees, and the loss.
        int[][] due = {
            {50, 0, 0, 45, 0}, {50, 0, 1, 0, 1}, {50, 0, 49, 0, 49}, {50, 0, 50, 0, 50}, {50, 0, 51, 0, 50},
            {50, 0, 100, 0, 50}, {200, 0, 100, 0, 100}, {1, 0, 100, 0, 1},
            {50, 1, 0, 45, 0}, {1, 1, 1, 0, 1}, {1, 1, 99, 0, 1}, {1, 1, 100, 0, 1}, {99, 1, 1, 0, 1}, {100, 1, 1, 0, 1},
            {101, 1, 1, 0, 2}, {200, 1, 1, 0, 2}, {199, 1, 1, 0, 2}, {50, 1, 2, 0, 1}, {51, 1, 2, 0, 2}, {150, 1, 33, 0, 50},
            {200, 1, 100, 0, 200}, {199, 1, 99, 0, 198}, {200, 1, 99, 0, 198}, {2, 1, 50, 0, 1}, {2, 1, 51, 0, 2},
            {50, 2, 0, 45, 0}, {50, 2, 1, 19, 0}, {50, 2, 1, 20, 1}, {50, 2, 19, 1, 0}, {50, 2, 20, 1, 1}, {50, 2, 39, 1, 1},
            {50, 2, 40, 1, 2}, {200, 2, 88, 45, 198}, {200, 2, 89, 45, 200}, {50, 2, 100, 10, 50}, {50, 2, 100, 45, 50},
            {50, 3, 0, 45, 0}, {50, 3, 49, 0, 49}, {50, 3, 50, 0, 50}, {50, 3, 100, 0, 50}, {200, 3, 100, 0, 100}};
        for (int[] row : due) {
            Check.due("mass " + row[0] + ", rule " + row[1] + ", strength " + row[2] + ", degrees " + row[3],
                    loss(row[0], row[1], row[2], row[3]), row[4]);
        }
        int[][] eachSilo = {{43, 43}, {46, 46}, {47, 47}, {50, 43}};
        IcePlant x = new IcePlant();
        for (int rule = 0; rule < 4; rule++) {
            x.addSilo(2, rule, 7);
        }
        x.set(1, 8);
        x.setTemperature(1, 11);
        x.pass(1);
        x.set(1, 0);
        x.pass(1);
        for (int silo = 0; silo < 4; silo++) {
            Check.due("the lower block of silo " + silo, x.block(silo, 0, 1), eachSilo[silo][0]);
            Check.due("the top block of silo " + silo, x.block(silo, 1, 1), eachSilo[silo][1]);
            Check.due("melted in silo " + silo, x.silo(silo, 5), 100 - x.silo(silo, 4));
        }
    }

    private static void topBlock() {
        Sentences.test("the strength if it is the top block of its silo when this step begins, and 0 otherwise.");
        IcePlant x = withSilo(4, 3, 60);
        x.set(1, 4);
        x.pass(1);
        x.set(1, 0);
        x.pass(1);
        Check.due("the next block is not the top block of this hour", x.silo(0, 4), 150);
        x.pass(2);
        Check.due("one block in each hour", x.silo(0, 3), 1);
        Check.due("the lowest is the top block at last", x.massAfter(1), 0);
        IcePlant y = withSilo(4, 3, 10);
        y.set(1, 1);
        y.pass(3);
        Check.due("each block was the top for one hour, but the last", y.block(0, 0, 1) * 100 + y.block(0, 1, 1), 4040);
        Check.due("the last", y.block(0, 2, 1), 50);
        y.addSilo(4, 0, 0);
        y.set(1, 0);
        y.move(0, 1);
        y.pass(1);
        Check.due("what is below a moved block becomes the top", y.block(0, 1, 1), 30);
        y.move(1, 0);
        y.pass(1);
        Check.due("a moved block becomes the top", y.block(0, 2, 1), 40);
        Check.due("and the one below is no more", y.block(0, 1, 1), 30);
        Check.due("nor the lowest", y.block(0, 0, 1), 40);
    }

    private static void emptyBlocks() {
        Sentences.test("Then all blocks with a mass of 0 are removed.");
        IcePlant x = withSilo(3, 0, 50);
        x.set(1, 3);
        x.pass(1);
        x.set(1, 2);
        x.pass(1);
        Check.due("all three at once, before two are made", x.silo(0, 3), 2);
        Check.due("none is missed", x.total(5), 0);
        Check.due("the first position is free for the next", x.block(0, 0, 0), 3);
        x.setStrength(0, 49);
        x.set(1, 0);
        x.pass(1);
        Check.due("a mass of 1 is no mass of 0", x.silo(0, 3), 2);
        Check.due("a mass of 1", x.block(0, 1, 1), 1);
        x.setStrength(0, 1);
        x.pass(1);
        Check.due("now they are removed", x.silo(0, 3), 0);
        Check.due("all has melted", x.total(3), 250);
    }

    private static void production() {
        Sentences.test("As often as the setting 1 says, a block with the mass of the setting 0 is made and stored");
        for (int production = 0; production <= 12; production++) {
            IcePlant x = withSilo(30, 0, 0);
            x.set(1, production);
            x.set(0, 100 + production);
            x.pass(1);
            Check.due("blocks of " + production, x.total(6), production);
            Check.due("made", x.total(1), production * (100 + production));
        }
        IcePlant y = new IcePlant();
        int[] capacities = {2, 1, 3, 1, 30};
        for (int capacity : capacities) {
            y.addSilo(capacity, 0, 0);
        }
        y.set(1, 8);
        y.pass(1);
        int[][] serials = {{0, 1}, {2}, {3, 4, 5}, {6}, {7}};
        for (int silo = 0; silo < 5; silo++) {
            Check.due("blocks in silo " + silo, y.silo(silo, 3), serials[silo].length);
            for (int position = 0; position < serials[silo].length; position++) {
                Check.due("silo " + silo + ", position " + position, y.block(silo, position, 0), serials[silo][position]);
            }
        }
        y.move(1, 4);
        y.move(2, 4);
        y.set(1, 3);
        y.pass(1);
        Check.due("the lowest silo with a place", y.block(1, 0, 0), 8);
        Check.due("then the next one", y.block(2, 2, 0), 9);
        Check.due("then the last one", y.block(4, 3, 0), 10);
    }

    private static void missedBlocks() {
        Sentences.test("If there is no such silo, no block is made, and the number of missed blocks increases by 1.");
        IcePlant x = new IcePlant();
        x.set(1, 12);
        x.pass(1);
        Check.due("without silos", x.total(5), 12);
        Check.due("nothing is made", x.total(1), 0);
        x.addSilo(5, 0, 0);
        x.addSilo(6, 0, 0);
        x.pass(1);
        Check.due("one is missed, as there are eleven places", x.total(5), 13);
        Check.due("made", x.total(1), 550);
        x.pass(1);
        Check.due("all are missed", x.total(5), 25);
        Check.due("nothing more is made", x.total(1), 550);
        x.set(1, 0);
        x.pass(48);
        Check.due("without production none is missed", x.total(5), 25);
        x.addBoat(0);
        x.order(0, 100, 1, false);
        x.pass(1);
        x.set(1, 3);
        x.pass(1);
        Check.due("two places are free again", x.total(5), 26);
    }

    private static void sequenceOfTheBeginning() {
        Sentences.test("The open orders are processed one after the other in the sequence that they have when this step begins.");
        IcePlant x = Stories.withBoats(100, 100);
        x.set(2, 3);
        x.set(1, 3);
        x.order(0, 120, 9, false);
        x.order(1, 100, 9, false);
        x.pass(1);
        Check.due("the smaller remaining mass first", x.orderProperty(1, 2), 100);
        Check.due("then the other one", x.orderProperty(0, 2), 50);
        IcePlant y = Stories.withBoats(100, 100);
        y.set(1, 12);
        for (int order = 0; order < 20; order++) {
            y.order(order % 2, 30, 9, order % 3 == 0);
        }
        y.set(2, 2);
        Check.due("twelve of twenty orders", y.pass(1), 600);
        for (int turn = 0; turn < 12; turn++) {
            Check.due("turn " + turn, y.receipt(11 - turn, 0), turn);
        }
        Check.due("open", y.total(10), 8);
        Check.due("the next", y.orderProperty(12, 6), 0);
    }

    private static void creditLimit() {
        Sentences.test("An order is skipped if, when its turn comes, the debt of its boat is greater than the credit limit");
        IcePlant x = Stories.withBoats(0);
        x.set(1, 1);
        x.order(0, 50, 200, false);
        x.pass(1);
        Check.due("debt", x.boat(0, 1), 750);
        x.order(0, 9999, 200, false);
        int[][] due = {{0, 0}, {749, 0}, {750, 50}, {751, 50}, {1000000, 50}};
        for (int[] row : due) {
            x.set(3, row[0]);
            Check.due("a debt of 750 with the limit " + row[0], x.pass(1), row[1]);
            Check.due("a whole order too", wholeWithLimit(row[0]), row[1]);
            x.undo();
            x.undo();
        }
        x.set(3, 0);
        x.pay(0, 749);
        Check.due("a debt of 1 with the limit 0", x.pass(1), 0);
        x.pay(0, 1);
        Check.due("a debt of 0 with the limit 0", x.pass(1), 100);
        x.set(1, 0);
        x.pass(5);
        Check.due("skipped orders stay open", x.orderProperty(1, 5), 0);
        Check.due("and their hours go on", x.orderProperty(1, 3), 193);
    }

    private static int wholeWithLimit(int limit) {
        IcePlant x = Stories.withBoats(0);
        x.set(1, 1);
        x.order(0, 50, 200, true);
        x.pass(1);
        x.order(0, 50, 200, true);
        x.set(3, limit);
        return x.pass(1);
    }

    private static void creditLimitIsAskedOnce() {
        Sentences.test("(this is asked once, before its first block)");
        IcePlant x = Stories.withBoats(0, 0);
        x.set(1, 12);
        x.set(3, 0);
        x.order(0, 300, 9, false);
        x.order(0, 50, 9, false);
        x.order(1, 50, 9, false);
        Check.due("all six blocks, and one for the other boat", x.pass(1), 350);
        Check.due("debt far above the limit", x.boat(0, 1), 4500);
        Check.due("the second order of the boat is skipped in the same hour", x.orderProperty(1, 2), 0);
        Check.due("the order of the other boat behind it is not", x.orderProperty(2, 5), 1);
        x.pay(0, 4500);
        Check.due("paid", x.pass(1), 50);
        IcePlant y = Stories.withBoats(0);
        y.set(1, 12);
        y.set(3, 750);
        for (int order = 0; order < 3; order++) {
            y.order(0, 50, 9, false);
        }
        Check.due("the debt 0 and the debt 750 are not greater than 750", y.pass(1), 100);
        Check.due("the debt 1500 is", y.orderProperty(2, 5), 0);
    }

    private static void wholeOrders() {
        Sentences.test("A whole order is also skipped if the mass of all blocks that are stored then is less than its remaining mass.");
        int[][] due = {{99, 100}, {100, 100}, {101, 0}};
        for (int[] row : due) {
            IcePlant x = Stories.withBoats(0);
            x.order(0, row[0], 9, true);
            Check.due("a whole order of " + row[0] + " with 100", x.pass(1), row[1]);
            IcePlant two = new IcePlant();
            two.addSilo(1, 0, 0);
            two.addSilo(1, 0, 0);
            two.addBoat(0);
            two.order(0, row[0], 9, true);
            Check.due("the same in two silos", two.pass(1), row[1]);
        }
        IcePlant x = Stories.withBoats(0);
        x.order(0, 101, 9, true);
        x.order(0, 100, 9, true);
        Check.due("the second order takes what the first has left", x.pass(1), 100);
        Check.due("the first is open", x.orderProperty(0, 5), 0);
        Check.due("the second is complete", x.orderProperty(1, 5), 1);
        IcePlant y = Stories.withBoats(0);
        y.order(0, 1, 9, false);
        y.order(0, 51, 9, true);
        y.order(0, 50, 9, true);
        Check.due("what is stored then, without the block of the first order", y.pass(1), 100);
        Check.due("51 are too many", y.orderProperty(1, 5), 0);
        Check.due("50 are not", y.orderProperty(2, 5), 1);
        y.order(0, 9999, 1, true);
        y.pass(1);
        Check.due("no block of a skipped order is removed", y.orderProperty(3, 2), 0);
    }

    private static void oldestBlocks() {
        Sentences.test("the block with the lowest serial number of all stored blocks is removed and delivered");
        IcePlant x = new IcePlant();
        x.addSilo(1, 0, 0);
        x.addSilo(30, 0, 0);
        x.addSilo(30, 0, 0);
        x.addBoat(0);
        x.set(1, 1);
        int[] masses = {11, 12, 13, 14, 15, 16};
        for (int mass : masses) {
            x.set(0, mass);
            x.pass(1);
        }
        x.set(1, 0);
        // Silo 0 has 0, silo 1 has 1 to 5; then 5, 4 and 0 go to silo 2.
        x.move(1, 2);
        x.move(1, 2);
        x.move(0, 2);
        for (int serial = 0; serial < 6; serial++) {
            x.order(0, 1, 1, false);
            Check.due("block " + serial, x.pass(1), masses[serial]);
            Check.due("what is stored", x.total(6), 5 - serial);
        }
        x.order(0, 1, 1, false);
        Check.due("no block is left", x.pass(1), 0);
    }

    private static void deliveredMasses() {
        Sentences.test("Otherwise, as long as its remaining mass is greater than 0 and there is a block in a silo");
        int[][] due = {{1, 50}, {49, 50}, {50, 50}, {51, 100}, {100, 100}, {101, 150}, {599, 600}, {600, 600}, {601, 600}};
        for (int[] row : due) {
            for (int whole = 0; whole < 2; whole++) {
                IcePlant x = Stories.withBoats(0);
                x.set(1, 12);
                x.order(0, row[0], 9, whole == 1);
                int mass = row[0] == 601 && whole == 1 ? 0 : row[1];
                Check.due("an order of " + row[0], x.pass(1), mass);
                Check.due("its delivered mass", x.orderProperty(0, 2), mass);
                Check.due("delivered to its boat", x.boat(0, 2), mass);
                Check.due("the debt of its boat", x.boat(0, 1), mass * 15);
                Check.due("delivered in all", x.total(2), mass);
                Check.due("what is left", x.total(4), 600 - mass);
                Check.due("its state", x.orderProperty(0, 5), mass >= row[0] ? 1 : 0);
            }
        }
        IcePlant y = Stories.full();
        y.set(3, 1000000);
        y.set(4, 999);
        y.cancel(16);
        y.pass(1);
        Check.due("9999 of 30000: 50 blocks of 200", y.orderProperty(17, 2), 10000);
        Check.due("the next one", y.orderProperty(18, 2), 10000);
        Check.due("the last blocks", y.orderProperty(19, 2), 10000);
        Check.due("none for the rest", y.orderProperty(20, 2), 0);
        Check.due("no block in a silo", y.total(6), 0);
        allBlocksForOneOrder();
    }

    private static void allBlocksForOneOrder() {
        int[][] due = {{149, 149}, {150, 150}, {9999, 150}};
        for (int[] row : due) {
            IcePlant x = new IcePlant();
            for (int silo = 0; silo < 5; silo++) {
                x.addSilo(30, 0, 0);
            }
            x.addBoat(0);
            x.set(0, 1);
            x.set(1, 12);
            x.pass(13);
            x.set(1, 0);
            Check.due("as many blocks as there can be", x.total(6), 150);
            x.order(0, row[0], 9, row[0] <= 150);
            Check.due("an order of " + row[0] + " with 150 blocks of 1", x.pass(1), row[1]);
            Check.due("blocks that are left", x.total(6), 150 - row[1]);
        }
    }

    private static void completion() {
        Sentences.test("Then, if the remaining mass is 0, the state of the order becomes complete; and if at least one block was");
        IcePlant x = Stories.withBoats(0, 0);
        x.order(0, 101, 9, false);
        x.order(1, 50, 9, false);
        x.pass(1);
        Check.due("1 remains", x.orderProperty(0, 5), 0);
        Check.due("a receipt all the same", x.receipt(0, 1), 100);
        Check.due("none for the order without a block", x.total(13), 1);
        x.pass(1);
        Check.due("nothing remains", x.orderProperty(0, 5), 1);
        Check.due("the other one too", x.orderProperty(1, 5), 1);
        Check.due("a receipt for each", x.total(13), 3);
        x.pass(1);
        Check.due("complete orders get nothing more", x.total(2), 200);
        Check.due("and no receipt", x.total(13), 3);
        x.set(4, 0);
        x.set(5, 0);
        x.order(0, 1, 9, false);
        x.pass(1);
        Check.due("a block without a price has a receipt too", x.total(13), 4);
        Check.due("of the price 0", x.receipt(0, 2), 0);
    }

    /** The price of the first block that is delivered, of this mass, at this time. */
    private static int price(int mass, int time, int load, int[] settings) {
        IcePlant x = Stories.withBoats(load);
        x.set(1, 0);
        if (time > 0) {
            x.pass(time);
        }
        x.set(0, mass);
        x.set(1, 1);
        for (int index = 4; index < 8; index++) {
            x.set(index, settings[index - 4]);
        }
        x.order(0, 1, 1, false);
        x.pass(1);
        Check.due("the debt is the price", x.boat(0, 1), x.receipt(0, 2));
        Check.due("the prices of all too", x.total(11), x.receipt(0, 2));
        Check.due("the quote is the price", x.quote(0, mass, x.findAccount(0, 1) == 0 ? 1 : 0), x.receipt(0, 2));
        return x.receipt(0, 2);
    }

    private static void prices() {
        Sentences.test("The price of a block is its mass * (the price of a kilogram in the band of the hour).");
        int[] settings = {999, 1, 1000000, 100};
        int[][] due = {{0, 1}, {5, 1}, {6, 999}, {7, 999}, {12, 999}, {21, 999}, {22, 1}, {23, 1}, {24, 1}, {29, 1}, {30, 999}};
        for (int[] row : due) {
            Check.due("1 kg at the time " + row[0], price(1, row[0], 0, settings), row[1]);
            Check.due("200 kg at the time " + row[0], price(200, row[0], 0, settings), 200 * row[1]);
        }
        Check.due("for nothing", price(200, 6, 0, new int[] {0, 999, 0, 0}), 0);
    }

    private static void discounts() {
        Sentences.test("If the catch of the boat is at least the discount catch, this amount is reduced by amount * discount");
        // The catch, the discount catch, the percentage, and the price of 33 kg for 7 each, which is 231.
        int[][] due = {{4999, 5000, 10, 231}, {5000, 5000, 10, 208}, {5001, 5000, 10, 208}, {0, 0, 10, 208},
            {999999, 1000000, 10, 231}, {1000000, 1000000, 10, 208}, {0, 1, 100, 231}, {1, 1, 100, 0},
            {9, 9, 0, 231}, {9, 9, 1, 229}, {9, 9, 50, 116}, {9, 9, 99, 3}};
        for (int[] row : due) {
            Check.due("catch " + row[0] + ", discount catch " + row[1] + ", percentage " + row[2],
                    price(33, 0, row[0], new int[] {0, 7, row[1], row[2]}), row[3]);
        }
        IcePlant x = Stories.withBoats(5000);
        x.set(0, 1);
        x.set(1, 12);
        x.order(0, 12, 1, true);
        x.pass(1);
        Check.due("each block of 15 is reduced by 1, and not all of 180 by 18", x.boat(0, 1), 12 * 14);
        Check.due("on the receipt too", x.receipt(0, 2), 168);
        Check.due("in the account too", x.account(0, 3), 168);
    }

    private static void expiry() {
        Sentences.test("The hours left of each order that is open become less by 1; if they become 0, its state becomes expired.");
        IcePlant x = Stories.withBoats(0);
        x.order(0, 9999, 1, true);
        x.order(0, 9999, 2, true);
        x.order(0, 100, 2, true);
        x.order(0, 9999, 200, true);
        x.order(0, 9999, 5, true);
        x.cancel(4);
        x.pass(1);
        int[][] first = {{0, 2}, {1, 0}, {2, 1}, {199, 0}, {5, 3}};
        for (int order = 0; order < 5; order++) {
            Check.due("hours left of " + order, x.orderProperty(order, 3), first[order][0]);
            Check.due("state of " + order, x.orderProperty(order, 5), first[order][1]);
        }
        x.pass(1);
        int[][] second = {{0, 2}, {0, 2}, {2, 1}, {198, 0}, {5, 3}};
        for (int order = 0; order < 5; order++) {
            Check.due("hours left of " + order, x.orderProperty(order, 3), second[order][0]);
            Check.due("state of " + order, x.orderProperty(order, 5), second[order][1]);
        }
        IcePlant closed = Stories.withBoats(0);
        closed.order(0, 300, 9, false);
        closed.order(0, 9999, 1, false);
        closed.order(0, 9999, 9, false);
        closed.pass(1);
        closed.cancel(2);
        closed.set(1, 12);
        Check.due("what is left is not for orders that have expired or been cancelled", closed.pass(1), 200);
        Check.due("the expired one", closed.orderProperty(1, 2), 0);
        Check.due("the cancelled one", closed.orderProperty(2, 2), 0);
        IcePlant y = new IcePlant();
        y.addBoat(0);
        for (int order = 0; order < 20; order++) {
            y.order(0, 1, 1 + order / 10, false);
        }
        y.pass(1);
        Check.due("ten at once", y.total(10), 10);
        y.pass(1);
        Check.due("and the other ten", y.total(10), 0);
        Check.due("the last one", y.orderProperty(19, 5), 2);
    }

    private static void agesAndTime() {
        Sentences.test("The age of each block and the time increase by 1.");
        IcePlant x = new IcePlant();
        x.addSilo(1, 0, 0);
        x.addSilo(1, 0, 0);
        x.addSilo(30, 0, 0);
        x.set(1, 2);
        for (int time = 1; time <= 5; time++) {
            x.pass(1);
            Check.due("time", x.total(0), time);
            Check.due("age in silo 0", x.block(0, 0, 2), time);
            Check.due("age in silo 1", x.block(1, 0, 2), time);
        }
        x.pass(48);
        Check.due("age after 48 hours more", x.block(2, 0, 2), 52);
        Check.due("the youngest: 30 blocks are made in 15 hours", x.block(2, 29, 2), 53 - 15);
        IcePlant y = Stories.late();
        y.set(3, 0);
        y.cancel(0);
        Check.due("the time of the late plant", y.total(0), 9999);
        y.pass(1);
        Check.due("the last time", y.total(0), 10000);
    }
}
