/** Each sentence of the promises 14 to 23 with the cases at its edges. */
public final class EdgesOfQueriesTest {
    public static void main(String[] args) {
        Sentences.promises(14, 23);
        silo();
        block();
        boat();
        orderProperty();
        orderPropertyLimits();
        receipt();
        receiptRing();
        account();
        findAccount();
        setting();
        total();
        totalsFarUp();
        meanAge();
        Sentences.end("EdgesOfQueriesTest");
    }

    private static void silo() {
        Sentences.promise(14);
        Sentences.test("Returns a property of a silo.");
        Telling.changesNothing("silo", Stories::busy, x -> x.silo(0, 3));
        Sentences.test("Returns the property.");
        IcePlant x = Stories.busy();
        int[][] due = {{2, 0, 5, 2, 90, 10}, {3, 1, 11, 2, 100, 0}};
        for (int silo = 0; silo < 2; silo++) {
            for (int property = 0; property < 6; property++) {
                Check.due("silo " + silo + ", property " + property, x.silo(silo, property), due[silo][property]);
            }
        }
        IcePlant full = Stories.full();
        Check.due("blocks of a full silo", full.silo(4, 3), 30);
        Check.due("their mass", full.silo(4, 4), 6000);
        IcePlant empty = new IcePlant();
        empty.addSilo(1, 0, 100);
        Check.due("blocks of an empty silo", empty.silo(0, 3), 0);
        Check.due("their mass", empty.silo(0, 4), 0);
        Check.due("nothing has melted", empty.silo(0, 5), 0);
        empty.pass(1);
        empty.set(1, 0);
        empty.pass(1);
        Check.due("all has melted", empty.silo(0, 5), 50);
        Check.due("no block is left", empty.silo(0, 3), 0);
        Sentences.test("`silo`: number of a silo");
        Check.range("silo of two", 0, 1, Check.INDEX, value -> x.silo(value, 0));
        Check.range("silo of five", 0, 4, Check.INDEX, value -> full.silo(value, 5));
        Sentences.test("`property`: 0: capacity; 1: rule; 2: strength; 3: number of blocks; 4: mass");
        Check.range("property", 0, 5, Check.ARGUMENT, value -> x.silo(1, value));
        Sentences.test("Throws `IndexOutOfBoundsException` if there is no such silo");
        Check.index("without silos", () -> new IcePlant().silo(0, 0));
        Check.index("the silo is listed before the property", () -> x.silo(2, 6));
        Check.index("the silo is listed before the property", () -> x.silo(-1, -1));
        Sentences.test("Throws `IllegalArgumentException` if property is not 0 to 5");
        Check.argument("6", () -> x.silo(0, 6));
        Check.argument("-1", () -> x.silo(0, -1));
    }

    private static void block() {
        Sentences.promise(15);
        Sentences.test("Returns a property of a block.");
        Telling.changesNothing("block", Stories::busy, x -> x.block(0, 0, 2));
        Sentences.test("Returns the property.");
        IcePlant x = Stories.busy();
        int[][] due = {{2, 45, 2}, {3, 45, 2}, {4, 50, 1}, {5, 50, 1}};
        for (int i = 0; i < 4; i++) {
            for (int property = 0; property < 3; property++) {
                Check.due("block " + i + ", property " + property, x.block(i / 2, i % 2, property), due[i][property]);
            }
        }
        Sentences.test("`silo`: number of a silo");
        Check.range("silo of two", 0, 1, Check.INDEX, value -> x.block(value, 0, 0));
        IcePlant full = Stories.full();
        Check.range("silo of five", 0, 4, Check.INDEX, value -> full.block(value, 29, 0));
        Sentences.test("`position`: position of a block in it");
        Check.range("position of two", 0, 1, Check.INDEX, value -> x.block(0, value, 0));
        Check.range("position of two, with a place free above them", 0, 1, Check.INDEX, value -> x.block(1, value, 0));
        Check.range("position of thirty in the first silo", 0, 29, Check.INDEX, value -> full.block(0, value, 0));
        Check.range("position of thirty in the last silo", 0, 29, Check.INDEX, value -> full.block(4, value, 0));
        Sentences.test("`property`: 0: serial number; 1: mass; 2: age");
        Check.range("property", 0, 2, Check.ARGUMENT, value -> x.block(1, 1, value));
        Sentences.test("Throws `IndexOutOfBoundsException` if there is no such silo, or no block at this position");
        Check.index("without silos", () -> new IcePlant().block(0, 0, 0));
        Check.index("an empty silo", () -> Stories.withBoats().block(0, 0, 0));
        Check.index("no such silo and no such position", () -> x.block(2, 2, 0));
        Check.index("the silo is listed before the property", () -> x.block(2, 0, 3));
        Check.index("the position is listed before the property", () -> x.block(0, 2, 3));
        Check.index("the position is listed before the property", () -> x.block(0, -1, -1));
        x.move(0, 1);
        Check.index("the position that the moved block had", () -> x.block(0, 1, 0));
        Check.due("the position that it has", x.block(1, 2, 0), 3);
        Sentences.test("Throws `IllegalArgumentException` if property is not 0 to 2");
        Check.argument("3", () -> x.block(0, 0, 3));
        Check.argument("-1", () -> x.block(0, 0, -1));
    }

    private static void boat() {
        Sentences.promise(16);
        Sentences.test("Returns a property of a boat.");
        Telling.changesNothing("boat", Stories::busy, x -> x.boat(0, 3));
        Sentences.test("Returns the property.");
        IcePlant x = Stories.busy();
        int[][] due = {{6000, 2 * (350 - 35), 100, 0}, {100, -1000000, 0, 1}};
        for (int boat = 0; boat < 2; boat++) {
            for (int property = 0; property < 4; property++) {
                Check.due("boat " + boat + ", property " + property, x.boat(boat, property), due[boat][property]);
            }
        }
        x.order(1, 50, 9, false);
        x.order(0, 60, 9, false);
        x.pass(1);
        // 5 of each of the oldest blocks and 5.5, that is 6, of each of the next two have melted.
        Check.due("one delivery to boat 1", x.boat(1, 2), 40 + 40);
        Check.due("deliveries to boat 0 so far", x.boat(0, 2), 100 + 44 + 44);
        IcePlant y = new IcePlant();
        y.addBoat(0);
        for (int order = 0; order < 20; order++) {
            y.order(0, 1, 1, false);
        }
        Check.due("the most open orders", y.boat(0, 3), 20);
        y.pass(1);
        Check.due("all have expired", y.boat(0, 3), 0);
        IcePlant z = Stories.withBoats(0, 0, 0, 0);
        for (int order = 0; order < 10; order++) {
            z.order(order < 1 ? 0 : order < 3 ? 1 : order < 6 ? 2 : 3, 9999, 9, order % 3 > 0);
        }
        for (int boat = 0; boat < 4; boat++) {
            Check.due("open orders of boat " + boat, z.boat(boat, 3), boat + 1);
        }
        Sentences.test("`boat`: number of a boat");
        Check.range("boat of two", 0, 1, Check.INDEX, value -> x.boat(value, 0));
        IcePlant full = Stories.full();
        Check.range("boat of eight", 0, 7, Check.INDEX, value -> full.boat(value, 3));
        Sentences.test("`property`: 0: catch; 1: debt; 2: mass that was delivered to it so far; 3: number");
        Check.range("property", 0, 3, Check.ARGUMENT, value -> x.boat(1, value));
        Sentences.test("Throws `IndexOutOfBoundsException` if there is no such boat");
        Check.index("without boats", () -> new IcePlant().boat(0, 0));
        Check.index("the boat is listed before the property", () -> x.boat(2, 4));
        Check.index("the boat is listed before the property", () -> x.boat(-1, -1));
        Sentences.test("Throws `IllegalArgumentException` if property is not 0 to 3");
        Check.argument("4", () -> x.boat(0, 4));
        Check.argument("-1", () -> x.boat(0, -1));
    }

    private static void orderProperty() {
        Sentences.promise(17);
        Sentences.test("Returns a property of an order.");
        Telling.changesNothing("orderProperty", Stories::busy, x -> x.orderProperty(3, 6));
        Sentences.test("Returns the property.");
        IcePlant x = Stories.busy();
        int[][] due = {{0, 100, 100, 9, 0, 1, -1}, {1, 9999, 0, 0, 1, 2, -1}, {1, 50, 0, 9, 1, 3, -1},
            {1, 500, 0, 47, 1, 0, 0}};
        for (int order = 0; order < 4; order++) {
            for (int property = 0; property < 7; property++) {
                Check.due("order " + order + ", property " + property, x.orderProperty(order, property), due[order][property]);
            }
        }
        Sentences.test("`property`: 0: its boat; 1: wanted mass; 2: delivered mass; 3: hours left; 4: 1 if");
        Check.range("property of an open order", 0, 6, Check.ARGUMENT, value -> x.orderProperty(3, value));
        Check.range("property of a closed order", 0, 6, Check.ARGUMENT, value -> x.orderProperty(1, value));
        IcePlant y = new IcePlant();
        y.addBoat(3);
        y.addBoat(4);
        for (int order = 0; order < 20; order++) {
            y.order(order % 2, 100 + order, 200 - order, false);
        }
        Check.due("none comes before the first of 20", y.orderProperty(0, 6), 0);
        Check.due("19 come before the last of 20", y.orderProperty(19, 6), 19);
        y.set(2, 2);
        Check.due("the present sequence is that of the present setting", y.orderProperty(19, 6), 0);
        Check.due("the fewest hours", y.orderProperty(0, 6), 19);
        y.set(2, 1);
        Check.due("the greatest catch", y.orderProperty(1, 6), 0);
        y.setCatch(0, 5);
        Check.due("and that of the present catches", y.orderProperty(1, 6), 10);
        y.cancel(0);
        Check.due("closed orders do not count", y.orderProperty(1, 6), 9);
        Check.due("NONE if it is not open", y.orderProperty(0, 6), IcePlant.NONE);
        Sentences.test("Throws `IndexOutOfBoundsException` if there is no such order");
        Check.index("without orders", () -> new IcePlant().orderProperty(0, 0));
        Check.index("the order is listed before the property", () -> x.orderProperty(4, 7));
        Check.index("the order is listed before the property", () -> x.orderProperty(-1, -1));
        Sentences.test("Throws `IllegalArgumentException` if property is not 0 to 6");
        Check.argument("7", () -> x.orderProperty(0, 7));
        Check.argument("-1", () -> x.orderProperty(3, -1));
    }

    private static void orderPropertyLimits() {
        Sentences.promise(17);
        Sentences.test("`order`: number of an order");
        IcePlant x = Stories.busy();
        Check.range("order of four", 0, 3, Check.INDEX, value -> x.orderProperty(value, 0));
        IcePlant y = Stories.placed();
        Check.range("order of two hundred", 0, 199, Check.INDEX, value -> y.orderProperty(value, 5));
        Check.due("the last one has expired", y.orderProperty(199, 5), 2);
        y.undo();
        y.undo();
        Check.range("order of 199", 0, 198, Check.INDEX, value -> y.orderProperty(value, 6));
        Check.due("it is open, and 18 come before it", y.orderProperty(198, 6), 18);
    }

    private static void receipt() {
        Sentences.promise(18);
        Sentences.test("Returns a property of a receipt.");
        Telling.changesNothing("receipt", Stories::full, x -> x.receipt(15, 4));
        Sentences.test("Returns the property.");
        IcePlant x = Stories.withBoats(5000);
        x.order(0, 60, 9, true);
        x.order(0, 1, 9, false);
        x.pass(1);
        x.order(0, 1, 9, true);
        x.pass(1);
        int first = 100 * 31 + 1350;
        int second = Integer.rotateLeft(first, 5) ^ (65537 + 50 * 31 + 675);
        int third = Integer.rotateLeft(second, 5) ^ (2 * 65537 + 50 * 31 + 675);
        int[][] due = {{2, 50, 675, 1, third}, {1, 50, 675, 1, second}, {0, 100, 1350, 0, first}};
        for (int index = 0; index < 3; index++) {
            for (int property = 0; property < 5; property++) {
                Check.due("receipt " + index + ", property " + property, x.receipt(index, property), due[index][property]);
            }
        }
        Sentences.test("`property`: 0: number of the order; 1: mass; 2: price; 3: time; 4: code");
        Check.range("property", 0, 4, Check.ARGUMENT, value -> x.receipt(0, value));
        Check.range("property of the oldest", 0, 4, Check.ARGUMENT, value -> x.receipt(2, value));
        Sentences.test("Throws `IllegalArgumentException` if property is not 0 to 4");
        Check.argument("5", () -> x.receipt(0, 5));
        Check.argument("-1", () -> x.receipt(2, -1));
    }

    /** After each of these hours there is one receipt more; its mass is the number of the hour from 1. */
    private static IcePlant withReceipts(int count) {
        IcePlant x = Stories.withBoats(0);
        x.set(1, 1);
        x.order(0, 9999, 200, false);
        for (int hour = 1; hour <= count; hour++) {
            x.set(0, hour);
            x.pass(1);
        }
        return x;
    }

    private static void receiptRing() {
        Sentences.promise(18);
        Sentences.test("`index`: 0 for the latest receipt, 1 for the one before it, and so on");
        for (int count : new int[] {1, 2, 15, 16, 17, 31, 32, 33, 50}) {
            IcePlant x = withReceipts(count);
            int kept = Math.min(16, count);
            Check.range("index of " + count, 0, kept - 1, Check.INDEX, value -> x.receipt(value, 0));
            for (int index = 0; index < kept; index++) {
                Check.due("mass of " + index + " of " + count, x.receipt(index, 1), count - index);
                Check.due("time of " + index + " of " + count, x.receipt(index, 3), count - index - 1);
            }
        }
        Sentences.test("Throws `IndexOutOfBoundsException` if index is negative, or not so many receipts are kept");
        Check.index("no receipt", () -> new IcePlant().receipt(0, 0));
        IcePlant x = withReceipts(17);
        Check.index("negative", () -> x.receipt(-1, 0));
        Check.index("16 of 16", () -> x.receipt(16, 0));
        Check.index("17 have been written, and 16 are kept", () -> x.receipt(17, 0));
        Check.index("the index is listed before the property", () -> x.receipt(16, 5));
        Check.index("the index is listed before the property", () -> x.receipt(-1, -1));
        x.undo();
        x.undo();
        Check.due("16 are written then", x.receipt(15, 1), 1);
        x.undo();
        x.undo();
        Check.index("15 are written then", () -> x.receipt(15, 0));
        Check.due("the oldest of 15", x.receipt(14, 1), 1);
    }

    private static void account() {
        Sentences.promise(19);
        Sentences.test("Returns a property of an account.");
        Telling.changesNothing("account", Stories::full, x -> x.account(15, 3));
        Sentences.test("Returns the property.");
        IcePlant x = Stories.full();
        // By night and by day each boat has got 1 kg. From a catch of 5000 on, 10 percent are off.
        for (int account = 0; account < 16; account++) {
            int boat = account % 8;
            int price = account < 8 ? 15 : 20;
            long[] due = {boat, account / 8, 1, boat < 5 ? price : price - price / 10};
            for (int property = 0; property < 4; property++) {
                Check.due("account " + account + ", property " + property, x.account(account, property), due[property]);
            }
        }
        Sentences.test("`account`: number of an account");
        Check.range("account of sixteen", 0, 15, Check.INDEX, value -> x.account(value, 3));
        IcePlant y = Stories.busy();
        Check.range("account of one", 0, 0, Check.INDEX, value -> y.account(value, 0));
        Sentences.test("`property`: 0: its boat; 1: its band; 2: mass; 3: price");
        Check.range("property", 0, 3, Check.ARGUMENT, value -> y.account(0, value));
        Sentences.test("Throws `IndexOutOfBoundsException` if there is no such account");
        Check.index("without accounts", () -> new IcePlant().account(0, 0));
        Check.index("a boat without deliveries", () -> Stories.withBoats(0).account(0, 0));
        Check.index("the account is listed before the property", () -> y.account(1, 4));
        Check.index("the account is listed before the property", () -> y.account(-1, -1));
        Sentences.test("Throws `IllegalArgumentException` if property is not 0 to 3");
        Check.argument("4", () -> y.account(0, 4));
        Check.argument("-1", () -> y.account(0, -1));
    }

    private static void findAccount() {
        Sentences.promise(20);
        Sentences.test("Finds the account of a boat and a band.");
        Telling.changesNothing("findAccount", Stories::busy, x -> x.findAccount(1, 1));
        IcePlant full = Stories.full();
        for (int boat = 0; boat < 8; boat++) {
            Check.due("by night, boat " + boat, full.findAccount(boat, 0), boat);
            Check.due("by day, boat " + boat, full.findAccount(boat, 1), 8 + boat);
        }
        Sentences.test("Returns the number of the account; NONE if there is none.");
        IcePlant x = Stories.busy();
        Check.due("deliveries by night", x.findAccount(0, 0), 0);
        Check.due("no deliveries by day", x.findAccount(0, 1), IcePlant.NONE);
        Check.due("no deliveries at all", x.findAccount(1, 0), IcePlant.NONE);
        Sentences.test("`boat`: number of a boat");
        Check.range("boat of two", 0, 1, Check.INDEX, value -> x.findAccount(value, 0));
        Check.range("boat of eight", 0, 7, Check.INDEX, value -> full.findAccount(value, 1));
        Sentences.test("`band`: 0 or 1");
        Check.range("band", 0, 1, Check.ARGUMENT, value -> x.findAccount(0, value));
        Sentences.test("Throws `IndexOutOfBoundsException` if there is no such boat");
        Check.index("without boats", () -> new IcePlant().findAccount(0, 0));
        Check.index("the boat is listed before the band", () -> x.findAccount(2, 2));
        Check.index("the boat is listed before the band", () -> x.findAccount(-1, -1));
        Sentences.test("Throws `IllegalArgumentException` if band is not 0 or 1");
        Check.argument("2", () -> x.findAccount(0, 2));
        Check.argument("-1", () -> x.findAccount(1, -1));
    }

    private static void setting() {
        Sentences.promise(21);
        Sentences.test("Returns the value of a setting.");
        Telling.changesNothing("setting", Stories::busy, x -> x.setting(7));
        Sentences.test("Returns the value.");
        IcePlant x = new IcePlant();
        int[] first = {50, 2, 0, 100000, 20, 15, 5000, 10};
        int[] highest = {200, 12, 3, 1000000, 999, 999, 1000000, 100};
        for (int index = 0; index < 8; index++) {
            Check.due("at first, setting " + index, x.setting(index), first[index]);
        }
        for (int index = 0; index < 8; index++) {
            x.set(index, highest[index]);
        }
        for (int index = 0; index < 8; index++) {
            Check.due("at the highest, setting " + index, x.setting(index), highest[index]);
        }
        Sentences.test("`index`: 0 to 7");
        Check.range("index", 0, 7, Check.INDEX, value -> new IcePlant().setting(value));
        Sentences.test("Throws `IndexOutOfBoundsException` if index is out of range");
        Check.index("8", () -> x.setting(8));
        Check.index("-1", () -> x.setting(-1));
    }

    private static void total() {
        Sentences.promise(22);
        Sentences.test("Returns a total.");
        for (int p = 0; p < 16; p++) {
            int property = p;
            Telling.changesNothing("total " + p, Stories::small, x -> x.total(property));
        }
        Sentences.test("`property`: 0: time; 1: mass that was made so far; 2: mass that was delivered so far");
        Check.range("property", 0, 15, Check.ARGUMENT, value -> new IcePlant().total(value));
        Sentences.test("Returns the total.");
        IcePlant x = Stories.small();
        // Boat 0 has got 150 kg and boat 1 150 kg by night; boat 0 has 10 percent off, and has paid 100.
        long[] small = {5, 500, 300, 10, 190, 0, 4, 2, 2, 4, 1, 3 * 675 + 150 * 15, 100, 4, 2, 5};
        for (int property = 0; property < 16; property++) {
            Check.due("small, total " + property, x.total(property), small[property]);
        }
        IcePlant y = Stories.full();
        long[] full = {56, 16 + 150 * 200, 16, 0, 30000, 48 * 12 - 150 + 12, 150, 5, 8, 36, 20,
            5 * 15 + 3 * 14 + 5 * 20 + 3 * 18, 0, 16, 16, 8};
        for (int property = 0; property < 16; property++) {
            Check.due("full, total " + property, y.total(property), full[property]);
        }
        Sentences.test("Throws `IllegalArgumentException` if property is not 0 to 15");
        Check.argument("16", () -> x.total(16));
        Check.argument("-1", () -> x.total(-1));
    }

    /** The totals of many deliveries at the highest price, which are paid as they come. */
    private static void totalsFarUp() {
        Sentences.promise(22);
        Sentences.test("Returns the total.");
        IcePlant x = Stories.withBoats(0, 0, 0);
        x.set(0, 200);
        x.set(1, 12);
        x.set(3, 1000000);
        x.set(4, 999);
        x.set(5, 999);
        long mass = 0;
        for (int round = 0; round < 40; round++) {
            int boat = round % 3;
            x.order(boat, 2400, 1, false);
            mass += x.pass(1);
            while (x.boat(boat, 1) > 0) {
                x.pay(boat, 1000000);
            }
        }
        Check.due("delivered", mass, 40 * 2400);
        Check.due("delivered", x.total(2), mass);
        Check.due("prices", x.total(11), mass * 999);
        long paid = x.total(11);
        for (int boat = 0; boat < 3; boat++) {
            paid -= x.boat(boat, 1);
        }
        Check.due("payments", x.total(12), paid);
        long prices = 0;
        for (int account = 0; account < x.total(14); account++) {
            prices += x.account(account, 3);
        }
        Check.due("prices of all accounts", prices, x.total(11));
    }

    private static void meanAge() {
        Sentences.promise(23);
        Sentences.test("Returns the mean age of the stored blocks.");
        Telling.changesNothing("meanAge", Stories::busy, x -> (long) x.meanAge());
        Sentences.test("Returns the sum of the ages, converted to double, divided by the number of stored blocks");
        Check.dueDouble("no silo", new IcePlant().meanAge(), 0.0);
        IcePlant x = Stories.withBoats(0);
        Check.dueDouble("no block", x.meanAge(), 0.0);
        x.set(1, 1);
        x.pass(1);
        Check.dueDouble("one block", x.meanAge(), 1.0);
        x.pass(1);
        Check.dueDouble("not rounded", x.meanAge(), 1.5);
        x.set(1, 2);
        x.pass(1);
        Check.dueDouble("3 + 2 + 1 + 1 of four", x.meanAge(), 7.0 / 4.0);
        x.set(1, 3);
        x.pass(1);
        Check.dueDouble("4 + 3 + 2 + 2 + 1 + 1 + 1 of seven", x.meanAge(), 14.0 / 7.0);
        x.pass(1);
        Check.dueDouble("24 of ten", x.meanAge(), 24.0 / 10.0);
        x.order(0, 9999, 1, false);
        x.pass(1);
        Check.dueDouble("none is left", x.meanAge(), 0.0);
        IcePlant y = Stories.busy();
        Check.dueDouble("of two silos", y.meanAge(), 6.0 / 4.0);
    }
}
