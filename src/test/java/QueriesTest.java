/** Promises 14 to 23: what there is. */
public final class QueriesTest {
    public static void main(String[] args) {
        silo();
        block();
        boat();
        orderProperty();
        receipt();
        account();
        findAccount();
        setting();
        total();
        meanAge();
        queriesSaveNothing();
        Check.end("QueriesTest");
    }

    /** Two silos, two boats, and an order of the second boat that has got 100 of 130 in the first hour. */
    private static IcePlant busy() {
        IcePlant x = new IcePlant();
        x.addSilo(4, 0, 5);
        x.addSilo(6, 1, 10);
        x.addBoat(300);
        x.addBoat(6000);
        x.order(1, 130, 20, false);
        x.pass(1);
        return x;
    }

    private static void silo() {
        IcePlant x = busy();
        Check.index("silo -1", () -> x.silo(-1, 0));
        Check.index("silo 2", () -> x.silo(2, 0));
        Check.index("the silo before the property", () -> x.silo(2, 6));
        Check.argument("property -1", () -> x.silo(0, -1));
        Check.argument("property 6", () -> x.silo(0, 6));
        x.set(1, 6);
        x.cancel(0);
        x.pass(2);
        int[] first = {4, 0, 5, 4, 180, 20};
        int[] second = {6, 1, 10, 6, 290, 10};
        for (int property = 0; property < 6; property++) {
            Check.due("silo 0 " + property, x.silo(0, property), first[property]);
            Check.due("silo 1 " + property, x.silo(1, property), second[property]);
        }
    }

    private static void block() {
        IcePlant x = busy();
        Check.index("an empty silo", () -> x.block(0, 0, 0));
        x.cancel(0);
        x.pass(1);
        x.pass(1);
        Check.index("silo -1", () -> x.block(-1, 0, 0));
        Check.index("silo 2", () -> x.block(2, 0, 0));
        Check.index("position -1", () -> x.block(0, -1, 0));
        Check.index("position -1 of the second", () -> x.block(1, -1, 0));
        Check.index("position 4", () -> x.block(0, 4, 0));
        Check.index("an empty silo before the property", () -> x.block(1, 0, 3));
        Check.argument("property -1", () -> x.block(0, 0, -1));
        Check.argument("property 3", () -> x.block(0, 0, 3));
        int[][] due = {{2, 45, 2}, {3, 45, 2}, {4, 50, 1}, {5, 50, 1}};
        for (int position = 0; position < 4; position++) {
            for (int property = 0; property < 3; property++) {
                Check.due("block " + position + " " + property, x.block(0, position, property), due[position][property]);
            }
        }
    }

    private static void boat() {
        IcePlant x = busy();
        Check.index("boat -1", () -> x.boat(-1, 0));
        Check.index("boat 2", () -> x.boat(2, 0));
        Check.index("the boat before the property", () -> x.boat(2, 4));
        Check.argument("property -1", () -> x.boat(0, -1));
        Check.argument("property 4", () -> x.boat(0, 4));
        x.order(1, 1, 1, true);
        int[] first = {300, 0, 0, 0};
        int[] second = {6000, 1350, 100, 2};
        for (int property = 0; property < 4; property++) {
            Check.due("boat 0 " + property, x.boat(0, property), first[property]);
            Check.due("boat 1 " + property, x.boat(1, property), second[property]);
        }
        x.pay(1, 1400);
        Check.due("negative debt", x.boat(1, 1), -50);
    }

    private static void orderProperty() {
        IcePlant x = busy();
        Check.index("order -1", () -> x.orderProperty(-1, 0));
        Check.index("order 1", () -> x.orderProperty(1, 0));
        Check.index("the order before the property", () -> x.orderProperty(1, 7));
        Check.argument("property -1", () -> x.orderProperty(0, -1));
        Check.argument("property 7", () -> x.orderProperty(0, 7));
        x.order(0, 9, 1, true);
        int[] first = {1, 130, 100, 19, 0, 0, 0};
        int[] second = {0, 9, 0, 1, 1, 0, 1};
        for (int property = 0; property < 7; property++) {
            Check.due("order 0 " + property, x.orderProperty(0, property), first[property]);
            Check.due("order 1 " + property, x.orderProperty(1, property), second[property]);
        }
    }

    private static void receipt() {
        IcePlant x = new IcePlant();
        Check.index("none yet", () -> x.receipt(0, 0));
        x.addSilo(30, 0, 0);
        x.addBoat(0);
        x.order(0, 9999, 200, false);
        x.set(1, 1);
        for (int number = 1; number <= 20; number++) {
            x.set(0, number);
            x.pass(1);
            int kept = Math.min(number, 16);
            Check.due("kept", x.total(13), kept);
            Check.index("no more than kept", () -> x.receipt(kept, 0));
            Check.due("the oldest kept", x.receipt(kept - 1, 1), number - kept + 1);
        }
        Check.index("index -1", () -> x.receipt(-1, 0));
        Check.index("the index before the property", () -> x.receipt(16, 5));
        Check.argument("property -1", () -> x.receipt(0, -1));
        Check.argument("property 5", () -> x.receipt(0, 5));
        for (int number = 1; number <= 20; number++) {
            int index = 20 - number;
            int price = number * (number > 6 ? 20 : 15);
            if (index < 16) {
                Check.due("order of " + index, x.receipt(index, 0), 0);
                Check.due("mass of " + index, x.receipt(index, 1), number);
                Check.due("price of " + index, x.receipt(index, 2), price);
                Check.due("time of " + index, x.receipt(index, 3), number - 1);
                Check.due("code of " + index, x.receipt(index, 4), codeUpTo(number));
            }
        }
        x.undo();
        Check.due("the ring after undo", x.receipt(15, 1), 4);
        Check.due("the latest after undo", x.receipt(0, 1), 19);
        for (int i = 0; i < 4; i++) {
            x.undo();
        }
        // Rows of the ring are written for another order, and then taken back.
        x.cancel(0);
        x.order(0, 9999, 200, false);
        x.pass(3);
        Check.due("another order", x.receipt(2, 0), 1);
        x.undo();
        Check.due("code before the next", x.receipt(0, 4), codeUpTo(17));
        for (int index = 0; index < 16; index++) {
            int number = 17 - index;
            Check.due("order after more undo", x.receipt(index, 0), 0);
            Check.due("mass after more undo", x.receipt(index, 1), number);
            Check.due("code after more undo", x.receipt(index, 4), codeUpTo(number));
            Check.due("price after more undo", x.receipt(index, 2), number * (number > 6 ? 20 : 15));
            Check.due("time after more undo", x.receipt(index, 3), number - 1);
        }
    }

    /** Hour after hour a receipt of the order 0, for a block that has one kilogram more each time. */
    private static int codeUpTo(int last) {
        int code = 0;
        for (int number = 1; number <= last; number++) {
            code = Integer.rotateLeft(code, 5) ^ (number * 31 + number * (number > 6 ? 20 : 15));
        }
        return code;
    }

    private static void account() {
        IcePlant x = new IcePlant();
        Check.index("none yet", () -> x.account(0, 0));
        x.addSilo(30, 0, 0);
        for (int boat = 0; boat < 8; boat++) {
            x.addBoat(0);
        }
        x.set(1, 8);
        x.set(0, 1);
        for (int boat = 7; boat >= 0; boat--) {
            x.order(boat, 100, 200, false);
        }
        x.set(2, 3);
        for (int boat = 0; boat < 8; boat++) {
            x.setCatch(boat, boat == 3 ? 10 : 5);
        }
        x.pass(6);
        Check.due("one boat takes all at first", x.total(14), 1);
        x.pass(48);
        x.pass(48);
        Check.due("accounts of each boat and band", x.total(14), 16);
        Check.due("the boat of the first", x.account(0, 0), 3);
        Check.due("its band", x.account(0, 1), 0);
        Check.due("its mass", x.account(0, 2), 48);
        Check.due("its price", x.account(0, 3), 720);
        Check.due("the second: the same boat by day", x.account(1, 0), 3);
        Check.due("its band", x.account(1, 1), 1);
        Check.due("its mass", x.account(1, 2), 52);
        Check.due("its price", x.account(1, 3), 1040);
        Check.index("account -1", () -> x.account(-1, 0));
        Check.index("account 16", () -> x.account(16, 0));
        Check.index("the account before the property", () -> x.account(16, 4));
        Check.argument("property -1", () -> x.account(0, -1));
        Check.argument("property 4", () -> x.account(0, 4));
    }

    private static void findAccount() {
        IcePlant x = busy();
        Check.index("boat -1", () -> x.findAccount(-1, 0));
        Check.index("boat 2", () -> x.findAccount(2, 0));
        Check.index("the boat before the band", () -> x.findAccount(2, 2));
        Check.argument("band -1", () -> x.findAccount(0, -1));
        Check.argument("band 2", () -> x.findAccount(0, 2));
        Check.due("found", x.findAccount(1, 0), 0);
        Check.due("no deliveries by day", x.findAccount(1, 1), -1);
        Check.due("no deliveries to this boat", x.findAccount(0, 0), -1);
        x.order(0, 10, 20, false);
        x.pass(6);
        Check.due("second account", x.findAccount(0, 0), 1);
        x.order(1, 10, 20, false);
        x.pass(1);
        Check.due("third account", x.findAccount(1, 1), 2);
        x.undo();
        Check.due("gone after undo", x.findAccount(1, 1), -1);
        Check.due("accounts after undo", x.total(14), 2);
    }

    private static void setting() {
        IcePlant x = new IcePlant();
        Check.index("index -1", () -> x.setting(-1));
        Check.index("index 8", () -> x.setting(8));
        for (int index = 0; index < 8; index++) {
            x.set(index, index < 2 ? 3 + index : index == 2 ? 1 : 40 + index);
        }
        int[] due = {3, 4, 1, 43, 44, 45, 46, 47};
        for (int index = 0; index < 8; index++) {
            Check.due("setting " + index, x.setting(index), due[index]);
        }
    }

    private static void total() {
        IcePlant x = busy();
        Check.argument("property -1", () -> x.total(-1));
        Check.argument("property 16", () -> x.total(16));
        x.set(1, 9);
        x.order(0, 60, 1, true);
        x.pay(1, 77);
        x.pass(1);
        // Hour 1: nothing melts, 9 blocks are made; order 0 gets one, order 1 two.
        long[] due = {2, 550, 250, 0, 300, 0, 6, 2, 2, 2, 0, 1350 + 675 + 1500, 77, 3, 2, 8};
        for (int property = 0; property < 16; property++) {
            Check.due("total " + property, x.total(property), due[property]);
        }
        x.set(1, 12);
        x.pass(1);
        Check.due("melted in both silos", x.total(3), 4 * 5 + 2 * 5);
        Check.due("missed", x.total(5), 8);
        Check.due("made = delivered + melted + left", x.total(1), x.total(2) + x.total(3) + x.total(4));
        Check.due("stored", x.total(6), 10);
        Check.due("at most 8 states", x.total(15), 8);
    }

    private static void meanAge() {
        IcePlant x = new IcePlant();
        Check.dueDouble("no silos", x.meanAge(), 0.0);
        x.addSilo(3, 0, 0);
        Check.dueDouble("no blocks", x.meanAge(), 0.0);
        x.pass(1);
        Check.dueDouble("two blocks", x.meanAge(), 1.0);
        x.undo();
        x.set(1, 1);
        x.pass(1);
        Check.dueDouble("one block", x.meanAge(), 1.0);
        x.undo();
        x.undo();
        x.pass(1);
        x.pass(1);
        Check.dueDouble("three blocks", x.meanAge(), 5.0 / 3.0);
        x.addSilo(30, 0, 0);
        x.pass(1);
        Check.dueDouble("two silos", x.meanAge(), 10.0 / 5.0);
        x.undo();
        Check.dueDouble("after undo", x.meanAge(), 5.0 / 3.0);
    }

    private static void queriesSaveNothing() {
        IcePlant x = busy();
        long saved = x.total(15);
        x.silo(0, 0);
        x.boat(0, 0);
        x.orderProperty(0, 6);
        x.receipt(0, 0);
        x.account(0, 0);
        x.findAccount(0, 0);
        x.setting(0);
        x.meanAge();
        x.massAfter(3);
        x.completeIn(0);
        x.bestRule(0, 3);
        x.quote(0, 1, 1);
        x.append('h');
        x.errorPosition();
        x.errorKind();
        x.clear();
        Check.due("saved states", x.total(15), saved);
    }
}
