/** Each sentence about receipts and accounts with the cases at its edges. */
public final class EdgesOfPapersTest {
    public static void main(String[] args) {
        Sentences.open("RECEIPTS AND ACCOUNTS");
        contents();
        codes();
        codesOverflow();
        kept();
        accounts();
        accountNumbers();
        Sentences.end("EdgesOfPapersTest");
    }

    private static void receiptIs(String what, IcePlant x, int index, int... due) {
        for (int property = 0; property < due.length; property++) {
            Check.due(what + ", property " + property, x.receipt(index, property), due[property]);
        }
    }

    private static void contents() {
        Sentences.test("A receipt contains the number of the order, the mass and the price of all blocks that were delivered");
        IcePlant x = Stories.withBoats(0, 5000);
        x.set(0, 33);
        x.set(1, 5);
        x.order(0, 100, 9, false);
        x.order(1, 100, 9, false);
        x.pass(1);
        receiptIs("one block for the second order", x, 0, 1, 33, 495 - 49, 0);
        receiptIs("four blocks for the first order together", x, 1, 0, 132, 4 * 495, 0);
        x.pass(1);
        receiptIs("only the blocks of this hour", x, 0, 1, 99, 3 * (495 - 49), 1);
        Check.due("a receipt for each order and hour", x.total(13), 3);
        x.pass(4);
        x.order(0, 1, 9, false);
        x.pass(1);
        receiptIs("by day", x, 0, 2, 33, 660, 6);
        IcePlant late = Stories.late();
        late.pass(1);
        receiptIs("the time before it increases", late, 0, 0, 50, 1000, 9999);
    }

    /** The words of the document in long arithmetic, cut down to 32 bits at the end. */
    private static int next(int previous, int order, int mass, int price) {
        long bits = previous & 0xffffffffL;
        long turned = bits * 32 % 0x100000000L + bits / 0x8000000L;
        long value = order * 65537L + mass * 31L + price;
        return (int) (turned ^ value);
    }

    private static void codes() {
        Sentences.test("The code of the first receipt is computed from the previous code 0, that of each other one");
        IcePlant x = Stories.withBoats(0, 0);
        x.set(1, 6);
        int code = 0;
        for (int order = 0; order < 30; order++) {
            x.order(order % 2, 51 + order, 1, false);
            x.pass(1);
            int mass = 51 + order <= 100 ? 100 : 150;
            int price = mass * (order % 24 >= 6 && order % 24 <= 21 ? 20 : 15);
            code = next(code, order, mass, price);
            Check.due("code " + order, x.receipt(0, 4), code);
        }
        x.order(0, 9999, 1, true);
        x.pass(1);
        Check.due("without a receipt the code stays", x.receipt(0, 4), code);
        IcePlant y = Stories.withBoats(0);
        y.set(5, 0);
        y.order(0, 50, 1, false);
        y.pass(1);
        Check.due("the first code, without a price", y.receipt(0, 4), 50 * 31);
        y.undo();
        y.undo();
        y.set(0, 1);
        y.order(0, 1, 1, false);
        y.pass(1);
        Check.due("the first code after undo has the previous code 0 too", y.receipt(0, 4), 31);
    }

    private static void codesOverflow() {
        Sentences.test("in int arithmetic with overflow.");
        IcePlant x = Stories.withBoats(0);
        x.set(0, 200);
        x.set(1, 12);
        x.set(3, 1000000);
        x.set(4, 999);
        x.set(5, 999);
        int code = 0;
        int negative = 0;
        for (int order = 0; order < 40; order++) {
            x.order(0, 2000, 1, false);
            x.pass(1);
            code = next(code, order, 2000, 2000 * 999);
            Check.due("code " + order, x.receipt(0, 4), code);
            negative += code < 0 ? 1 : 0;
            x.pay(0, 1000000);
            x.pay(0, 998000);
        }
        Check.due("some codes are negative", negative > 5 ? 1 : 0, 1);
        Check.due("and some are not", negative < 35 ? 1 : 0, 1);
    }

    private static void kept() {
        Sentences.test("The latest 16 receipts are kept.");
        IcePlant x = Stories.withBoats(0);
        x.set(1, 1);
        x.order(0, 9999, 200, false);
        for (int written = 1; written <= 40; written++) {
            x.pass(1);
            int kept = Math.min(written, 16);
            Check.due("kept of " + written, x.total(13), kept);
            Check.due("the latest", x.receipt(0, 3), written - 1);
            Check.due("the oldest", x.receipt(kept - 1, 3), written - kept);
            Check.index("one more", () -> x.receipt(kept, 3));
        }
        for (int undone = 1; undone <= 8; undone++) {
            x.undo();
            Check.due("the latest after undo", x.receipt(0, 3), 39 - undone);
            Check.due("the oldest after undo", x.receipt(15, 3), 24 - undone);
        }
        IcePlant y = Stories.withBoats(0);
        y.set(1, 12);
        for (int order = 0; order < 20; order++) {
            y.order(0, 1, 9, false);
        }
        y.pass(2);
        Check.due("twenty in two hours", y.total(13), 16);
        Check.due("the oldest that is kept", y.receipt(15, 0), 4);
        Check.due("the latest", y.receipt(0, 0), 19);
    }

    private static void accounts() {
        Sentences.test("For each boat and band (0: night, 1: day) in which at least one block was delivered to this boat");
        IcePlant x = Stories.withBoats(0, 5000, 0);
        x.set(1, 1);
        Check.due("none at first", x.total(14), 0);
        x.order(0, 9999, 1, true);
        x.pass(1);
        Check.due("none without a block", x.total(14), 0);
        x.order(1, 100, 9, false);
        x.pass(1);
        Check.due("one block", x.total(14), 1);
        Check.due("its boat", x.account(0, 0), 1);
        Check.due("its band", x.account(0, 1), 0);
        Check.due("its mass is more than one block's", x.account(0, 2), 100);
        Check.due("its price", x.account(0, 3), 2 * 675);
        x.order(1, 1, 9, false);
        x.pass(1);
        Check.due("the same account", x.total(14), 1);
        Check.due("its mass", x.account(0, 2), 150);
        Check.due("its price", x.account(0, 3), 3 * 675);
        x.pass(3);
        x.set(4, 0);
        x.order(1, 1, 9, false);
        x.pass(1);
        Check.due("by day there is another one, without a price too", x.total(14), 2);
        Check.due("its band", x.account(1, 1), 1);
        Check.due("its mass", x.account(1, 2), 50);
        Check.due("its price", x.account(1, 3), 0);
        Check.due("that of the night stays", x.account(0, 2), 150);
        x.pay(1, 2025);
        Check.due("payments do not change it", x.account(0, 3), 2025);
        Check.due("found", x.findAccount(1, 1), 1);
        Check.due("none of the boat 2", x.findAccount(2, 1), IcePlant.NONE);
    }

    private static void accountNumbers() {
        Sentences.test("Accounts are numbered from 0 in the order in which they began to exist.");
        IcePlant x = Stories.withBoats(0, 0, 0, 0, 0, 0, 0, 0);
        x.set(1, 8);
        int[] boats = {5, 3, 7, 0, 1, 6, 2, 4};
        for (int band = 0; band < 2; band++) {
            for (int boat : boats) {
                x.order(boat, 1, 1, false);
            }
            x.pass(1);
            if (band == 0) {
                x.set(1, 0);
                x.pass(5);
                x.set(1, 8);
            }
        }
        Check.due("accounts", x.total(14), 16);
        for (int account = 0; account < 16; account++) {
            Check.due("boat of " + account, x.account(account, 0), boats[account % 8]);
            Check.due("band of " + account, x.account(account, 1), account / 8);
            Check.due("found", x.findAccount(boats[account % 8], account / 8), account);
        }
        Check.index("account 16", () -> x.account(16, 0));
        x.undo();
        Check.due("the accounts of the last hour are gone", x.total(14), 8);
        Check.index("account 8", () -> x.account(8, 0));
        x.cancel(8);
        x.pass(1);
        Check.due("another one is the first to begin", x.account(8, 0), 3);
        Check.due("accounts", x.total(14), 15);
    }
}
