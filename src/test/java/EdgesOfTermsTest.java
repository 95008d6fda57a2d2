/** Each sentence about the units, the settings, the silos and the blocks with the cases at its edges. */
public final class EdgesOfTermsTest {
    public static void main(String[] args) {
        parts();
        calls();
        everyKilogram();
        time();
        bands();
        divisions();
        settings();
        temperatures();
        silos();
        positions();
        removedBlocks();
        blocks();
        Sentences.end("EdgesOfTermsTest");
    }

    /** A part that is new in the document would have no test at all. */
    private static void parts() {
        StringBuilder due = new StringBuilder("IcePlant, What it is, The public face, Terms, UNITS, SETTINGS, "
                + "SILOS AND BLOCKS, BOATS AND ORDERS, WHAT HAPPENS IN AN HOUR, RECEIPTS AND ACCOUNTS, TEXT, UNDO AND ERRORS, ");
        for (int promise = 1; promise <= 33; promise++) {
            due.append("Promise ").append(promise).append(", ");
        }
        Check.same("the parts of the document", Sentences.parts(), due + "Not promised");
    }

    private static void calls() {
        Sentences.open("What it is");
        Sentences.free("A simulation of an ice plant in a fishing port.");
        Sentences.test("An object is used for at most 512 calls after it has been made");
        IcePlant x = new IcePlant();
        for (int call = 1; call < 512; call++) {
            x.pass(1);
        }
        Check.due("call 512", x.total(0), 511);
        IcePlant y = new IcePlant();
        for (int call = 1; call < 511; call += 2) {
            y.append('h');
            y.clear();
        }
        Check.due("call 511", y.append('h'), 1);
        Check.due("call 512", y.clear(), 1);
        IcePlant z = new IcePlant();
        for (int call = 1; call < 512; call++) {
            Check.state("undo", z::undo);
        }
        Check.due("call 512", z.addSilo(1, 0, 0), 0);
    }

    private static void everyKilogram() {
        Sentences.open("Terms");
        Sentences.free("The plant makes blocks of ice every hour");
        Sentences.test("every kilogram that is made is sold, melted or left.");
        Telling.Story[] stories = {Stories::empty, Stories::small, Stories::busy, Stories::full, Stories::late};
        for (Telling.Story story : stories) {
            IcePlant x = story.plant();
            Check.due("made", x.total(1), x.total(2) + x.total(3) + x.total(4));
            x.set(3, 1000000);
            x.set(1, 7);
            x.pass(1);
            Check.due("made an hour later", x.total(1), x.total(2) + x.total(3) + x.total(4));
        }
    }

    private static void time() {
        Sentences.open("UNITS");
        Sentences.free("Mass is given in kilograms, money in cents, and time in hours.");
        Sentences.test("Time begins with 0, which is the first hour of a day; the hour of the day is time % 24.");
        Check.due("the first time", new IcePlant().total(0), 0);
        // Only the hour 0 of a day is warm, so that a block melts at the times 24, 48 and 72 alone.
        IcePlant x = new IcePlant();
        for (int hour = 1; hour < 24; hour++) {
            x.setTemperature(hour, 0);
        }
        x.setTemperature(0, 7);
        x.addSilo(1, 2, 20);
        x.pass(1);
        x.set(1, 0);
        for (int time = 1; time < 75; time++) {
            x.pass(1);
            Check.due("mass after the hour " + time, x.silo(0, 4), 50 - 7 * (time / 24));
        }
    }

    private static void bands() {
        Sentences.open("UNITS");
        Sentences.test("The day band consists of the hours of the day from 6 to 21, the night band of all others.");
        IcePlant x = Stories.withBoats(0);
        x.set(1, 1);
        x.order(0, 9999, 200, false);
        for (int time = 0; time < 80; time++) {
            x.pass(1);
            int hour = time % 24;
            boolean isDay = hour >= 6 && hour <= 21;
            Check.due("price at the time " + time, x.receipt(0, 2), isDay ? 1000 : 750);
            if (time == 5) {
                Check.due("no deliveries by day until hour 5", x.findAccount(0, 1), -1);
            }
        }
        Check.due("mass by night", x.account(0, 2), 50 * (6 + 8 + 8 + 8));
        Check.due("mass by day", x.account(1, 2), 50 * (16 * 3 + 2));
    }

    private static void divisions() {
        Sentences.open("UNITS");
        Sentences.test("they are rounded down unless something else is said.");
        IcePlant x = new IcePlant();
        x.addBoat(5000);
        int[][] due = {{99, 1, 0}, {100, 1, 1}, {199, 1, 1}, {200, 1, 2}, {3, 33, 0}, {3, 34, 1}, {1, 99, 0}, {1, 100, 1}};
        for (int[] row : due) {
            x.set(4, row[0]);
            x.set(7, row[1]);
            Check.due(row[1] + " percent of " + row[0], row[0] - x.quote(0, 1, 1), row[2]);
        }
        IcePlant y = new IcePlant();
        y.addSilo(1, 2, 1);
        y.pass(1);
        int[][] losses = {{19, 0}, {20, 1}, {39, 1}, {40, 2}, {45, 2}};
        for (int[] row : losses) {
            y.setTemperature(1, row[0]);
            Check.due("the heat " + row[0] + " / 20", 50 - y.massAfter(1), row[1]);
        }
    }

    private static void settings() {
        Sentences.open("SETTINGS");
        Sentences.test("There are eight settings; their initial values and ranges are:");
        Check.index("setting 8", () -> new IcePlant().setting(8));
        Check.index("setting 8", () -> new IcePlant().set(8, 1));
        Check.due("setting 7", new IcePlant().setting(7), 10);
        Sentences.test("0: mass of a new block (50; 1 to 200); 1: production");
        int[][] due = {{50, 1, 200}, {2, 0, 12}, {0, 0, 3}, {100000, 0, 1000000}, {20, 0, 999}, {15, 0, 999},
            {5000, 0, 1000000}, {10, 0, 100}};
        for (int index = 0; index < 8; index++) {
            int tested = index;
            Check.due("initial value " + index, new IcePlant().setting(index), due[index][0]);
            Check.range("setting " + index, due[index][1], due[index][2], Check.ARGUMENT, value -> {
                IcePlant x = new IcePlant();
                int before = x.set(tested, value);
                Check.due("the initial value", before, due[tested][0]);
                Check.due("the new value", x.setting(tested), value);
                return before;
            });
        }
        Check.due("the lowest mass", massOfNew(1), 1);
        Check.due("the highest mass", massOfNew(200), 200);
        IcePlant x = Stories.withBoats();
        x.set(1, 12);
        x.pass(1);
        Check.due("the highest production", x.total(6), 12);
        x.set(1, 0);
        x.pass(1);
        Check.due("the lowest production", x.total(6), 12);
    }

    private static int massOfNew(int mass) {
        IcePlant x = Stories.withBoats();
        x.set(0, mass);
        x.pass(1);
        return x.block(0, 0, 1);
    }

    private static void temperatures() {
        Sentences.open("SETTINGS");
        Sentences.test("For each hour of the day there is a temperature, initially 10.");
        IcePlant x = new IcePlant();
        for (int hour = 0; hour < 24; hour++) {
            Check.due("hour " + hour, x.setTemperature(hour, hour + 1), 10);
        }
        for (int hour = 0; hour < 24; hour++) {
            Check.due("hour " + hour + " has one of its own", x.setTemperature(hour, 0), hour + 1);
        }
        IcePlant y = new IcePlant();
        y.addSilo(1, 2, 2);
        y.pass(1);
        Check.due("each hour has the heat 10 until it is changed", y.massAfter(24), 50 - 24);
    }

    private static void silos() {
        Sentences.open("SILOS AND BLOCKS");
        Sentences.test("There are at most 5 silos, numbered from 0 in the order in which they are added.");
        IcePlant x = new IcePlant();
        for (int silo = 0; silo < 5; silo++) {
            Check.due("silo", x.addSilo(10 + silo, 0, 0), silo);
        }
        Check.state("silo 5", () -> x.addSilo(1, 0, 0));
        for (int silo = 0; silo < 5; silo++) {
            Check.due("capacity", x.silo(silo, 0), 10 + silo);
        }
        Sentences.test("A silo has a capacity (a number of blocks), a melting rule from 0 to 3 and a strength.");
        IcePlant y = new IcePlant();
        y.addSilo(1, 0, 100);
        y.addSilo(30, 3, 0);
        Check.due("of the first", y.silo(0, 0) * 10000 + y.silo(0, 1) * 1000 + y.silo(0, 2), 10100);
        Check.due("of the second", y.silo(1, 0) * 10000 + y.silo(1, 1) * 1000 + y.silo(1, 2), 303000);
        y.set(1, 12);
        y.pass(1);
        Check.due("the capacity is a number of blocks, whatever their masses", y.silo(0, 3) * 100 + y.silo(1, 3), 111);
    }

    private static void positionsAre(String what, IcePlant x, int silo, int... serials) {
        Check.due(what + ": blocks", x.silo(silo, 3), serials.length);
        for (int position = 0; position < serials.length; position++) {
            int place = position;
            Check.due(what + ": position " + position, () -> x.block(silo, place, 0), String.valueOf(serials[position]));
        }
        Check.index(what + ": nothing above", () -> x.block(silo, serials.length, 0));
    }

    private static void positions() {
        Sentences.open("SILOS AND BLOCKS");
        Sentences.test("a block that is stored gets the next higher position than all others of its silo");
        IcePlant x = new IcePlant();
        x.addSilo(4, 0, 0);
        x.addSilo(4, 0, 0);
        x.pass(1);
        positionsAre("two are made", x, 0, 0, 1);
        x.pass(1);
        positionsAre("two more", x, 0, 0, 1, 2, 3);
        x.move(0, 1);
        x.move(0, 1);
        positionsAre("moved blocks come on top", x, 1, 3, 2);
        x.pass(1);
        positionsAre("new blocks come on top", x, 0, 0, 1, 4, 5);
        x.pass(1);
        positionsAre("above moved ones too", x, 1, 3, 2, 6, 7);
        x.setRule(1, 3);
        x.setStrength(1, 20);
        x.pass(1);
        Check.due("the top block is that with the highest position", x.block(1, 3, 1), 30);
        Check.due("and no other", x.silo(1, 4), 180);
    }

    private static void removedBlocks() {
        Sentences.open("SILOS AND BLOCKS");
        Sentences.test("When a block is removed, the positions of all blocks above it become smaller by 1.");
        // The blocks 0, 1 and 2 in each order; the delivery removes the block 0.
        int[][] moves = {{0, 1, 2}, {2, 0, 1}, {2, 1, 0}};
        for (int[] order : moves) {
            IcePlant x = new IcePlant();
            for (int silo = 0; silo < 3; silo++) {
                x.addSilo(1, 0, 0);
            }
            x.addSilo(30, 0, 0);
            x.addBoat(0);
            x.set(1, 3);
            x.pass(1);
            for (int silo : order) {
                x.move(silo, 3);
            }
            positionsAre("before", x, 3, order);
            x.set(1, 0);
            x.order(0, 50, 9, false);
            x.pass(1);
            int[] left = order[0] == 0 ? new int[] {1, 2} : order[1] == 0 ? new int[] {2, 1} : new int[] {2, 1};
            positionsAre("after", x, 3, left);
            Check.due("their ages", x.block(3, 0, 2) * 10 + x.block(3, 1, 2), 22);
        }
        // The light blocks melt away, wherever they are.
        IcePlant y = Stories.withBoats(0);
        y.set(1, 1);
        int[] masses = {20, 90, 20, 20, 80, 20};
        for (int mass : masses) {
            y.set(0, mass);
            y.pass(1);
        }
        y.set(1, 0);
        y.setStrength(0, 20);
        y.pass(1);
        positionsAre("melted at the bottom, in the middle, and at the top", y, 0, 1, 4);
        Check.due("mass of the first", y.block(0, 0, 1), 70);
        Check.due("mass of the second", y.block(0, 1, 1), 60);
        Check.due("age of the first", y.block(0, 0, 2), 6);
        Check.due("age of the second", y.block(0, 1, 2), 3);
        y.set(1, 1);
        y.pass(1);
        positionsAre("the next block comes above them", y, 0, 1, 4, 6);
    }

    private static void blocks() {
        Sentences.open("SILOS AND BLOCKS");
        Sentences.test("A block has a serial number (0 for the first block that is made, and so on), a mass, and an age");
        IcePlant x = new IcePlant();
        x.pass(1);
        x.addSilo(2, 0, 0);
        x.addSilo(1, 0, 0);
        x.set(0, 33);
        x.set(1, 7);
        x.pass(1);
        Check.due("the first", x.block(0, 0, 0), 0);
        Check.due("the third is in the next silo", x.block(1, 0, 0), 2);
        Check.due("mass", x.block(1, 0, 1), 33);
        Check.due("the age was 0 in its first hour", x.block(1, 0, 2), 1);
        x.addSilo(30, 0, 0);
        x.set(1, 1);
        x.pass(1);
        Check.due("missed blocks have no serial number", x.block(2, 0, 0), 3);
        Check.due("an hour older", x.block(0, 0, 2), 2);
        x.undo();
        x.set(0, 44);
        x.pass(1);
        Check.due("the serial number is given again after undo", x.block(2, 0, 0), 3);
        Check.due("with the new mass", x.block(2, 0, 1), 44);
        Check.due("and the age of its first hour", x.block(2, 0, 2), 1);
    }
}
