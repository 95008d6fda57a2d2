/** Each sentence of the promises 24 to 27 with the cases at its edges. */
public final class EdgesOfForecastsTest {
    public static void main(String[] args) {
        Sentences.promises(24, 27);
        massAfter();
        massAfterIsThatAfterPass();
        completeIn();
        forecastsKnowTheBoats();
        completeInRefused();
        bestRule();
        bestRuleOfSeveral();
        bestRuleArguments();
        beyondTheLimitOfTime();
        quote();
        quoteArguments();
        Sentences.end("EdgesOfForecastsTest");
    }

    private static void massAfter() {
        Sentences.promise(24);
        Sentences.test("Tells how much ice would be left after some hours.");
        Telling.changesNothing("massAfter", Stories::busy, x -> x.massAfter(48));
        Telling.changesNothing("massAfter", Stories::full, x -> x.massAfter(48));
        Sentences.test("`hours`: 0 to 48");
        Check.range("hours", 0, 48, Check.ARGUMENT, value -> new IcePlant().massAfter(value));
        Sentences.test("Throws `IllegalArgumentException` if hours is out of range");
        Check.argument("49", () -> Stories.busy().massAfter(49));
        Check.argument("-1", () -> Stories.busy().massAfter(-1));
        Sentences.test("Returns the mass of all stored blocks after so many hours.");
        Check.due("no silos", new IcePlant().massAfter(48), 0);
        IcePlant x = Stories.withBoats(0);
        Check.due("nothing now", x.massAfter(0), 0);
        Check.due("two blocks an hour", x.massAfter(1), 100);
        Check.due("14 hours", x.massAfter(14), 1400);
        Check.due("15 hours fill the silo", x.massAfter(15), 1500);
        Check.due("48 hours", x.massAfter(48), 1500);
        x.addSilo(1, 1, 100);
        Check.due("a second silo, whose block melts and is made again", x.massAfter(48), 1550);
        x.order(0, 75, 47, true);
        Check.due("the order gets the first two blocks", x.massAfter(1), 0);
        x.set(3, 0);
        x.order(0, 50, 48, false);
        Check.due("the debt stops the second order", x.massAfter(2), 100);
        x.pass(2);
        Check.due("now without melting, production and deliveries", x.massAfter(0), 100);
    }

    private static void massAfterIsThatAfterPass() {
        Telling.Story[] stories = {Stories::small, Stories::busy, Stories::full, Stories::placed};
        for (Telling.Story story : stories) {
            for (int hours = 1; hours <= 48; hours++) {
                IcePlant x = story.plant();
                int told = x.massAfter(hours);
                x.pass(hours);
                Check.due("after " + hours + " hours", told, x.total(4));
            }
        }
    }

    private static void completeIn() {
        Sentences.promise(25);
        Sentences.test("Tells when an order would become complete.");
        Telling.changesNothing("completeIn", Stories::small, x -> x.completeIn(3));
        Telling.changesNothing("completeIn", Stories::full, x -> x.completeIn(35));
        Sentences.test("Returns in how many hours, 1 to 48, its state would become complete; NONE if it would not in 48 hours.");
        IcePlant x = Stories.withBoats(0);
        x.set(1, 1);
        x.order(0, 50, 200, false);
        x.order(0, 47 * 50, 200, false);
        x.order(0, 1, 200, false);
        x.order(0, 1, 200, true);
        x.order(0, 1, 48, false);
        Check.due("the first hour", x.completeIn(0), 1);
        Check.due("hour 48", x.completeIn(1), 48);
        Check.due("hour 49", x.completeIn(2), IcePlant.NONE);
        Check.due("hour 50", x.completeIn(3), IcePlant.NONE);
        x.pass(1);
        Check.due("what was hour 49 is hour 48 now", x.completeIn(2), 48);
        Check.due("what was hour 50 is hour 49 now", x.completeIn(3), IcePlant.NONE);
        x.pass(1);
        Check.due("what was hour 50 is hour 48 now", x.completeIn(3), 48);
        x.set(2, 2);
        Check.due("with fewest hours first", x.completeIn(4), 1);
        IcePlant y = Stories.withBoats(0);
        y.set(1, 1);
        y.order(0, 500, 10, true);
        Check.due("in its last hour", y.completeIn(0), 10);
        y.undo();
        y.order(0, 500, 9, true);
        Check.due("it would expire an hour before", y.completeIn(0), IcePlant.NONE);
        y.set(1, 0);
        Check.due("without ice", y.completeIn(0), IcePlant.NONE);
        Check.due("without silos", orderWithoutSilos().completeIn(0), IcePlant.NONE);
    }

    private static IcePlant orderWithoutSilos() {
        IcePlant x = new IcePlant();
        x.addBoat(0);
        x.order(0, 1, 200, false);
        return x;
    }

    private static void forecastsKnowTheBoats() {
        Sentences.promise(25);
        Sentences.test("Tells when an order would become complete.");
        IcePlant x = Stories.withBoats(5, 0, 9);
        x.set(1, 1);
        x.set(2, 1);
        for (int boat = 0; boat < 3; boat++) {
            x.order(boat, 100, 50, false);
        }
        Check.due("the boat with the greatest catch", x.completeIn(2), 2);
        Check.due("the next", x.completeIn(0), 4);
        Check.due("the last", x.completeIn(1), 6);
        x.pay(1, 3000);
        x.set(3, 0);
        Check.due("the boat that has paid in advance", x.completeIn(1), 4);
        Check.due("the debt of the other boat after its first block", x.completeIn(2), IcePlant.NONE);
        Sentences.promise(24);
        Sentences.test("Tells how much ice would be left after some hours.");
        Check.due("after a block for each boat, and another for boat 1", x.massAfter(5), 50);
    }

    private static void completeInRefused() {
        Sentences.promise(25);
        Sentences.test("`order`: number of an order");
        IcePlant x = Stories.withBoats(0);
        x.order(0, 1, 9, false);
        x.order(0, 1, 9, false);
        x.order(0, 1, 9, false);
        Check.range("order of three", 0, 2, Check.INDEX, value -> x.completeIn(value));
        Sentences.test("Throws `IndexOutOfBoundsException` if there is no such order");
        Check.index("without orders", () -> new IcePlant().completeIn(0));
        Check.index("the order 200 of 200", () -> Stories.placed().completeIn(200));
        Check.index("the order -1 of 200", () -> Stories.placed().completeIn(-1));
        Sentences.test("Throws `IllegalStateException` if the order is not open");
        IcePlant y = Stories.busy();
        Check.state("a complete one", () -> y.completeIn(0));
        Check.state("an expired one", () -> y.completeIn(1));
        Check.state("a cancelled one", () -> y.completeIn(2));
        Check.allowed("an open one", () -> y.completeIn(3));
        Check.state("the order 199 of 200", () -> Stories.placed().completeIn(199));
    }

    private static void bestRule() {
        Sentences.promise(26);
        Sentences.test("Finds the best melting rule for a silo.");
        Telling.changesNothing("bestRule", Stories::small, x -> x.bestRule(0, 24));
        Telling.changesNothing("bestRule", Stories::full, x -> x.bestRule(4, 24));
        Sentences.test("Returns the rule, 0 to 3, for this silo, with which the least mass would melt in all silos");
        // One block of 100 and a strength of 10: rule 0 takes 10, rule 1 10, rule 2 heat / 2, rule 3 10.
        int[][] due = {{22, 0}, {20, 0}, {19, 2}, {0, 2}, {-20, 2}};
        for (int[] row : due) {
            IcePlant x = one(100, 10, row[0]);
            Check.due("with " + row[0] + " degrees", x.bestRule(0, 1), row[1]);
        }
        IcePlant x = one(90, 10, 45);
        Check.due("10, 9, 22, 10", x.bestRule(0, 1), 1);
        IcePlant y = one(200, 10, 45);
        Check.due("10, 20, 22, 10: the lowest of two", y.bestRule(0, 1), 0);
        y.set(1, 1);
        y.pass(1);
        Check.due("20, 38, 10, 10: the lowest of two", y.bestRule(0, 1), 2);
        y.setTemperature(2, 45);
        Check.due("20, 38, 44, 10", y.bestRule(0, 1), 3);
        Check.due("the rule of the silo stays", y.silo(0, 1), 0);
    }

    /** One block of this mass, and this temperature in the next hour. */
    private static IcePlant one(int mass, int strength, int degrees) {
        IcePlant x = new IcePlant();
        x.addSilo(5, 0, strength);
        x.set(0, mass);
        x.set(1, 1);
        x.pass(1);
        x.set(1, 0);
        x.setTemperature(1, degrees);
        return x;
    }

    private static void bestRuleOfSeveral() {
        Sentences.promise(26);
        Sentences.test("in the next hours; the lowest one of several.");
        IcePlant x = new IcePlant();
        x.addSilo(5, 3, 100);
        Check.due("nothing can melt in the first hour", x.bestRule(0, 1), 0);
        x.setStrength(0, 0);
        Check.due("nothing can melt with the strength 0", x.bestRule(0, 24), 0);
        IcePlant y = new IcePlant();
        y.addSilo(1, 0, 100);
        y.pass(1);
        y.setTemperature(1, 45);
        Check.due("all rules take all of the only block", y.bestRule(0, 1), 0);
        IcePlant z = one(100, 10, 0);
        z.setTemperature(2, 45);
        Check.due("0 in the first hour with rule 2", z.bestRule(0, 1), 2);
        Check.due("20, 19, 22, 20 in two hours", z.bestRule(0, 2), 1);
        // What does not fit into silo 0 melts in silo 1, so that the best is what is best for both.
        IcePlant two = new IcePlant();
        two.addSilo(1, 0, 50);
        two.addSilo(30, 0, 100);
        two.set(1, 1);
        two.pass(1);
        Check.due("150, 44 + 100, 75 + 50, 150 in three hours", two.bestRule(0, 3), 2);
        two.addSilo(1, 0, 0);
        Check.due("a silo in which nothing melts", two.bestRule(2, 24), 0);
        IcePlant next = new IcePlant();
        next.addSilo(1, 2, 0);
        next.addSilo(1, 1, 10);
        next.set(0, 200);
        next.pass(1);
        next.setTemperature(1, 45);
        Check.due("of silo 1, whose rule is 1: 10, 20, 22, 10", next.bestRule(1, 1), 0);
        next.setRule(1, 3);
        Check.due("whose rule is 3", next.bestRule(1, 1), 0);
        next.setTemperature(1, 5);
        Check.due("10, 20, 2, 10", next.bestRule(1, 1), 2);
        IcePlant sold = one(100, 10, 0);
        sold.addBoat(0);
        sold.order(0, 100, 1, true);
        sold.setTemperature(1, 10);
        Check.due("90, 90, 95, 90 are too few for the order: 10, 10, 5, 10", sold.bestRule(0, 1), 2);
        sold.order(0, 91, 9, true);
        sold.setTemperature(2, 45);
        Check.due("with rule 2 the order takes the block before it melts on", sold.bestRule(0, 2), 2);
    }

    private static void bestRuleArguments() {
        Sentences.promise(26);
        Sentences.test("`silo`: number of a silo");
        IcePlant x = Stories.busy();
        IcePlant full = Stories.full();
        Check.range("silo of two", 0, 1, Check.INDEX, value -> x.bestRule(value, 1));
        Check.range("silo of five", 0, 4, Check.INDEX, value -> full.bestRule(value, 1));
        Sentences.test("`hours`: 1 to 24");
        Check.range("hours", 1, 24, Check.ARGUMENT, value -> x.bestRule(0, value));
        Sentences.test("Throws `IndexOutOfBoundsException` if there is no such silo");
        Check.index("without silos", () -> new IcePlant().bestRule(0, 1));
        Check.index("the silo is listed before the hours", () -> x.bestRule(2, 0));
        Check.index("the silo is listed before the hours", () -> x.bestRule(-1, 25));
        Sentences.test("Throws `IllegalArgumentException` if hours is out of range");
        Check.argument("25", () -> x.bestRule(0, 25));
        Check.argument("0", () -> x.bestRule(0, 0));
    }

    private static void beyondTheLimitOfTime() {
        IcePlant x = Stories.late();
        Check.state("2 hours", () -> x.pass(2));
        int[] hours = {0, 1, 2, 48};
        for (int round = 0; round < 2; round++) {
            Sentences.promise(24);
            Sentences.test("(The limit of time does not apply.)");
            for (int later : hours) {
                // Nothing melts, as 10 * 1 / 20 is 0; the order takes the blocks of the first two hours.
                int due = 50 * Math.max(0, later + round - 2);
                Check.due("massAfter " + later, x.massAfter(later), Math.min(1500, due));
            }
            Sentences.promise(25);
            Sentences.test("(The limit of time does not apply.)");
            Check.due("completeIn", x.completeIn(0), 2 - round);
            Sentences.promise(26);
            Sentences.test("(The limit of time does not apply.)");
            Check.due("bestRule", x.bestRule(0, 24), 2);
            Check.due("time", x.total(0), 9999 + round);
            if (round == 0) {
                Check.due("the last hour", x.pass(1), 50);
                Check.state("no more", () -> x.pass(1));
            }
        }
    }

    private static void quote() {
        Sentences.promise(27);
        Sentences.test("Computes what a mass would cost a boat.");
        Telling.changesNothing("quote", Stories::busy, x -> x.quote(0, 9999, 1));
        Sentences.test("Returns the price of a block with this mass in this band.");
        IcePlant x = new IcePlant();
        x.addBoat(4999);
        x.addBoat(5000);
        x.addBoat(5001);
        int[][] due = {{0, 1, 0, 15}, {0, 1, 1, 20}, {1, 1, 0, 14}, {1, 1, 1, 18}, {2, 1, 0, 14}, {2, 9, 0, 122},
            {0, 9999, 1, 199980}, {1, 9999, 1, 179982}, {0, 9999, 0, 149985}, {1, 9999, 0, 134987}, {1, 0, 1, 0}};
        for (int[] row : due) {
            Check.due("boat " + row[0] + ", mass " + row[1] + ", band " + row[2], x.quote(row[0], row[1], row[2]), row[3]);
        }
        x.set(4, 999);
        x.set(5, 999);
        x.set(7, 100);
        Check.due("the highest price", x.quote(0, 9999, 1), 9989001);
        Check.due("with 100 percent off", x.quote(1, 9999, 1), 0);
        x.set(7, 99);
        Check.due("with 99 percent off, 9889110.99 rounded down", x.quote(1, 9999, 0), 9989001 - 9889110);
        x.set(7, 0);
        Check.due("with 0 percent off", x.quote(2, 9999, 0), 9989001);
        x.set(4, 0);
        Check.due("at the price 0", x.quote(0, 9999, 1), 0);
        x.set(7, 50);
        x.set(6, 0);
        x.setCatch(0, 0);
        Check.due("the catch 0 is at least the discount catch 0", x.quote(0, 2, 0), 999);
        x.set(6, 1000000);
        x.setCatch(0, 999999);
        Check.due("a catch of 999999", x.quote(0, 2, 0), 1998);
        x.setCatch(0, 1000000);
        Check.due("a catch of 1000000", x.quote(0, 2, 0), 999);
    }

    private static void quoteArguments() {
        Sentences.promise(27);
        Sentences.test("`boat`: number of a boat");
        IcePlant x = Stories.busy();
        IcePlant full = Stories.full();
        Check.range("boat of two", 0, 1, Check.INDEX, value -> x.quote(value, 1, 0));
        Check.range("boat of eight", 0, 7, Check.INDEX, value -> full.quote(value, 1, 1));
        Sentences.test("`mass`: 0 to 9999");
        Check.range("mass", 0, 9999, Check.ARGUMENT, value -> x.quote(0, value, 0));
        Sentences.test("`band`: 0 or 1");
        Check.range("band", 0, 1, Check.ARGUMENT, value -> x.quote(0, 1, value));
        Sentences.test("Throws `IndexOutOfBoundsException` if there is no such boat");
        Check.index("without boats", () -> new IcePlant().quote(0, 1, 0));
        Check.index("the boat is listed before the mass", () -> x.quote(2, 10000, 0));
        Check.index("the boat is listed before the band", () -> x.quote(-1, 1, 2));
        Sentences.test("Throws `IllegalArgumentException` if mass or band is out of range");
        Check.argument("mass alone", () -> x.quote(0, 10000, 0));
        Check.argument("band alone", () -> x.quote(0, 9999, 2));
        Check.argument("both", () -> x.quote(1, -1, -1));
    }
}
