/** Promises 24 to 27: what would be; nothing changes. */
public final class ForecastTest {
    public static void main(String[] args) {
        massAfter();
        massAfterWithOrders();
        completeIn();
        completeInWaits();
        forecastsSeeEachOrder();
        bestRule();
        bestRuleLooksAtAllSilos();
        quote();
        beyondTheLimitOfTime();
        nothingChanges();
        Check.end("ForecastTest");
    }

    private static void massAfter() {
        IcePlant x = new IcePlant();
        Check.argument("hours -1", () -> x.massAfter(-1));
        Check.argument("hours 49", () -> x.massAfter(49));
        Check.due("no silos", x.massAfter(48), 0);
        x.addSilo(3, 0, 10);
        x.pass(1);
        Check.due("now", x.massAfter(0), 100);
        Check.due("in an hour", x.massAfter(1), 130);
        Check.due("in two hours", x.massAfter(2), 100);
        Check.due("in three hours", x.massAfter(3), 70);
        int later = x.massAfter(48);
        x.pass(48);
        Check.due("in 48 hours", x.total(4), later);
    }

    private static void massAfterWithOrders() {
        IcePlant x = new IcePlant();
        x.addSilo(30, 0, 0);
        x.addBoat(0);
        x.order(0, 260, 9, false);
        Check.due("all is delivered", x.massAfter(2), 0);
        Check.due("the order is complete then", x.massAfter(3), 0);
        Check.due("and no longer then", x.massAfter(4), 100);
    }

    private static void completeIn() {
        IcePlant x = new IcePlant();
        Check.index("no order", () -> x.completeIn(0));
        x.addSilo(30, 0, 0);
        x.addBoat(0);
        x.order(0, 100, 9, false);
        x.order(0, 4700, 200, false);
        x.order(0, 1, 200, false);
        x.order(0, 1, 9, false);
        x.order(0, 50, 1, false);
        Check.index("order -1", () -> x.completeIn(-1));
        Check.index("order 5", () -> x.completeIn(5));
        Check.due("in the first hour", x.completeIn(0), 1);
        Check.due("in hour 48", x.completeIn(1), 48);
        Check.due("in hour 49", x.completeIn(2), -1);
        Check.due("it expires before", x.completeIn(3), -1);
        x.cancel(1);
        Check.state("a cancelled one", () -> x.completeIn(1));
        Check.due("now in hour 2", x.completeIn(2), 2);
        x.pass(1);
        Check.state("a complete one", () -> x.completeIn(0));
        Check.state("an expired one", () -> x.completeIn(4));
        Check.due("an hour later", x.completeIn(2), 1);
    }

    private static void completeInWaits() {
        IcePlant x = new IcePlant();
        x.addSilo(30, 0, 0);
        x.addBoat(0);
        x.set(1, 1);
        x.order(0, 500, 10, true);
        Check.due("a whole order waits, and its last hour still counts", x.completeIn(0), 10);
        x.cancel(0);
        x.order(0, 500, 9, true);
        Check.due("an hour too short", x.completeIn(1), -1);
        x.cancel(1);
        x.set(3, 0);
        x.order(0, 1, 200, false);
        x.order(0, 1, 200, false);
        Check.due("the debt of the first stops the second", x.completeIn(3), -1);
        x.pay(0, 750);
        Check.due("the debt is not greater than the limit", x.completeIn(3), 2);
    }

    private static void forecastsSeeEachOrder() {
        IcePlant x = new IcePlant();
        x.addSilo(30, 0, 0);
        x.addBoat(7);
        x.addBoat(9);
        x.set(1, 1);
        x.set(2, 1);
        x.order(0, 100, 50, false);
        x.order(1, 100, 50, false);
        Check.due("the greater catch comes first", x.completeIn(1), 2);
        Check.due("the smaller catch comes later", x.completeIn(0), 4);
        x.setCatch(0, 10);
        Check.due("now the other way round", x.completeIn(1), 4);
        Check.due("now the other way round", x.completeIn(0), 2);
        x.cancel(1);
        x.cancel(0);
        x.order(1, 200, 50, true);
        Check.due("a whole order leaves the ice where it is", x.massAfter(3), 150);
        Check.due("until there is enough", x.massAfter(4), 0);
        Check.due("complete then", x.completeIn(2), 4);
        x.pass(4);
        x.set(3, 2000);
        x.order(1, 50, 50, false);
        x.order(0, 50, 50, false);
        Check.due("the debt of the boat 1 is greater than the limit", x.completeIn(3), -1);
        Check.due("that of the boat 0 is not", x.completeIn(4), 1);
    }

    private static void bestRule() {
        IcePlant x = new IcePlant();
        Check.index("no silo", () -> x.bestRule(0, 1));
        x.addSilo(30, 0, 10);
        Check.index("silo -1", () -> x.bestRule(-1, 1));
        Check.index("silo 1", () -> x.bestRule(1, 1));
        Check.index("the silo before the hours", () -> x.bestRule(1, 0));
        Check.argument("hours 0", () -> x.bestRule(0, 0));
        Check.argument("hours 25", () -> x.bestRule(0, 25));
        Check.due("nothing melts: the lowest of all", x.bestRule(0, 1), 0);
        x.pass(1);
        Check.due("20, 10, 10, 10: the lowest of three", x.bestRule(0, 1), 1);
        x.setTemperature(1, 8);
        Check.due("20, 10, 8, 10", x.bestRule(0, 1), 2);
        x.setTemperature(1, 45);
        x.setStrength(0, 100);
        Check.due("100, 100, 100, 50", x.bestRule(0, 1), 3);
        x.setStrength(0, 0);
        Check.due("nothing melts", x.bestRule(0, 24), 0);
        x.setStrength(0, 3);
        x.pass(1);
        x.setTemperature(2, 0);
        Check.due("no heat for an hour", x.bestRule(0, 1), 2);
        Check.due("but later", x.bestRule(0, 20), 3);
        Check.due("the rule stays", x.silo(0, 1), 0);
    }

    private static void bestRuleLooksAtAllSilos() {
        IcePlant x = new IcePlant();
        x.addSilo(1, 0, 50);
        x.addSilo(30, 0, 100);
        x.set(1, 1);
        x.pass(1);
        Check.due("50, 25, 25, 50 in an hour", x.bestRule(0, 1), 1);
        // What does not fit into the first silo melts in the second one within an hour.
        Check.due("150, 44 + 100, 75 + 50, 150 in three hours", x.bestRule(0, 3), 2);
        x.setStrength(1, 0);
        Check.due("150, 44, 75, 150", x.bestRule(0, 3), 1);
    }

    private static void quote() {
        IcePlant x = new IcePlant();
        Check.index("no boat", () -> x.quote(0, 1, 0));
        x.addBoat(5000);
        x.addBoat(4999);
        Check.index("boat -1", () -> x.quote(-1, 1, 0));
        Check.index("boat 2", () -> x.quote(2, 1, 0));
        Check.index("the boat first", () -> x.quote(2, -1, 2));
        Check.argument("mass -1", () -> x.quote(0, -1, 0));
        Check.argument("mass 10000", () -> x.quote(0, 10000, 0));
        Check.argument("band -1", () -> x.quote(0, 1, -1));
        Check.argument("band 2", () -> x.quote(0, 1, 2));
        Check.due("nothing", x.quote(0, 0, 0), 0);
        Check.due("by night", x.quote(0, 7, 0), 105 - 10);
        Check.due("by day", x.quote(0, 7, 1), 140 - 14);
        Check.due("without a discount", x.quote(1, 7, 0), 105);
        Check.due("without a discount by day", x.quote(1, 7, 1), 140);
        x.set(4, 999);
        x.set(5, 998);
        x.set(7, 99);
        Check.due("the greatest", x.quote(1, 9999, 1), 9989001);
        Check.due("with 99 percent off", x.quote(0, 9999, 1), 9989001 - 9889110);
        Check.due("by night", x.quote(1, 9999, 0), 9979002);
        x.set(6, 4999);
        Check.due("the discount catch", x.quote(1, 100, 1), 99900 - 98901);
    }

    private static void beyondTheLimitOfTime() {
        IcePlant x = new IcePlant();
        x.addSilo(30, 1, 1);
        x.addBoat(0);
        x.set(1, 0);
        for (int i = 0; i < 208; i++) {
            x.pass(48);
        }
        x.pass(16);
        Check.state("the time is over", () -> x.pass(1));
        x.set(1, 1);
        x.order(0, 60, 5, false);
        Check.due("massAfter", x.massAfter(1), 0);
        Check.due("massAfter 48", x.massAfter(48) > 0 ? 1 : 0, 1);
        Check.due("completeIn", x.completeIn(0), 2);
        Check.due("bestRule", x.bestRule(0, 24) >= 0 ? 1 : 0, 1);
        Check.due("time", x.total(0), 10000);
    }

    private static void nothingChanges() {
        IcePlant x = new IcePlant();
        x.addSilo(30, 2, 7);
        x.addBoat(0);
        x.order(0, 300, 20, false);
        x.pass(1);
        String before = told(x);
        x.massAfter(48);
        x.completeIn(0);
        x.bestRule(0, 24);
        x.quote(0, 55, 1);
        if (!told(x).equals(before)) {
            Check.report("all there is", told(x), before);
        }
    }

    private static String told(IcePlant x) {
        StringBuilder all = new StringBuilder();
        for (int property = 0; property < 16; property++) {
            all.append(x.total(property)).append(' ');
        }
        for (int property = 0; property < 6; property++) {
            all.append(x.silo(0, property)).append(' ');
            all.append(x.orderProperty(0, property)).append(' ');
        }
        return all.append(x.boat(0, 1)).append(' ').append(x.receipt(0, 4)).toString();
    }
}
