/** Promises 1 to 8: the new plant, its silos, its settings and the hours that pass. */
public final class PlantTest {
    public static void main(String[] args) {
        newPlant();
        addSilo();
        setRule();
        setStrength();
        setTemperature();
        set();
        settingRanges();
        move();
        moveKeepsBlocks();
        pass();
        passLimitOfTime();
        meltingRules();
        negativeHeat();
        topBlockIsThatBeforeMelting();
        meltedBlocksLeave();
        lossesAreRounded();
        production();
        fullStore();
        Check.end("PlantTest");
    }

    private static void newPlant() {
        IcePlant x = new IcePlant();
        for (int property = 0; property <= 15; property++) {
            Check.due("new total " + property, x.total(property), 0);
        }
        int[] settings = {50, 2, 0, 100000, 20, 15, 5000, 10};
        for (int index = 0; index < 8; index++) {
            Check.due("new setting " + index, x.setting(index), settings[index]);
        }
        for (int hour = 0; hour < 24; hour++) {
            Check.due("first temperature of hour " + hour, x.setTemperature(hour, 0), 10);
        }
        Check.due("NONE", IcePlant.NONE, -1);
        Check.due("two plants are apart", new IcePlant().total(15), 0);
    }

    private static void addSilo() {
        IcePlant x = new IcePlant();
        Check.argument("capacity 0", () -> x.addSilo(0, 0, 0));
        Check.argument("capacity -1", () -> x.addSilo(-1, 0, 0));
        Check.argument("capacity 31", () -> x.addSilo(31, 0, 0));
        Check.argument("rule -1", () -> x.addSilo(1, -1, 0));
        Check.argument("rule 4", () -> x.addSilo(1, 4, 0));
        Check.argument("strength -1", () -> x.addSilo(1, 0, -1));
        Check.argument("strength 101", () -> x.addSilo(1, 0, 101));
        Check.argument("greatest int", () -> x.addSilo(Integer.MAX_VALUE, 0, 0));
        Check.due("refused calls add nothing", x.total(7), 0);
        Check.due("refused calls save nothing", x.total(15), 0);
        Check.due("first silo", x.addSilo(1, 0, 0), 0);
        Check.due("second silo", x.addSilo(30, 3, 100), 1);
        Check.due("third silo", x.addSilo(7, 2, 50), 2);
        Check.due("fourth silo", x.addSilo(7, 1, 50), 3);
        Check.due("fifth silo", x.addSilo(9, 1, 51), 4);
        Check.argument("the argument before the number of silos", () -> x.addSilo(0, 0, 0));
        Check.state("sixth silo", () -> x.addSilo(1, 0, 0));
        Check.due("silos", x.total(7), 5);
        Check.due("saved states", x.total(15), 5);
        Check.due("capacity", x.silo(1, 0), 30);
        Check.due("rule", x.silo(1, 1), 3);
        Check.due("strength", x.silo(1, 2), 100);
        Check.due("last capacity", x.silo(4, 0), 9);
        Check.due("last strength", x.silo(4, 2), 51);
    }

    private static void setRule() {
        IcePlant x = new IcePlant();
        Check.index("no silo", () -> x.setRule(0, 0));
        x.addSilo(5, 2, 9);
        Check.index("silo -1", () -> x.setRule(-1, 0));
        Check.index("silo 1", () -> x.setRule(1, 0));
        Check.index("the silo before the rule", () -> x.setRule(1, 4));
        Check.argument("rule 4", () -> x.setRule(0, 4));
        Check.argument("rule -1", () -> x.setRule(0, -1));
        Check.due("refused calls save nothing", x.total(15), 1);
        Check.due("previous rule", x.setRule(0, 3), 2);
        Check.due("the new rule", x.silo(0, 1), 3);
        Check.due("previous rule 3", x.setRule(0, 0), 3);
        Check.due("unchanged rule", x.setRule(0, 0), 0);
        Check.due("each call saves", x.total(15), 4);
        x.undo();
        x.undo();
        Check.due("rule after undo", x.silo(0, 1), 3);
    }

    private static void setStrength() {
        IcePlant x = new IcePlant();
        Check.index("no silo", () -> x.setStrength(0, 0));
        x.addSilo(5, 2, 9);
        x.addSilo(5, 2, 8);
        Check.index("silo -1", () -> x.setStrength(-1, 0));
        Check.index("silo 2", () -> x.setStrength(2, 0));
        Check.index("the silo before the strength", () -> x.setStrength(2, 101));
        Check.argument("strength 101", () -> x.setStrength(0, 101));
        Check.argument("strength -1", () -> x.setStrength(0, -1));
        Check.due("refused calls save nothing", x.total(15), 2);
        Check.due("previous strength", x.setStrength(1, 100), 8);
        Check.due("the new strength", x.silo(1, 2), 100);
        Check.due("the other silo", x.silo(0, 2), 9);
        Check.due("previous strength 100", x.setStrength(1, 0), 100);
        Check.due("each call saves", x.total(15), 4);
        x.undo();
        Check.due("strength after undo", x.silo(1, 2), 100);
    }

    private static void setTemperature() {
        IcePlant x = new IcePlant();
        Check.index("hour -1", () -> x.setTemperature(-1, 0));
        Check.index("hour 24", () -> x.setTemperature(24, 0));
        Check.index("the hour before the degrees", () -> x.setTemperature(24, 46));
        Check.argument("degrees -21", () -> x.setTemperature(0, -21));
        Check.argument("degrees 46", () -> x.setTemperature(0, 46));
        Check.due("refused calls save nothing", x.total(15), 0);
        Check.due("first", x.setTemperature(0, -20), 10);
        Check.due("second", x.setTemperature(0, 45), -20);
        Check.due("third", x.setTemperature(0, 45), 45);
        Check.due("last hour", x.setTemperature(23, 1), 10);
        Check.due("each call saves", x.total(15), 4);
        x.undo();
        Check.due("after undo", x.setTemperature(23, 1), 10);
    }

    private static void set() {
        IcePlant x = new IcePlant();
        Check.index("index -1", () -> x.set(-1, 1));
        Check.index("index 8", () -> x.set(8, 1));
        Check.index("the index before the value", () -> x.set(8, -1));
        Check.due("previous mass", x.set(0, 200), 50);
        Check.due("new mass", x.setting(0), 200);
        Check.due("previous mass 200", x.set(0, 1), 200);
        Check.due("unchanged", x.set(0, 1), 1);
        Check.due("each call saves", x.total(15), 3);
        x.undo();
        x.undo();
        Check.due("after undo", x.setting(0), 200);
    }

    private static void settingRanges() {
        int[] lowest = {1, 0, 0, 0, 0, 0, 0, 0};
        int[] highest = {200, 12, 3, 1000000, 999, 999, 1000000, 100};
        for (int index = 0; index < 8; index++) {
            IcePlant x = new IcePlant();
            int number = index;
            int first = x.setting(index);
            Check.argument("too low " + index, () -> x.set(number, lowest[number] - 1));
            Check.argument("too high " + index, () -> x.set(number, highest[number] + 1));
            Check.due("refused calls save nothing", x.total(15), 0);
            Check.due("refused calls set nothing", x.setting(index), first);
            Check.due("lowest " + index, x.set(index, lowest[index]), first);
            Check.due("highest " + index, x.set(index, highest[index]), lowest[index]);
            Check.due("now " + index, x.setting(index), highest[index]);
        }
    }

    private static void move() {
        IcePlant x = new IcePlant();
        Check.index("no silos", () -> x.move(0, 0));
        x.addSilo(2, 0, 0);
        x.addSilo(2, 0, 0);
        Check.index("from -1", () -> x.move(-1, 0));
        Check.index("from 2", () -> x.move(2, 0));
        Check.index("to -1", () -> x.move(0, -1));
        Check.index("to 2", () -> x.move(0, 2));
        Check.index("equal, but no silos", () -> x.move(2, 2));
        Check.argument("equal", () -> x.move(0, 0));
        Check.argument("equal before empty", () -> x.move(1, 1));
        Check.state("empty", () -> x.move(0, 1));
        Check.due("refused calls save nothing", x.total(15), 2);
        x.pass(1);
        Check.state("from the empty one", () -> x.move(1, 0));
        Check.due("top block", x.move(0, 1), 1);
        Check.due("next top block", x.move(0, 1), 0);
        Check.due("each call saves", x.total(15), 5);
        Check.due("position 0", x.block(1, 0, 0), 1);
        Check.due("position 1", x.block(1, 1, 0), 0);
        Check.due("sizes", x.silo(0, 3) * 10 + x.silo(1, 3), 2);
        x.pass(1);
        Check.state("to the full one", () -> x.move(0, 1));
        Check.due("blocks", x.total(6), 4);
        x.undo();
        x.undo();
        Check.due("after undo", x.block(0, 0, 0), 0);
        Check.due("after undo", x.block(1, 0, 0), 1);
    }

    private static void moveKeepsBlocks() {
        IcePlant x = new IcePlant();
        x.addSilo(30, 0, 3);
        x.addSilo(30, 0, 7);
        x.set(1, 1);
        x.pass(3);
        Check.due("moved", x.move(0, 1), 2);
        Check.due("moved", x.move(0, 1), 1);
        Check.due("mass", x.block(1, 0, 1), 50);
        Check.due("age", x.block(1, 0, 2), 1);
        Check.due("mass above", x.block(1, 1, 1), 47);
        Check.due("age above", x.block(1, 1, 2), 2);
        Check.due("what has melted stays", x.silo(1, 5), 0);
        x.pass(1);
        Check.due("melts by the rule of its new silo", x.block(1, 0, 1), 43);
        Check.due("the next block comes on top", x.block(0, 1, 0), 3);
        Check.due("melted in the first", x.silo(0, 5), 3 + 6 + 3);
        Check.due("melted in the second", x.silo(1, 5), 14);
    }

    private static void pass() {
        IcePlant x = new IcePlant();
        Check.argument("hours 0", () -> x.pass(0));
        Check.argument("hours -1", () -> x.pass(-1));
        Check.argument("hours 49", () -> x.pass(49));
        Check.due("refused calls save nothing", x.total(15), 0);
        Check.due("no silo, no ice", x.pass(48), 0);
        Check.due("time", x.total(0), 48);
        Check.due("missed", x.total(5), 96);
        Check.due("one state for the call", x.total(15), 1);
        x.addSilo(30, 0, 0);
        x.addBoat(0);
        x.order(0, 120, 100, false);
        x.order(0, 230, 100, false);
        Check.due("the mass of these hours alone", x.pass(2), 200);
        Check.due("the mass of the next hours", x.pass(3), 200);
        Check.due("nothing more is wanted", x.pass(1), 0);
        Check.due("delivered", x.total(2), 400);
        Check.due("the numbers go on", x.block(0, 0, 0), 8);
        x.undo();
        x.undo();
        x.set(1, 8);
        Check.due("another way", x.pass(1), 200);
        Check.due("the numbers after undo", x.block(0, 0, 0), 8);
    }

    private static void passLimitOfTime() {
        IcePlant x = new IcePlant();
        for (int i = 0; i < 208; i++) {
            x.pass(48);
        }
        Check.due("time", x.total(0), 9984);
        Check.state("17 hours", () -> x.pass(17));
        Check.argument("the argument first", () -> x.pass(49));
        Check.due("nothing has passed", x.total(0), 9984);
        Check.due("15 hours", x.pass(15), 0);
        Check.state("2 hours", () -> x.pass(2));
        Check.due("the last hour", x.pass(1), 0);
        Check.due("time 10000", x.total(0), 10000);
        Check.state("none is left", () -> x.pass(1));
        Check.due("massAfter has no limit of time", x.massAfter(48), 0);
        x.undo();
        Check.due("time 9999", x.total(0), 9999);
    }

    private static void meltingRules() {
        int[] masses = {43, 49, 38, 50};
        for (int rule = 0; rule < 4; rule++) {
            IcePlant x = new IcePlant();
            x.addSilo(2, rule, 7);
            if (rule == 1) {
                x.setStrength(0, 1);
            }
            x.setTemperature(1, 35);
            x.pass(2);
            Check.due("lower block, rule " + rule, x.block(0, 0, 1), masses[rule]);
            Check.due("top block, rule " + rule, x.block(0, 1, 1), rule == 3 ? 43 : masses[rule]);
            Check.due("melted, rule " + rule, x.silo(0, 5), 100 - x.silo(0, 4));
            Check.due("melted in all, rule " + rule, x.total(3), x.silo(0, 5));
        }
        IcePlant y = new IcePlant();
        y.addSilo(1, 1, 2);
        y.pass(2);
        Check.due("50 * 2 / 100 needs no rounding", y.block(0, 0, 1), 49);
        y.setStrength(0, 100);
        Check.due("all of it", y.massAfter(1), 50);
        y.setStrength(0, 0);
        y.pass(1);
        Check.due("strength 0", y.block(0, 0, 1), 49);
    }

    private static void negativeHeat() {
        IcePlant x = new IcePlant();
        x.addSilo(1, 2, 100);
        x.set(1, 1);
        x.setTemperature(1, -20);
        x.setTemperature(2, 0);
        x.setTemperature(3, 1);
        x.setTemperature(0, 3);
        x.pass(3);
        Check.due("no heat, no loss", x.block(0, 0, 1), 50);
        x.pass(1);
        Check.due("1 * 100 / 20", x.block(0, 0, 1), 45);
        x.setTemperature(4, 5);
        x.setStrength(0, 7);
        x.pass(1);
        Check.due("5 * 7 / 20 rounded down", x.block(0, 0, 1), 44);
        x.setTemperature(5, 45);
        x.setStrength(0, 100);
        x.pass(1);
        Check.due("45 * 100 / 20 is more than there is", x.block(0, 0, 0), 1);
        x.setStrength(0, 0);
        x.pass(18);
        x.setStrength(0, 100);
        x.pass(1);
        Check.due("the hours of the next day have the same temperatures", x.block(0, 0, 1), 35);
    }

    private static void topBlockIsThatBeforeMelting() {
        IcePlant x = new IcePlant();
        x.addSilo(3, 3, 100);
        x.set(1, 3);
        x.pass(1);
        x.set(1, 0);
        x.pass(1);
        Check.due("the top alone has melted", x.silo(0, 3), 2);
        Check.due("melted", x.silo(0, 5), 50);
        x.pass(1);
        Check.due("then the next", x.block(0, 0, 0), 0);
        Check.due("blocks", x.silo(0, 3), 1);
    }

    private static void meltedBlocksLeave() {
        IcePlant x = new IcePlant();
        x.addSilo(5, 0, 20);
        x.set(1, 1);
        x.pass(2);
        x.set(0, 90);
        x.pass(1);
        Check.due("three blocks", x.silo(0, 3), 3);
        x.pass(1);
        Check.due("the first has gone", x.block(0, 0, 0), 1);
        Check.due("at most its mass", x.silo(0, 5), 20 + 40 + 10 + 20 + 20);
        Check.due("the positions are less by 1", x.block(0, 1, 0), 2);
        Check.due("mass", x.block(0, 1, 1), 70);
        Check.due("age", x.block(0, 1, 2), 2);
        Check.due("top", x.block(0, 2, 0), 3);
        Check.index("no fourth", () -> x.block(0, 3, 0));
        Check.due("made = melted + left", x.total(1), x.total(3) + x.total(4));
    }

    private static void lossesAreRounded() {
        int[][] due = {
            {1, 67, 3, 10, 3}, {1, 200, 100, 10, 200}, {1, 200, 99, 10, 198}, {1, 1, 1, 10, 1}, {1, 50, 2, 10, 1},
            {2, 200, 99, 40, 198}, {2, 200, 39, 1, 1}, {2, 200, 19, 1, 0}, {2, 200, 100, 45, 200}, {0, 3, 4, 10, 3}};
        for (int[] row : due) {
            IcePlant x = new IcePlant();
            x.addSilo(1, row[0], row[2]);
            x.set(0, row[1]);
            x.setTemperature(1, row[3]);
            x.pass(1);
            x.set(1, 0);
            x.pass(1);
            Check.due("rule " + row[0] + ", mass " + row[1] + ", strength " + row[2], x.silo(0, 5), row[4]);
            Check.due("without mass it leaves", x.silo(0, 3), row[4] == row[1] ? 0 : 1);
        }
    }

    private static void fullStore() {
        IcePlant x = new IcePlant();
        for (int silo = 0; silo < 5; silo++) {
            x.addSilo(30, 0, 0);
        }
        x.set(1, 10);
        x.pass(15);
        Check.due("150 blocks", x.total(6), 150);
        Check.due("nothing has melted in five silos", x.total(3), 0);
        Check.due("none is missed", x.total(5), 0);
        Check.due("the last block", x.block(4, 29, 0), 149);
        Check.due("its age", x.block(4, 29, 2), 1);
        x.set(1, 0);
        x.addBoat(0);
        x.order(0, 149 * 50, 9, false);
        Check.due("all but one in an hour", x.pass(1), 149 * 50);
        Check.due("the last one has moved down", x.block(4, 0, 0), 149);
        x.undo();
        x.cancel(0);
        x.order(0, 7500, 9, true);
        Check.due("all in an hour", x.pass(1), 7500);
        Check.due("no block is left", x.total(6), 0);
        for (int i = 0; i < 4; i++) {
            x.undo();
        }
        Check.due("no order", x.total(9), 0);
        x.set(1, 1);
        x.pass(1);
        Check.due("one is missed", x.total(5), 1);
        x.undo();
        x.order(0, 50, 1, false);
        x.pass(1);
        x.set(0, 77);
        x.pass(1);
        Check.due("the next serial number after undo", x.block(0, 29, 0), 150);
        Check.due("its mass", x.block(0, 29, 1), 77);
    }

    private static void production() {
        IcePlant x = new IcePlant();
        x.addSilo(2, 0, 0);
        x.addSilo(3, 0, 0);
        x.set(1, 12);
        x.set(0, 200);
        x.pass(1);
        Check.due("first silo", x.silo(0, 3), 2);
        Check.due("second silo", x.silo(1, 3), 3);
        Check.due("missed", x.total(5), 7);
        Check.due("made", x.total(1), 1000);
        Check.due("serial numbers", x.block(1, 2, 0), 4);
        x.addSilo(1, 0, 0);
        x.pass(1);
        Check.due("missed blocks have no number", x.block(2, 0, 0), 5);
        Check.due("missed in all", x.total(5), 18);
        x.set(1, 0);
        x.pass(5);
        Check.due("no production, none missed", x.total(5), 18);
        Check.due("age", x.block(0, 0, 2), 7);
    }
}
