/** Each sentence of the promises 1 to 8 with the cases at its edges. */
public final class EdgesOfPlantTest {
    public static void main(String[] args) {
        Sentences.promises(1, 8);
        newPlant();
        addSilo();
        addSiloLimits();
        setRule();
        setStrength();
        setTemperature();
        set();
        setRanges();
        move();
        moveRefused();
        pass();
        passToTheLimitOfTime();
        Sentences.end("EdgesOfPlantTest");
    }

    private static IcePlant withSilos(int... capacities) {
        IcePlant x = new IcePlant();
        for (int capacity : capacities) {
            x.addSilo(capacity, 0, 0);
        }
        return x;
    }

    private static void newPlant() {
        Sentences.promise(1);
        Sentences.test("Creates a plant without silos and boats at the time 0.");
        IcePlant x = new IcePlant();
        for (int property = 0; property < 16; property++) {
            Check.due("total " + property, x.total(property), 0);
        }
        Check.index("no silo 0", () -> x.silo(0, 0));
        Check.index("no block", () -> x.block(0, 0, 0));
        Check.index("no boat 0", () -> x.boat(0, 0));
        Check.index("no order 0", () -> x.orderProperty(0, 0));
        Check.index("no receipt", () -> x.receipt(0, 0));
        Check.index("no account", () -> x.account(0, 0));
        Check.index("no account of a boat", () -> x.findAccount(0, 0));
        Check.dueDouble("mean age", x.meanAge(), 0.0);
        Check.due("an empty text has no error", x.errorPosition(), -1);
        Check.due("an empty text has no kind of error", x.errorKind(), 0);
        Check.due("length of the text", x.clear(), 0);
        Check.state("nothing to undo", x::undo);
    }

    private static void addSilo() {
        Sentences.promise(2);
        Sentences.test("Adds a silo.");
        IcePlant x = new IcePlant();
        x.addSilo(17, 3, 41);
        int[] due = {17, 3, 41, 0, 0, 0};
        for (int property = 0; property < 6; property++) {
            Check.due("property " + property, x.silo(0, property), due[property]);
        }
        Check.index("an empty silo has no position 0", () -> x.block(0, 0, 0));
        Check.due("silos", x.total(7), 1);
        x.undo();
        x.addSilo(3, 0, 0);
        x.pass(1);
        x.undo();
        x.undo();
        x.addSilo(4, 2, 5);
        Check.due("nothing is left of the silo that has been taken back", x.silo(0, 3) + x.silo(0, 5), 0);
        Sentences.test("Undoable.");
        Telling.undoable("addSilo", Stories::small, y -> y.addSilo(30, 3, 100));
        Sentences.test("`capacity`: number of blocks, 1 to 30");
        Check.range("capacity", 1, 30, Check.ARGUMENT, value -> new IcePlant().addSilo(value, 0, 0));
        for (int capacity : new int[] {1, 30}) {
            IcePlant y = withSilos(capacity);
            y.set(1, 1);
            y.pass(capacity);
            Check.due("blocks in a full silo", y.silo(0, 3), capacity);
            y.pass(1);
            Check.due("and no more", y.silo(0, 3), capacity);
            Check.due("one is missed", y.total(5), 1);
        }
        Sentences.test("`rule`: melting rule, 0 to 3");
        Check.range("rule", 0, 3, Check.ARGUMENT, value -> new IcePlant().addSilo(1, value, 0));
        Sentences.test("`strength`: 0 to 100");
        Check.range("strength", 0, 100, Check.ARGUMENT, value -> new IcePlant().addSilo(1, 0, value));
    }

    private static void addSiloLimits() {
        Sentences.promise(2);
        Sentences.test("Returns the number of the silo.");
        IcePlant x = new IcePlant();
        for (int silo = 0; silo < 5; silo++) {
            Check.due("silo", x.addSilo(silo + 1, 0, 0), silo);
            Check.due("its capacity", x.silo(silo, 0), silo + 1);
        }
        Sentences.test("Throws `IllegalStateException` if there are 5 silos");
        Check.state("a sixth silo", () -> x.addSilo(1, 0, 0));
        Check.due("silos", x.total(7), 5);
        Check.due("saved", x.total(15), 5);
        x.undo();
        Check.due("with 4 silos there is a place again", x.addSilo(9, 0, 0), 4);
        Check.state("then there is none", () -> x.addSilo(9, 0, 0));
        Sentences.test("Throws `IllegalArgumentException` if an argument is out of range");
        IcePlant y = new IcePlant();
        Check.argument("the first alone", () -> y.addSilo(31, 3, 100));
        Check.argument("the second alone", () -> y.addSilo(30, 4, 100));
        Check.argument("the third alone", () -> y.addSilo(30, 3, 101));
        Check.argument("all of them", () -> y.addSilo(0, -1, -1));
        Check.argument("with 5 silos too, as it is listed first", () -> x.addSilo(0, 0, 0));
        Check.argument("with 5 silos, the rule", () -> x.addSilo(1, 4, 0));
        Check.argument("with 5 silos, the strength", () -> x.addSilo(1, 0, 101));
        Check.due("refused calls add nothing", y.total(7), 0);
        Check.due("refused calls save nothing", y.total(15), 0);
    }

    private static void setRule() {
        Sentences.promise(3);
        Sentences.test("Changes the melting rule of a silo.");
        IcePlant x = withSilos(5, 5, 5);
        x.setRule(1, 3);
        Check.due("the silo before it", x.silo(0, 1), 0);
        Check.due("the silo itself", x.silo(1, 1), 3);
        Check.due("the silo after it", x.silo(2, 1), 0);
        x.setStrength(1, 10);
        x.set(1, 7);
        x.pass(1);
        Check.due("it melts by the new rule, the top alone", x.massAfter(1), 350 + 340);
        x.setRule(1, 0);
        Check.due("and then by rule 0, both", x.massAfter(1), 350 + 330);
        Sentences.test("Undoable.");
        Telling.undoable("setRule", Stories::small, y -> y.setRule(1, 2));
        Telling.undoable("setRule to the same rule", Stories::small, y -> y.setRule(0, 1));
        Sentences.test("`silo`: number of a silo");
        Check.range("silo of three", 0, 2, Check.INDEX, value -> withSilos(1, 1, 1).setRule(value, 0));
        Check.range("silo of five", 0, 4, Check.INDEX, value -> withSilos(1, 1, 1, 1, 1).setRule(value, 0));
        Sentences.test("`rule`: 0 to 3");
        Check.range("rule", 0, 3, Check.ARGUMENT, value -> withSilos(1).setRule(0, value));
        Sentences.test("Returns the previous rule.");
        IcePlant z = withSilos(1);
        int[] rules = {0, 3, 3, 1, 2, 0, 0};
        for (int i = 1; i < rules.length; i++) {
            int rule = rules[i];
            Check.due("to " + rule, z.setRule(0, rule), rules[i - 1]);
        }
        Sentences.test("Throws `IndexOutOfBoundsException` if there is no such silo");
        Check.index("without silos", () -> new IcePlant().setRule(0, 0));
        Check.index("with 4 silos", () -> withSilos(1, 1, 1, 1).setRule(4, 0));
        Check.index("the silo is listed before the rule", () -> z.setRule(1, 4));
        Sentences.test("Throws `IllegalArgumentException` if rule is out of range");
        Check.argument("rule 4", () -> z.setRule(0, 4));
        Check.argument("rule -1", () -> z.setRule(0, -1));
        Check.due("the rule has stayed", z.silo(0, 1), 0);
        Telling.changesNothing("setRule 4", Stories::small, y -> refused(() -> y.setRule(0, 4)));
    }

    private static long refused(Check.Call call) {
        Check.argument("refused", call);
        return 0;
    }

    private static void setStrength() {
        Sentences.promise(4);
        Sentences.test("Changes the strength of a silo.");
        IcePlant x = withSilos(1, 1, 1);
        x.setStrength(1, 20);
        Check.due("the silo before it", x.silo(0, 2), 0);
        Check.due("the silo itself", x.silo(1, 2), 20);
        Check.due("the silo after it", x.silo(2, 2), 0);
        x.set(1, 3);
        x.pass(1);
        Check.due("it melts with the new strength", x.massAfter(1), 130);
        Sentences.test("Undoable.");
        Telling.undoable("setStrength", Stories::small, y -> y.setStrength(1, 4));
        Telling.undoable("setStrength to the same", Stories::small, y -> y.setStrength(0, 10));
        Sentences.test("`silo`: number of a silo");
        Check.range("silo of three", 0, 2, Check.INDEX, value -> withSilos(1, 1, 1).setStrength(value, 0));
        Check.range("silo of five", 0, 4, Check.INDEX, value -> withSilos(1, 1, 1, 1, 1).setStrength(value, 0));
        Sentences.test("`strength`: 0 to 100");
        Check.range("strength", 0, 100, Check.ARGUMENT, value -> withSilos(1).setStrength(0, value));
        Sentences.test("Returns the previous strength.");
        IcePlant z = withSilos(1);
        int[] strengths = {0, 100, 100, 1, 99, 0, 0};
        for (int i = 1; i < strengths.length; i++) {
            int strength = strengths[i];
            Check.due("to " + strength, z.setStrength(0, strength), strengths[i - 1]);
        }
        Sentences.test("Throws `IndexOutOfBoundsException` if there is no such silo");
        Check.index("without silos", () -> new IcePlant().setStrength(0, 0));
        Check.index("with 4 silos", () -> withSilos(1, 1, 1, 1).setStrength(4, 0));
        Check.index("the silo is listed before the strength", () -> z.setStrength(1, 101));
        Sentences.test("Throws `IllegalArgumentException` if strength is out of range");
        Check.argument("strength 101", () -> z.setStrength(0, 101));
        Check.argument("strength -1", () -> z.setStrength(0, -1));
        Check.due("the strength has stayed", z.silo(0, 2), 0);
    }

    private static void setTemperature() {
        Sentences.promise(5);
        Sentences.test("Changes the temperature of an hour of the day.");
        IcePlant x = new IcePlant();
        x.addSilo(1, 2, 20);
        x.pass(1);
        x.setTemperature(1, 7);
        x.setTemperature(2, 5);
        Check.due("hour 1", x.massAfter(1), 43);
        Check.due("hours 1 and 2", x.massAfter(2), 38);
        Check.due("hour 3 has the first temperature", x.massAfter(3), 28);
        Sentences.test("Undoable.");
        Telling.undoable("setTemperature", Stories::small, y -> y.setTemperature(23, 45));
        Telling.undoable("setTemperature to the same", Stories::small, y -> y.setTemperature(0, 10));
        Sentences.test("`hour`: 0 to 23");
        Check.range("hour", 0, 23, Check.INDEX, value -> new IcePlant().setTemperature(value, 0));
        Sentences.test("`degrees`: -20 to 45");
        Check.range("degrees", -20, 45, Check.ARGUMENT, value -> new IcePlant().setTemperature(0, value));
        Sentences.test("Returns the previous temperature.");
        IcePlant z = new IcePlant();
        int[] degrees = {10, -20, 45, 45, 0, -1, -1, 10};
        for (int hour : new int[] {0, 23}) {
            for (int i = 1; i < degrees.length; i++) {
                Check.due("to " + degrees[i], z.setTemperature(hour, degrees[i]), degrees[i - 1]);
            }
        }
        Sentences.test("Throws `IndexOutOfBoundsException` if hour is out of range");
        Check.index("hour 24", () -> z.setTemperature(24, 0));
        Check.index("hour -1", () -> z.setTemperature(-1, 0));
        Check.index("the hour is listed before the degrees", () -> z.setTemperature(24, 46));
        Sentences.test("Throws `IllegalArgumentException` if degrees is out of range");
        Check.argument("degrees 46", () -> z.setTemperature(23, 46));
        Check.argument("degrees -21", () -> z.setTemperature(23, -21));
        Check.due("the temperature has stayed", z.setTemperature(23, 10), 10);
    }

    private static void set() {
        Sentences.promise(6);
        Sentences.test("Changes a setting.");
        int[] first = {50, 2, 0, 100000, 20, 15, 5000, 10};
        for (int index = 0; index < 8; index++) {
            IcePlant x = new IcePlant();
            x.set(index, 1);
            for (int other = 0; other < 8; other++) {
                Check.due("setting " + other + " after a change of " + index, x.setting(other), other == index ? 1 : first[other]);
            }
        }
        Sentences.test("Undoable.");
        for (int index = 0; index < 8; index++) {
            int changed = index;
            Telling.undoable("set " + index, Stories::small, y -> y.set(changed, 3));
            Telling.undoable("set to the same " + index, Stories::small, y -> y.set(changed, y.setting(changed)));
        }
        Sentences.test("`index`: 0 to 7");
        Check.range("index", 0, 7, Check.INDEX, value -> new IcePlant().set(value, 1));
        Sentences.test("Returns the previous value.");
        IcePlant z = new IcePlant();
        Check.due("the first change", z.set(3, 1000000), 100000);
        Check.due("from the highest", z.set(3, 0), 1000000);
        Check.due("from the lowest", z.set(3, 0), 0);
        Check.due("to the same", z.set(3, 7), 0);
    }

    private static void setRanges() {
        Sentences.promise(6);
        Sentences.test("`value`: the new value, in the range of this setting");
        int[] lowest = {1, 0, 0, 0, 0, 0, 0, 0};
        int[] highest = {200, 12, 3, 1000000, 999, 999, 1000000, 100};
        for (int index = 0; index < 8; index++) {
            int tested = index;
            Check.range("setting " + index, lowest[index], highest[index], Check.ARGUMENT,
                    value -> new IcePlant().set(tested, value));
        }
        Sentences.test("Throws `IndexOutOfBoundsException` if index is out of range");
        IcePlant x = new IcePlant();
        Check.index("index 8", () -> x.set(8, 1));
        Check.index("index -1", () -> x.set(-1, 1));
        Check.index("the index is listed before the value", () -> x.set(8, -1));
        Check.index("the index is listed before the value", () -> x.set(-1, Integer.MAX_VALUE));
        Sentences.test("Throws `IllegalArgumentException` if value is out of range");
        for (int index = 0; index < 8; index++) {
            int tested = index;
            int before = x.setting(index);
            Check.argument("below", () -> x.set(tested, lowest[tested] - 1));
            Check.argument("above", () -> x.set(tested, highest[tested] + 1));
            Check.due("the setting has stayed", x.setting(index), before);
        }
        Check.due("nothing is saved", x.total(15), 0);
    }

    private static void move() {
        Sentences.promise(7);
        Sentences.test("Moves the top block of a silo to another silo, where it becomes the top block.");
        IcePlant x = withSilos(3, 2);
        x.set(1, 1);
        for (int hour = 0; hour < 3; hour++) {
            x.set(0, 10 + hour);
            x.pass(1);
        }
        x.move(0, 1);
        Check.due("blocks in from", x.silo(0, 3), 2);
        Check.due("blocks in to", x.silo(1, 3), 1);
        Check.due("serial number", x.block(1, 0, 0), 2);
        Check.due("mass", x.block(1, 0, 1), 12);
        Check.due("age", x.block(1, 0, 2), 1);
        x.move(0, 1);
        Check.due("above the other one", x.block(1, 1, 0), 1);
        Check.due("which stays below", x.block(1, 0, 0), 2);
        Check.index("the position is free in from", () -> x.block(0, 1, 0));
        Check.due("what remains", x.block(0, 0, 0), 0);
        Check.due("the mass of all", x.total(4), 33);
        x.move(1, 0);
        Check.due("and back", x.block(0, 1, 0), 1);
        Sentences.test("Undoable.");
        Telling.undoable("move", Stories::small, y -> y.move(0, 1));
        Telling.undoable("move of the last one", Stories::small, y -> y.move(1, 0));
        Sentences.test("Returns the serial number of the block.");
        IcePlant z = withSilos(2, 30);
        z.set(1, 4);
        z.pass(1);
        Check.due("from silo 0", z.move(0, 1), 1);
        Check.due("back from silo 1", z.move(1, 0), 1);
        Check.due("again", z.move(0, 1), 1);
        Check.due("the serial number 0", z.move(0, 1), 0);
    }

    /** Three silos of two places, with one block each. */
    private static IcePlant spread() {
        IcePlant x = withSilos(2, 2, 2);
        x.pass(1);
        x.move(0, 1);
        x.set(1, 1);
        x.pass(1);
        x.move(0, 2);
        return x;
    }

    private static void moveRefused() {
        Sentences.promise(7);
        Sentences.test("`from`: number of a silo");
        Check.range("from", 0, 2, Check.INDEX, value -> spread().move(value, value == 1 ? 0 : 1));
        Sentences.test("`to`: number of another silo");
        Check.range("to", 0, 2, Check.INDEX, value -> spread().move(value == 1 ? 0 : 1, value));
        Sentences.test("Throws `IndexOutOfBoundsException` if from or to is not the number of a silo");
        Check.index("without silos", () -> new IcePlant().move(0, 0));
        IcePlant x = spread();
        Check.index("both, and equal", () -> x.move(3, 3));
        Check.index("both, and equal", () -> x.move(-1, -1));
        Check.index("from alone", () -> x.move(3, 0));
        Check.index("to alone", () -> x.move(0, 3));
        IcePlant y = withSilos(2, 2);
        Check.index("to, and from is empty", () -> y.move(0, 2));
        Check.index("from, and to is another", () -> y.move(-1, 1));
        Sentences.test("Throws `IllegalArgumentException` if from and to are equal");
        Check.argument("with a block and a free place", () -> x.move(1, 1));
        Check.argument("without a block", () -> y.move(1, 1));
        y.pass(1);
        Check.argument("in a full silo", () -> y.move(0, 0));
        Sentences.test("Throws `IllegalStateException` if there is no block in from, or to has as many blocks");
        Check.state("no block in from", () -> y.move(1, 0));
        y.move(0, 1);
        Check.due("the last place of to", y.move(0, 1), 0);
        Check.state("no block in from, and to is full", () -> y.move(0, 1));
        y.pass(1);
        Check.state("to is full", () -> y.move(0, 1));
        Check.state("to is full", () -> y.move(1, 0));
        Check.due("each silo keeps its blocks", y.silo(0, 3) * 10 + y.silo(1, 3), 22);
        Check.due("the top blocks stay", y.block(0, 1, 0) * 10 + y.block(1, 1, 0), 30);
    }

    private static void pass() {
        Sentences.promise(8);
        Sentences.test("Lets hours pass.");
        IcePlant x = withSilos(30);
        x.set(1, 1);
        x.pass(3);
        Check.due("time", x.total(0), 3);
        Check.due("blocks", x.total(6), 3);
        x.pass(1);
        Check.due("time", x.total(0), 4);
        Check.due("age of the first", x.block(0, 0, 2), 4);
        Sentences.test("Undoable.");
        Telling.undoable("pass", Stories::small, y -> y.pass(1));
        Telling.undoable("pass of 48 hours", Stories::small, y -> y.pass(48));
        Sentences.test("`hours`: 1 to 48");
        Check.range("hours", 1, 48, Check.ARGUMENT, value -> new IcePlant().pass(value));
        IcePlant y = new IcePlant();
        y.pass(48);
        Check.due("48 hours", y.total(0), 48);
        Sentences.test("Returns the mass that is delivered in these hours.");
        IcePlant z = Stories.withBoats(0, 0);
        Check.due("no order", z.pass(1), 0);
        z.order(0, 130, 9, false);
        z.order(1, 60, 9, false);
        Check.due("to one boat, of this hour and the one before", z.pass(1), 150 + 50);
        Check.due("to the other boat", z.pass(1), 50);
        Check.due("to none", z.pass(48), 0);
        z.order(0, 1000, 9, false);
        z.order(1, 1000, 2, false);
        Check.due("30 blocks, and two more, in two hours", z.pass(2), 1600);
        Check.due("all together", z.total(2), 1850);
        Sentences.test("Throws `IllegalArgumentException` if hours is out of range");
        Check.argument("hours 0", () -> z.pass(0));
        Check.argument("hours 49", () -> z.pass(49));
        Check.due("no time has passed", z.total(0), 53);
    }

    private static IcePlant at(int time) {
        IcePlant x = new IcePlant();
        for (int passed = 0; passed < time; passed += 48) {
            x.pass(Math.min(48, time - passed));
        }
        return x;
    }

    private static void passToTheLimitOfTime() {
        Sentences.promise(8);
        Sentences.test("Throws `IllegalStateException` if the time would become greater than 10000");
        IcePlant x = at(9952);
        Check.due("48 hours to 10000", x.pass(48), 0);
        Check.due("time", x.total(0), 10000);
        Check.state("one more", () -> x.pass(1));
        Check.state("48 more", () -> x.pass(48));
        Check.argument("the hours are listed first", () -> x.pass(0));
        Check.argument("the hours are listed first", () -> x.pass(49));
        x.undo();
        Check.due("time after undo", x.total(0), 9952);
        IcePlant y = at(9953);
        Check.state("48 hours to 10001", () -> y.pass(48));
        Check.due("none of these hours has passed", y.total(0), 9953);
        Check.due("nor has production", y.total(5), 2 * 9953);
        Check.due("47 hours to 10000", y.pass(47), 0);
        IcePlant z = at(9999);
        Check.state("2 hours to 10001", () -> z.pass(2));
        Check.due("1 hour to 10000", z.pass(1), 0);
        Check.due("time", z.total(0), 10000);
        Stories.type(z, "h1");
        Check.due("in a text too", z.execute(), 0);
    }
}
