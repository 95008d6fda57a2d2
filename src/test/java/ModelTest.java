/**
 * All promises: runs of mixed calls, each answer held against that of the model. A run ends with the
 * 512th call of its plant, because what later calls answer is free; what there is is asked between the
 * changes, and the arguments are chosen by what the model knows.
 */
public final class ModelTest {
    private static final int RUNS = 3000;
    private static final int CALLS = 512;
    private static final int[] CODES = {'h', 'o', 'c', 'p', 'm', ';', ',', '!', '0', '1', '9', ' '};

    private final IcePlant plant = new IcePlant();
    private final Model model = new Model();
    private final int run;
    /** Such a run places as many orders as there may be. */
    private final boolean isForOrders;
    private long seed;
    private int calls;

    private ModelTest(int run) {
        this.run = run;
        isForOrders = run % 4 == 0;
        seed = run * 7919L + 17;
    }

    public static void main(String[] args) {
        for (int run = 0; run < RUNS; run++) {
            new ModelTest(run).go();
        }
        Check.end("ModelTest");
    }

    private void go() {
        begin();
        while (calls < CALLS) {
            if (isForOrders && any(3) != 0) {
                order(1 + any(60), 1 + any(6));
            } else if (any(5) < 3) {
                ask();
            } else {
                step();
            }
        }
    }

    private int any(int end) {
        seed = seed * 6364136223846793005L + 1442695040888963407L;
        return (int) ((seed >>> 33) % end);
    }

    /** Mostly from low to high, now and then just beside it. */
    private int near(int low, int high) {
        switch (any(20)) {
            case 0:
                return low - 1 + any(2);
            case 1:
                return high + any(2);
            default:
                return low + any(high - low + 1);
        }
    }

    private int item(int count) {
        return any(25) == 0 ? any(2) * (count + 1) - 1 : any(Math.max(1, count));
    }

    private int silo() {
        return item(model.now.silos.size());
    }

    private int boat() {
        return item(model.now.boats.size());
    }

    private int order() {
        int count = model.now.orders.size();
        return any(2) == 0 ? item(count) : Math.max(0, count - 1 - any(20));
    }

    private int position(int silo) {
        boolean there = silo >= 0 && silo < model.now.silos.size();
        return item(there ? model.now.silos.get(silo).ice.size() : 0);
    }

    /** Catches that are often alike, so that the sequence is often decided by the numbers. */
    private int load() {
        return any(3) == 0 ? near(0, 1000000) : 1000 * any(10);
    }

    private void begin() {
        int silos = any(6);
        for (int i = 0; i < silos; i++) {
            int capacity = any(3) == 0 ? 1 + any(4) : 1 + any(30);
            int rule = any(4);
            int strength = any(2) == 0 ? any(10) : any(101);
            compare("addSilo " + capacity + " " + rule + " " + strength,
                    () -> plant.addSilo(capacity, rule, strength), () -> model.addSilo(capacity, rule, strength));
        }
        int boats = any(9);
        for (int i = 0; i < boats; i++) {
            int load = load();
            compare("addBoat " + load, () -> plant.addBoat(load), () -> model.addBoat(load));
        }
    }

    private void step() {
        int kind = any(40);
        if (kind < 8) {
            int hours = any(4) == 0 ? near(1, 48) : near(1, 4);
            compare("pass " + hours, () -> plant.pass(hours), () -> model.pass(hours));
        } else if (kind < 16) {
            order(any(3) == 0 ? near(1, 9999) : near(1, 300), any(3) == 0 ? near(1, 200) : near(1, 12));
        } else if (kind < 18) {
            int number = order();
            compare("cancel " + number, () -> plant.cancel(number), () -> model.cancel(number));
        } else if (kind < 20) {
            int boat = boat();
            int amount = any(2) == 0 ? near(1, 1000000) : near(1, 3000);
            compare("pay " + boat + " " + amount, () -> plant.pay(boat, amount), () -> model.pay(boat, amount));
        } else if (kind < 22) {
            int from = silo();
            int to = silo();
            compare("move " + from + " " + to, () -> plant.move(from, to), () -> model.move(from, to));
        } else if (kind < 28) {
            change();
        } else if (kind < 31) {
            text();
        } else if (kind < 33) {
            compare("undo", plant::undo, model::undo);
        } else {
            foresee();
        }
    }

    private void order(int wanted, int hours) {
        int boat = boat();
        boolean whole = any(3) == 0;
        compare("order " + boat + " " + wanted + " " + hours + " " + whole,
                () -> plant.order(boat, wanted, hours, whole), () -> model.order(boat, wanted, hours, whole));
    }

    private void change() {
        int[] high = {200, 12, 3, 1000000, 999, 999, 1000000, 100};
        switch (any(7)) {
            case 0:
                int index = near(0, 7);
                int most = index >= 0 && index < 8 ? high[index] : 5;
                int value = most > 1000 && any(2) == 0 ? any(9000) : near(index == 0 ? 1 : 0, most);
                compare("set " + index + " " + value, () -> plant.set(index, value), () -> model.set(index, value));
                break;
            case 1:
                int hour = near(0, 23);
                int degrees = near(-20, 45);
                compare("setTemperature " + hour + " " + degrees,
                        () -> plant.setTemperature(hour, degrees), () -> model.setTemperature(hour, degrees));
                break;
            case 2:
                int silo = silo();
                int rule = near(0, 3);
                compare("setRule " + silo + " " + rule, () -> plant.setRule(silo, rule), () -> model.setRule(silo, rule));
                break;
            case 3:
                int other = silo();
                int strength = any(2) == 0 ? near(0, 100) : any(8);
                compare("setStrength " + other + " " + strength,
                        () -> plant.setStrength(other, strength), () -> model.setStrength(other, strength));
                break;
            case 4:
                int boat = boat();
                int load = load();
                compare("setCatch " + boat + " " + load, () -> plant.setCatch(boat, load), () -> model.setCatch(boat, load));
                break;
            case 5:
                int capacity = near(1, 30);
                int first = near(0, 3);
                int firstStrength = near(0, 100);
                compare("addSilo", () -> plant.addSilo(capacity, first, firstStrength),
                        () -> model.addSilo(capacity, first, firstStrength));
                break;
            default:
                int mass = load();
                compare("addBoat " + mass, () -> plant.addBoat(mass), () -> model.addBoat(mass));
                break;
        }
    }

    private void foresee() {
        switch (any(4)) {
            case 0:
                int hours = near(0, 48);
                compare("massAfter " + hours, () -> plant.massAfter(hours), () -> model.massAfter(hours));
                break;
            case 1:
                int number = order();
                compare("completeIn " + number, () -> plant.completeIn(number), () -> model.completeIn(number));
                break;
            case 2:
                int silo = silo();
                int time = near(1, 24);
                compare("bestRule " + silo + " " + time, () -> plant.bestRule(silo, time), () -> model.bestRule(silo, time));
                break;
            default:
                int boat = boat();
                int mass = near(0, 9999);
                int band = near(0, 1);
                compare("quote " + boat + " " + mass + " " + band,
                        () -> plant.quote(boat, mass, band), () -> model.quote(boat, mass, band));
                break;
        }
    }

    private void text() {
        StringBuilder made = new StringBuilder();
        int commands = any(9);
        for (int i = 0; i < commands; i++) {
            made.append(i == 0 ? "" : ";").append(command());
        }
        if (any(4) == 0 && made.length() > 0) {
            spoil(made);
        }
        for (int i = 0; i < made.length(); i++) {
            int code = made.charAt(i);
            compare("append " + (char) code, () -> plant.append(code), () -> model.append(code));
        }
        compare("errorPosition " + made, plant::errorPosition, model::errorPosition);
        compare("errorKind " + made, plant::errorKind, model::errorKind);
        compare("execute " + made, plant::execute, model::execute);
        if (any(4) != 0) {
            compare("clear", plant::clear, model::clear);
        }
    }

    private void spoil(StringBuilder made) {
        int code = any(8) == 0 ? 30 + any(99) : CODES[any(CODES.length)];
        int place = any(made.length());
        switch (any(3)) {
            case 0:
                made.setCharAt(place, (char) code);
                break;
            case 1:
                made.setLength(place);
                break;
            default:
                made.insert(place, (char) code);
                break;
        }
    }

    private String command() {
        switch (any(6)) {
            case 0:
                return "h" + (1 + any(6));
            case 1:
            case 2:
                return "o" + boat(9) + "," + any(400) + "," + (1 + any(20)) + (any(3) == 0 ? "!" : "");
            case 3:
                return "c" + boat(9) + "," + any(1000000);
            case 4:
                return "p" + boat(9) + "," + (any(2) == 0 ? "00" : "") + (1 + any(5000));
            default:
                return "m" + any(3) + "," + any(3);
        }
    }

    private int boat(int seldom) {
        return any(12) == 0 ? seldom : any(Math.max(1, model.now.boats.size()));
    }

    private void ask() {
        switch (any(5)) {
            case 0:
                int property = near(0, 15);
                compare("total " + property, () -> plant.total(property), () -> model.total(property));
                break;
            case 1:
                askAboutStore();
                break;
            case 2:
                askAboutBoats();
                break;
            case 3:
                askAboutPapers();
                break;
            default:
                askAboutTheRest();
                break;
        }
    }

    private void askAboutStore() {
        int silo = silo();
        if (any(2) == 0) {
            int property = near(0, 5);
            compare("silo " + silo + " " + property,
                    () -> plant.silo(silo, property), () -> model.silo(silo, property));
        } else {
            int position = position(silo);
            int property = near(0, 2);
            compare("block " + silo + " " + position + " " + property,
                    () -> plant.block(silo, position, property), () -> model.block(silo, position, property));
        }
    }

    private void askAboutBoats() {
        if (any(3) == 0) {
            int boat = boat();
            int property = near(0, 3);
            compare("boat " + boat + " " + property,
                    () -> plant.boat(boat, property), () -> model.boat(boat, property));
        } else {
            int order = order();
            int property = near(0, 6);
            compare("orderProperty " + order + " " + property,
                    () -> plant.orderProperty(order, property), () -> model.orderProperty(order, property));
        }
    }

    private void askAboutPapers() {
        if (any(2) == 0) {
            int index = item(Math.min(16, model.now.receipts.size()));
            int property = near(0, 4);
            compare("receipt " + index + " " + property,
                    () -> plant.receipt(index, property), () -> model.receipt(index, property));
        } else if (any(3) != 0) {
            int account = item(model.now.accounts.size());
            int property = near(0, 3);
            compare("account " + account + " " + property,
                    () -> plant.account(account, property), () -> model.account(account, property));
        } else {
            int boat = boat();
            int band = near(0, 1);
            compare("findAccount " + boat + " " + band,
                    () -> plant.findAccount(boat, band), () -> model.findAccount(boat, band));
        }
    }

    private void askAboutTheRest() {
        if (any(2) == 0) {
            int index = near(0, 7);
            compare("setting " + index, () -> plant.setting(index), () -> model.setting(index));
        } else {
            // The bits of the double, so that the answers are the same only if they are so to the last.
            compare("meanAge", () -> Double.doubleToLongBits(plant.meanAge()),
                    () -> Double.doubleToLongBits(model.meanAge()));
        }
    }

    private void compare(String made, Check.Call real, Check.Call wanted) {
        if (calls < CALLS) {
            calls++;
            Check.due("run " + run + ", call " + calls + ", " + made, real, Check.outcome(wanted));
        }
    }
}
