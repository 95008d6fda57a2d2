import java.util.ArrayList;
import java.util.Arrays;
import java.util.List;

/**
 * Every call with the arguments at both sides of each edge, all of them combined, in plants that refuse
 * it for different reasons: the exception that is listed first is thrown, or none, and a refused call
 * changes nothing.
 */
public final class RefusalTest {
    private static final int BATCH = 20;
    private static final int[] LOWEST_SETTING = {1, 0, 0, 0, 0, 0, 0, 0};
    private static final int[] HIGHEST_SETTING = {200, 12, 3, 1000000, 999, 999, 1000000, 100};

    private record Trial(String call, Telling.Act act, String due) {
    }

    /** What the plant of the story is known to hold. */
    private static final class Known {
        final String name;
        final Telling.Story story;
        int[] capacities = {};
        int[] sizes = {};
        int boats;
        int[] debts = {};
        int orders;
        int firstOpen;
        int open;
        int receipts;
        int accounts;
        int time;
        int length;
        boolean hasError;
        boolean saved = true;

        Known(String name, Telling.Story story) {
            this.name = name;
            this.story = story;
        }

        boolean hasSilo(int silo) {
            return silo >= 0 && silo < capacities.length;
        }

        boolean hasBoat(int boat) {
            return boat >= 0 && boat < boats;
        }

        boolean hasOrder(int order) {
            return order >= 0 && order < orders;
        }

        boolean isOpen(int order) {
            return order >= firstOpen && order < firstOpen + open;
        }
    }

    private final Known known;
    private final List<Trial> trials = new ArrayList<>();

    private RefusalTest(Known known) {
        this.known = known;
    }

    public static void main(String[] args) {
        for (Known known : Arrays.asList(empty(), busy(), full(), late(), placed())) {
            Check.under(known.name, "A call that throws an exception changes nothing.");
            new RefusalTest(known).go();
        }
        Check.end("RefusalTest");
    }

    private static Known empty() {
        Known known = new Known("empty", Stories::empty);
        known.saved = false;
        return known;
    }

    private static Known busy() {
        Known known = new Known("busy", Stories::busy);
        known.capacities = new int[] {2, 3};
        known.sizes = new int[] {2, 2};
        known.boats = 2;
        known.debts = new int[] {630, -1000000};
        known.orders = 4;
        known.firstOpen = 3;
        known.open = 1;
        known.receipts = 1;
        known.accounts = 1;
        known.time = 3;
        known.length = 7;
        return known;
    }

    private static Known full() {
        Known known = new Known("full", Stories::full);
        known.capacities = new int[] {30, 30, 30, 30, 30};
        known.sizes = known.capacities;
        known.boats = 8;
        known.debts = new int[] {35, 35, 35, 35, 35, 32, 32, 32};
        known.orders = 36;
        known.firstOpen = 16;
        known.open = 20;
        known.receipts = 16;
        known.accounts = 16;
        known.time = 56;
        known.length = 120;
        known.hasError = true;
        return known;
    }

    private static Known late() {
        Known known = new Known("late", Stories::late);
        known.capacities = new int[] {30};
        known.sizes = new int[] {0};
        known.boats = 1;
        known.debts = new int[] {0};
        known.orders = 1;
        known.open = 1;
        known.time = 9999;
        return known;
    }

    private static Known placed() {
        Known known = new Known("placed", Stories::placed);
        known.boats = 1;
        known.debts = new int[] {0};
        known.orders = 200;
        known.firstOpen = 200;
        known.time = 10;
        return known;
    }

    private void go() {
        plantCalls();
        boatCalls();
        orderCalls();
        queries();
        paperQueries();
        forecasts();
        textCalls();
        List<Trial> refused = new ArrayList<>();
        for (Trial trial : trials) {
            if (trial.due.isEmpty()) {
                Check.allowed(trial.call, () -> trial.act.on(known.story.plant()));
            } else {
                refused.add(trial);
            }
        }
        String before = Telling.of(known.story);
        for (int first = 0; first < refused.size(); first += BATCH) {
            check(refused.subList(first, Math.min(refused.size(), first + BATCH)), before);
        }
    }

    /** All of them on one plant; only if that is not as due, each one by itself, to name it. */
    private void check(List<Trial> batch, String before) {
        for (Trial trial : batch) {
            Check.due(trial.call, () -> trial.act.on(known.story.plant()), trial.due);
        }
        String after = Telling.of(() -> refuse(batch));
        if (after.equals(before)) {
            return;
        }
        Check.report(batch.size() + " refused calls from " + batch.get(0).call, after, before);
        for (Trial trial : batch) {
            if (!Telling.of(() -> refuse(List.of(trial))).equals(before)) {
                Check.report(trial.call, "a change", "none");
            }
        }
    }

    private IcePlant refuse(List<Trial> batch) {
        IcePlant x = known.story.plant();
        for (Trial trial : batch) {
            Check.outcome(() -> trial.act.on(x));
        }
        return x;
    }

    private void add(String name, Telling.Act act, String due, int... arguments) {
        trials.add(new Trial(name + Arrays.toString(arguments), act, due));
    }

    private static boolean isIn(int value, int low, int high) {
        return value >= low && value <= high;
    }

    private static int[] around(int low, int high) {
        return new int[] {Integer.MIN_VALUE, low - 1, low, high, high + 1, Integer.MAX_VALUE};
    }

    private static String due(boolean item, boolean argument, boolean state) {
        return !item ? Check.INDEX : !argument ? Check.ARGUMENT : !state ? Check.STATE : "";
    }

    private void plantCalls() {
        for (int capacity : around(1, 30)) {
            for (int rule : around(0, 3)) {
                for (int strength : around(0, 100)) {
                    boolean fits = isIn(capacity, 1, 30) && isIn(rule, 0, 3) && isIn(strength, 0, 100);
                    add("addSilo", x -> x.addSilo(capacity, rule, strength), due(true, fits, known.capacities.length < 5),
                            capacity, rule, strength);
                }
            }
        }
        for (int silo : around(0, known.capacities.length - 1)) {
            for (int rule : around(0, 3)) {
                add("setRule", x -> x.setRule(silo, rule), due(known.hasSilo(silo), isIn(rule, 0, 3), true), silo, rule);
            }
            for (int strength : around(0, 100)) {
                add("setStrength", x -> x.setStrength(silo, strength),
                        due(known.hasSilo(silo), isIn(strength, 0, 100), true), silo, strength);
            }
            for (int to : around(0, known.capacities.length - 1)) {
                boolean there = known.hasSilo(silo) && known.hasSilo(to);
                boolean can = there && known.sizes[silo] > 0 && known.sizes[to] < known.capacities[to];
                add("move", x -> x.move(silo, to), due(there, silo != to, can), silo, to);
            }
        }
        for (int hour : around(0, 23)) {
            for (int degrees : around(-20, 45)) {
                add("setTemperature", x -> x.setTemperature(hour, degrees),
                        due(isIn(hour, 0, 23), isIn(degrees, -20, 45), true), hour, degrees);
            }
        }
        settingCalls();
        for (int hours : new int[] {Integer.MIN_VALUE, -1, 0, 1, 2, 48, 49, Integer.MAX_VALUE}) {
            add("pass", x -> x.pass(hours), due(true, isIn(hours, 1, 48), known.time + (long) hours <= 10000), hours);
        }
    }

    private void settingCalls() {
        for (int index = -1; index <= 8; index++) {
            int number = index;
            boolean there = isIn(index, 0, 7);
            int low = there ? LOWEST_SETTING[index] : 0;
            int high = there ? HIGHEST_SETTING[index] : 3;
            for (int value : around(low, high)) {
                add("set", x -> x.set(number, value), due(there, isIn(value, low, high), true), number, value);
            }
        }
        for (int index : around(0, 7)) {
            add("setting", x -> x.setting(index), due(isIn(index, 0, 7), true, true), index);
        }
    }

    private void boatCalls() {
        for (int load : around(0, 1000000)) {
            add("addBoat", x -> x.addBoat(load), due(true, isIn(load, 0, 1000000), known.boats < 8), load);
        }
        for (int boat : around(0, known.boats - 1)) {
            boolean there = known.hasBoat(boat);
            for (int load : around(0, 1000000)) {
                add("setCatch", x -> x.setCatch(boat, load), due(there, isIn(load, 0, 1000000), true), boat, load);
            }
            for (int amount : around(1, 1000000)) {
                boolean can = there && known.debts[boat] - (long) amount >= -1000000;
                add("pay", x -> x.pay(boat, amount), due(there, isIn(amount, 1, 1000000), can), boat, amount);
            }
        }
    }

    private void orderCalls() {
        for (int boat : around(0, known.boats - 1)) {
            for (int wanted : around(1, 9999)) {
                for (int hours : around(1, 200)) {
                    boolean fits = isIn(wanted, 1, 9999) && isIn(hours, 1, 200);
                    boolean can = known.open < 20 && known.orders < 200;
                    add("order", x -> x.order(boat, wanted, hours, wanted % 2 == 0), due(known.hasBoat(boat), fits, can),
                            boat, wanted, hours);
                }
            }
        }
        for (int order : around(0, known.orders - 1)) {
            add("cancel", x -> x.cancel(order), due(known.hasOrder(order), true, known.isOpen(order)), order);
            add("completeIn", x -> x.completeIn(order), due(known.hasOrder(order), true, known.isOpen(order)), order);
            for (int property : around(0, 6)) {
                add("orderProperty", x -> x.orderProperty(order, property),
                        due(known.hasOrder(order), isIn(property, 0, 6), true), order, property);
            }
        }
        for (int order : around(known.firstOpen, known.firstOpen + known.open - 1)) {
            add("cancel", x -> x.cancel(order), due(known.hasOrder(order), true, known.isOpen(order)), order);
        }
    }

    private void queries() {
        for (int silo : around(0, known.capacities.length - 1)) {
            boolean there = known.hasSilo(silo);
            for (int property : around(0, 5)) {
                add("silo", x -> x.silo(silo, property), due(there, isIn(property, 0, 5), true), silo, property);
            }
            int blocks = there ? known.sizes[silo] : 0;
            for (int position : around(0, blocks - 1)) {
                boolean stored = there && isIn(position, 0, blocks - 1);
                for (int property : around(0, 2)) {
                    add("block", x -> x.block(silo, position, property), due(stored, isIn(property, 0, 2), true),
                            silo, position, property);
                }
            }
        }
        for (int boat : around(0, known.boats - 1)) {
            for (int property : around(0, 3)) {
                add("boat", x -> x.boat(boat, property), due(known.hasBoat(boat), isIn(property, 0, 3), true), boat, property);
            }
        }
        for (int property : around(0, 15)) {
            add("total", x -> x.total(property), due(true, isIn(property, 0, 15), true), property);
        }
        add("meanAge", x -> (long) x.meanAge(), "");
    }

    private void paperQueries() {
        for (int index : around(0, known.receipts - 1)) {
            for (int property : around(0, 4)) {
                add("receipt", x -> x.receipt(index, property),
                        due(isIn(index, 0, known.receipts - 1), isIn(property, 0, 4), true), index, property);
            }
        }
        for (int account : around(0, known.accounts - 1)) {
            for (int property : around(0, 3)) {
                add("account", x -> x.account(account, property),
                        due(isIn(account, 0, known.accounts - 1), isIn(property, 0, 3), true), account, property);
            }
        }
        for (int boat : around(0, known.boats - 1)) {
            for (int band : around(0, 1)) {
                add("findAccount", x -> x.findAccount(boat, band), due(known.hasBoat(boat), isIn(band, 0, 1), true), boat, band);
            }
        }
    }

    private void forecasts() {
        for (int hours : around(0, 48)) {
            add("massAfter", x -> x.massAfter(hours), due(true, isIn(hours, 0, 48), true), hours);
        }
        for (int silo : around(0, known.capacities.length - 1)) {
            for (int hours : around(1, 24)) {
                add("bestRule", x -> x.bestRule(silo, hours), due(known.hasSilo(silo), isIn(hours, 1, 24), true), silo, hours);
            }
        }
        for (int boat : around(0, known.boats - 1)) {
            for (int mass : around(0, 9999)) {
                for (int band : around(0, 1)) {
                    boolean fits = isIn(mass, 0, 9999) && isIn(band, 0, 1);
                    add("quote", x -> x.quote(boat, mass, band), due(known.hasBoat(boat), fits, true), boat, mass, band);
                }
            }
        }
    }

    private void textCalls() {
        for (int code : around(32, 126)) {
            add("append", x -> x.append(code), due(true, isIn(code, 32, 126), known.length < 120), code);
        }
        add("clear", IcePlant::clear, "");
        add("errorPosition", IcePlant::errorPosition, "");
        add("errorKind", IcePlant::errorKind, "");
        add("execute", IcePlant::execute, due(true, true, !known.hasError));
        add("undo", IcePlant::undo, due(true, true, known.saved));
    }
}
