/**
 * Everything that can be asked of a plant, as a text, to see whether two plants differ. Each page is
 * told by a plant of its own, because nothing is promised after the 512th call of an object.
 */
final class Telling {
    /** Makes a new plant and brings it into a certain state, the same one each time. */
    interface Story {
        IcePlant plant();
    }

    interface Act {
        long on(IcePlant x);
    }

    private static final int MOST_SAVED = 8;

    private Telling() {
    }

    static String of(Story story) {
        StringBuilder all = new StringBuilder();
        tellPlant(story.plant(), all);
        tellPapers(story.plant(), all);
        for (int silo = 0; silo < 5; silo += 2) {
            tellBlocks(story.plant(), silo, all);
        }
        int orders = (int) story.plant().total(9);
        for (int first = 0; first < orders; first += 30) {
            tellOrders(story.plant(), first, Math.min(orders, first + 30), all);
        }
        tellForecasts(story.plant(), all);
        tellText(story.plant(), all);
        return all.append(ofSaved(story)).toString();
    }

    /** What there is after each undo that is possible. */
    static String ofSaved(Story story) {
        StringBuilder all = new StringBuilder();
        int saved = (int) story.plant().total(15);
        for (int depth = 1; depth <= saved; depth++) {
            int steps = depth;
            Story earlier = () -> after(story, steps, IcePlant::undo);
            tellPlant(earlier.plant(), all);
            tellPapers(earlier.plant(), all);
            tellForecasts(earlier.plant(), all);
        }
        IcePlant last = after(story, saved, IcePlant::undo);
        return all.append(Check.outcome(last::undo)).toString();
    }

    static IcePlant after(Story story, int times, Act act) {
        IcePlant x = story.plant();
        for (int i = 0; i < times; i++) {
            act.on(x);
        }
        return x;
    }

    /** The call saves one state, and undo brings back all that was there before. */
    static void undoable(String call, Story story, Act act) {
        IcePlant x = story.plant();
        long saved = x.total(15);
        Check.due("the story leaves a place", saved < MOST_SAVED ? 1 : 0, 1);
        act.on(x);
        Check.due(call + ", then total 15", x.total(15), saved + 1);
        Check.due(call + ", then undo", x.undo(), saved);
        Story undone = () -> {
            IcePlant y = story.plant();
            act.on(y);
            y.undo();
            return y;
        };
        Check.same(call + ", then undo, then all there is", of(undone), of(story));
    }

    /** The call saves nothing, and nothing that can be asked is different after it. */
    static void changesNothing(String call, Story story, Act act) {
        Check.same(call + ", then all there is", of(() -> after(story, 1, act)), of(story));
    }

    private static void add(StringBuilder all, String name, Check.Call call) {
        all.append(name).append('=').append(Check.outcome(call)).append(' ');
    }

    private static void tellPlant(IcePlant x, StringBuilder all) {
        for (int p = 0; p < 16; p++) {
            int property = p;
            add(all, "total", () -> x.total(property));
        }
        for (int i = 0; i < 8; i++) {
            int index = i;
            add(all, "setting", () -> x.setting(index));
            for (int p = 0; p < 6; p++) {
                int property = p;
                if (i < 5) {
                    add(all, "silo", () -> x.silo(index, property));
                }
                if (p < 4) {
                    add(all, "boat", () -> x.boat(index, property));
                }
            }
        }
        all.append("age=").append(x.meanAge()).append('\n');
    }

    private static void tellPapers(IcePlant x, StringBuilder all) {
        int receipts = (int) x.total(13);
        for (int index = 0; index < receipts; index++) {
            for (int p = 0; p < 5; p++) {
                all.append(x.receipt(index, p)).append(' ');
            }
        }
        int accounts = (int) x.total(14);
        for (int account = 0; account < accounts; account++) {
            for (int p = 0; p < 4; p++) {
                all.append(x.account(account, p)).append(' ');
            }
        }
        for (int boat = 0; boat < x.total(8); boat++) {
            all.append(x.findAccount(boat, 0)).append(x.findAccount(boat, 1)).append(' ');
        }
        all.append('\n');
    }

    private static void tellBlocks(IcePlant x, int firstSilo, StringBuilder all) {
        for (int silo = firstSilo; silo < Math.min(x.total(7), firstSilo + 2); silo++) {
            int blocks = x.silo(silo, 3);
            for (int position = 0; position < blocks; position++) {
                for (int p = 0; p < 3; p++) {
                    all.append(x.block(silo, position, p)).append(' ');
                }
            }
        }
        all.append('\n');
    }

    private static void tellOrders(IcePlant x, int first, int end, StringBuilder all) {
        for (int order = first; order < end; order++) {
            for (int p = 0; p < 7; p++) {
                all.append(x.orderProperty(order, p)).append(' ');
            }
        }
        all.append('\n');
    }

    private static void tellForecasts(IcePlant x, StringBuilder all) {
        add(all, "massAfter", () -> x.massAfter(1));
        add(all, "massAfter", () -> x.massAfter(3));
        add(all, "bestRule", () -> x.bestRule(0, 1));
        add(all, "bestRule", () -> x.bestRule(1, 3));
        add(all, "completeIn", () -> x.completeIn((int) x.total(9) - 1));
        add(all, "quote", () -> x.quote(0, 77, 1));
    }

    private static void tellText(IcePlant x, StringBuilder all) {
        for (int hour = 0; hour < 24; hour++) {
            all.append(x.setTemperature(hour, 1)).append(' ');
        }
        all.append(x.errorPosition()).append(' ').append(x.errorKind()).append(' ');
        // What is executed shows which commands the buffer has.
        add(all, "execute", x::execute);
        add(all, "time", () -> x.total(0));
        add(all, "orders", () -> x.total(9));
        add(all, "payments", () -> x.total(12));
        add(all, "catch", () -> x.boat(0, 0));
        add(all, "clear", x::clear);
    }
}
