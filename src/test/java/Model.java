import java.util.ArrayDeque;
import java.util.ArrayList;
import java.util.Comparator;
import java.util.List;
import java.util.regex.Matcher;
import java.util.regex.Pattern;

/**
 * The document once more, written for plainness alone and apart from the program: with lists,
 * sorting and regular expressions. ModelTest holds the program against it.
 */
final class Model {
    private static final Pattern TEXT = Pattern.compile("(?:C(?:;C)*)?".replace("C",
            "(?:hN|oN,N,N!?|cN,N|pN,N|mN,N)").replace("N", "[0-9]{1,6}"));

    static final class Ice {
        int serial;
        int mass;
        int age;

        Ice(int serial, int mass, int age) {
            this.serial = serial;
            this.mass = mass;
            this.age = age;
        }
    }

    static final class Silo {
        int capacity;
        int rule;
        int strength;
        int melted;
        List<Ice> ice = new ArrayList<>();
    }

    static final class Boat {
        int number;
        int load;
        int debt;
        int got;
    }

    static final class Order {
        int number;
        Boat boat;
        int wanted;
        int hours;
        int got;
        boolean whole;
        int state;

        int remaining() {
            return Math.max(0, wanted - got);
        }
    }

    static final class Account {
        int boat;
        int band;
        long mass;
        long price;
    }

    static final class State {
        int[] settings = {50, 2, 0, 100000, 20, 15, 5000, 10};
        int[] degrees = new int[24];
        List<Silo> silos = new ArrayList<>();
        List<Boat> boats = new ArrayList<>();
        List<Order> orders = new ArrayList<>();
        List<int[]> receipts = new ArrayList<>();
        List<Account> accounts = new ArrayList<>();
        int time;
        int serial;
        int missed;
        long made;
        long delivered;
        long prices;
        long payments;

        State() {
            java.util.Arrays.fill(degrees, 10);
        }

        State copy() {
            State to = new State();
            to.settings = settings.clone();
            to.degrees = degrees.clone();
            for (Silo s : silos) {
                Silo t = new Silo();
                t.capacity = s.capacity;
                t.rule = s.rule;
                t.strength = s.strength;
                t.melted = s.melted;
                for (Ice i : s.ice) {
                    t.ice.add(new Ice(i.serial, i.mass, i.age));
                }
                to.silos.add(t);
            }
            for (Boat b : boats) {
                Boat c = new Boat();
                c.number = b.number;
                c.load = b.load;
                c.debt = b.debt;
                c.got = b.got;
                to.boats.add(c);
            }
            for (Order o : orders) {
                Order p = new Order();
                p.number = o.number;
                p.boat = to.boats.get(o.boat.number);
                p.wanted = o.wanted;
                p.hours = o.hours;
                p.got = o.got;
                p.whole = o.whole;
                p.state = o.state;
                to.orders.add(p);
            }
            to.receipts.addAll(receipts);
            for (Account a : accounts) {
                Account b = new Account();
                b.boat = a.boat;
                b.band = a.band;
                b.mass = a.mass;
                b.price = a.price;
                to.accounts.add(b);
            }
            to.time = time;
            to.serial = serial;
            to.missed = missed;
            to.made = made;
            to.delivered = delivered;
            to.prices = prices;
            to.payments = payments;
            return to;
        }

        long melted() {
            long sum = 0;
            for (Silo s : silos) {
                sum += s.melted;
            }
            return sum;
        }

        List<Ice> stored() {
            List<Ice> all = new ArrayList<>();
            for (Silo s : silos) {
                all.addAll(s.ice);
            }
            return all;
        }

        int mass() {
            int sum = 0;
            for (Ice i : stored()) {
                sum += i.mass;
            }
            return sum;
        }

        List<Order> open() {
            List<Order> all = new ArrayList<>();
            for (Order o : orders) {
                if (o.state == 0) {
                    all.add(o);
                }
            }
            Comparator<Order> by;
            switch (settings[2]) {
                case 1:
                    by = (a, b) -> b.boat.load - a.boat.load;
                    break;
                case 2:
                    by = (a, b) -> a.hours - b.hours;
                    break;
                case 3:
                    by = (a, b) -> Long.compare((long) b.boat.load * a.remaining(),
                            (long) a.boat.load * b.remaining());
                    break;
                default:
                    by = (a, b) -> 0;
                    break;
            }
            all.sort(by.thenComparing((a, b) -> a.number - b.number));
            return all;
        }

        int price(Boat boat, int mass, int band) {
            int amount = mass * settings[band == 1 ? 4 : 5];
            return boat.load >= settings[6] ? amount - amount * settings[7] / 100 : amount;
        }

        void melt() {
            int heat = Math.max(0, degrees[time % 24]);
            for (Silo s : silos) {
                Ice top = s.ice.isEmpty() ? null : s.ice.get(s.ice.size() - 1);
                for (Ice i : s.ice) {
                    int[] loss = {s.strength, (int) Math.ceil(i.mass * s.strength / 100.0),
                        heat * s.strength / 20, i == top ? s.strength : 0};
                    int real = Math.min(i.mass, loss[s.rule]);
                    i.mass -= real;
                    s.melted += real;
                }
                s.ice.removeIf(i -> i.mass == 0);
            }
        }

        void produce() {
            for (int n = 0; n < settings[1]; n++) {
                boolean stored = false;
                for (Silo s : silos) {
                    if (!stored && s.ice.size() < s.capacity) {
                        s.ice.add(new Ice(serial++, settings[0], 0));
                        made += settings[0];
                        stored = true;
                    }
                }
                missed += stored ? 0 : 1;
            }
        }

        Account accountOf(int boat, int band) {
            for (Account a : accounts) {
                if (a.boat == boat && a.band == band) {
                    return a;
                }
            }
            Account made = new Account();
            made.boat = boat;
            made.band = band;
            accounts.add(made);
            return made;
        }

        void serve(Order o) {
            int band = time % 24 >= 6 && time % 24 <= 21 ? 1 : 0;
            if (o.boat.debt > settings[3] || o.whole && mass() < o.remaining()) {
                return;
            }
            int mass = 0;
            int price = 0;
            boolean any = false;
            while (o.remaining() > 0 && !stored().isEmpty()) {
                Ice oldest = stored().stream().min(Comparator.comparingInt(i -> i.serial)).get();
                for (Silo s : silos) {
                    s.ice.remove(oldest);
                }
                int cost = price(o.boat, oldest.mass, band);
                any = true;
                mass += oldest.mass;
                price += cost;
                o.got += oldest.mass;
                o.boat.got += oldest.mass;
                o.boat.debt += cost;
                delivered += oldest.mass;
                prices += cost;
                Account a = accountOf(o.boat.number, band);
                a.mass += oldest.mass;
                a.price += cost;
            }
            if (o.remaining() == 0) {
                o.state = 1;
            }
            if (any) {
                int code = receipts.isEmpty() ? 0 : receipts.get(receipts.size() - 1)[4];
                receipts.add(new int[] {o.number, mass, price, time,
                    Integer.rotateLeft(code, 5) ^ (o.number * 65537 + mass * 31 + price)});
            }
        }

        void hour() {
            melt();
            produce();
            for (Order o : open()) {
                serve(o);
            }
            for (Order o : open()) {
                o.hours--;
                if (o.hours == 0) {
                    o.state = 2;
                }
            }
            for (Ice i : stored()) {
                i.age++;
            }
            time++;
        }
    }

    State now = new State();
    private final ArrayDeque<State> saved = new ArrayDeque<>();
    private String text = "";

    private void save() {
        saved.addLast(now.copy());
        if (saved.size() > 8) {
            saved.removeFirst();
        }
    }

    private static void item(boolean there) {
        if (!there) {
            throw new IndexOutOfBoundsException();
        }
    }

    private static void argument(int value, int low, int high) {
        if (value < low || value > high) {
            throw new IllegalArgumentException();
        }
    }

    private static void state(boolean allowed) {
        if (!allowed) {
            throw new IllegalStateException();
        }
    }

    private static <T> T at(List<T> list, int index) {
        item(index >= 0 && index < list.size());
        return list.get(index);
    }

    int addSilo(int capacity, int rule, int strength) {
        argument(capacity, 1, 30);
        argument(rule, 0, 3);
        argument(strength, 0, 100);
        state(now.silos.size() < 5);
        save();
        Silo s = new Silo();
        s.capacity = capacity;
        s.rule = rule;
        s.strength = strength;
        now.silos.add(s);
        return now.silos.size() - 1;
    }

    int setRule(int silo, int rule) {
        at(now.silos, silo);
        argument(rule, 0, 3);
        save();
        int before = now.silos.get(silo).rule;
        now.silos.get(silo).rule = rule;
        return before;
    }

    int setStrength(int silo, int strength) {
        at(now.silos, silo);
        argument(strength, 0, 100);
        save();
        int before = now.silos.get(silo).strength;
        now.silos.get(silo).strength = strength;
        return before;
    }

    int setTemperature(int hour, int degrees) {
        item(hour >= 0 && hour <= 23);
        argument(degrees, -20, 45);
        save();
        int before = now.degrees[hour];
        now.degrees[hour] = degrees;
        return before;
    }

    int set(int index, int value) {
        item(index >= 0 && index <= 7);
        int[] high = {200, 12, 3, 1000000, 999, 999, 1000000, 100};
        argument(value, index == 0 ? 1 : 0, high[index]);
        save();
        int before = now.settings[index];
        now.settings[index] = value;
        return before;
    }

    private int moveNow(int from, int to, boolean saves) {
        Silo a = at(now.silos, from);
        Silo b = at(now.silos, to);
        if (from == to) {
            throw new IllegalArgumentException();
        }
        state(!a.ice.isEmpty() && b.ice.size() < b.capacity);
        if (saves) {
            save();
        }
        Ice top = a.ice.remove(a.ice.size() - 1);
        b.ice.add(top);
        return top.serial;
    }

    int move(int from, int to) {
        return moveNow(from, to, true);
    }

    private int passNow(int hours, boolean saves) {
        argument(hours, 1, 48);
        state(now.time + hours <= 10000);
        if (saves) {
            save();
        }
        long before = now.delivered;
        for (int h = 0; h < hours; h++) {
            now.hour();
        }
        return (int) (now.delivered - before);
    }

    int pass(int hours) {
        return passNow(hours, true);
    }

    int addBoat(int load) {
        argument(load, 0, 1000000);
        state(now.boats.size() < 8);
        save();
        Boat b = new Boat();
        b.number = now.boats.size();
        b.load = load;
        now.boats.add(b);
        return b.number;
    }

    private int setCatchNow(int boat, int load, boolean saves) {
        at(now.boats, boat);
        argument(load, 0, 1000000);
        if (saves) {
            save();
        }
        int before = now.boats.get(boat).load;
        now.boats.get(boat).load = load;
        return before;
    }

    int setCatch(int boat, int load) {
        return setCatchNow(boat, load, true);
    }

    private int orderNow(int boat, int wanted, int hours, boolean whole, boolean saves) {
        at(now.boats, boat);
        argument(wanted, 1, 9999);
        argument(hours, 1, 200);
        state(now.open().size() < 20 && now.orders.size() < 200);
        if (saves) {
            save();
        }
        Order o = new Order();
        o.number = now.orders.size();
        o.boat = now.boats.get(boat);
        o.wanted = wanted;
        o.hours = hours;
        o.whole = whole;
        now.orders.add(o);
        return o.number;
    }

    int order(int boat, int wanted, int hours, boolean whole) {
        return orderNow(boat, wanted, hours, whole, true);
    }

    int cancel(int order) {
        state(at(now.orders, order).state == 0);
        save();
        now.orders.get(order).state = 3;
        return now.orders.get(order).remaining();
    }

    private int payNow(int boat, int amount, boolean saves) {
        at(now.boats, boat);
        argument(amount, 1, 1000000);
        state(now.boats.get(boat).debt - amount >= -1000000);
        if (saves) {
            save();
        }
        now.payments += amount;
        return now.boats.get(boat).debt -= amount;
    }

    int pay(int boat, int amount) {
        return payNow(boat, amount, true);
    }

    int silo(int silo, int property) {
        Silo s = at(now.silos, silo);
        argument(property, 0, 5);
        int mass = 0;
        for (Ice i : s.ice) {
            mass += i.mass;
        }
        return new int[] {s.capacity, s.rule, s.strength, s.ice.size(), mass, s.melted}[property];
    }

    int block(int silo, int position, int property) {
        Ice i = at(at(now.silos, silo).ice, position);
        argument(property, 0, 2);
        return new int[] {i.serial, i.mass, i.age}[property];
    }

    int boat(int boat, int property) {
        Boat b = at(now.boats, boat);
        argument(property, 0, 3);
        int open = (int) now.open().stream().filter(o -> o.boat == b).count();
        return new int[] {b.load, b.debt, b.got, open}[property];
    }

    int orderProperty(int order, int property) {
        Order o = at(now.orders, order);
        argument(property, 0, 6);
        return new int[] {o.boat.number, o.wanted, o.got, o.hours, o.whole ? 1 : 0, o.state,
            now.open().indexOf(o)}[property];
    }

    int receipt(int index, int property) {
        item(index >= 0 && index < Math.min(16, now.receipts.size()));
        argument(property, 0, 4);
        return now.receipts.get(now.receipts.size() - 1 - index)[property];
    }

    long account(int account, int property) {
        Account a = at(now.accounts, account);
        argument(property, 0, 3);
        return new long[] {a.boat, a.band, a.mass, a.price}[property];
    }

    int findAccount(int boat, int band) {
        at(now.boats, boat);
        argument(band, 0, 1);
        for (Account a : now.accounts) {
            if (a.boat == boat && a.band == band) {
                return now.accounts.indexOf(a);
            }
        }
        return -1;
    }

    int setting(int index) {
        item(index >= 0 && index <= 7);
        return now.settings[index];
    }

    long total(int property) {
        argument(property, 0, 15);
        return new long[] {now.time, now.made, now.delivered, now.melted(), now.mass(), now.missed,
            now.stored().size(), now.silos.size(), now.boats.size(), now.orders.size(),
            now.open().size(), now.prices, now.payments, Math.min(16, now.receipts.size()),
            now.accounts.size(), saved.size()}[property];
    }

    double meanAge() {
        double sum = 0;
        for (Ice i : now.stored()) {
            sum += i.age;
        }
        return now.stored().isEmpty() ? 0.0 : sum / now.stored().size();
    }

    int massAfter(int hours) {
        argument(hours, 0, 48);
        State trial = now.copy();
        for (int h = 0; h < hours; h++) {
            trial.hour();
        }
        return trial.mass();
    }

    int completeIn(int order) {
        state(at(now.orders, order).state == 0);
        State trial = now.copy();
        for (int h = 1; h <= 48; h++) {
            trial.hour();
            if (trial.orders.get(order).state == 1) {
                return h;
            }
        }
        return -1;
    }

    int bestRule(int silo, int hours) {
        at(now.silos, silo);
        argument(hours, 1, 24);
        int best = -1;
        long least = Long.MAX_VALUE;
        for (int rule = 0; rule < 4; rule++) {
            State trial = now.copy();
            trial.silos.get(silo).rule = rule;
            for (int h = 0; h < hours; h++) {
                trial.hour();
            }
            if (trial.melted() < least) {
                least = trial.melted();
                best = rule;
            }
        }
        return best;
    }

    int quote(int boat, int mass, int band) {
        Boat b = at(now.boats, boat);
        argument(mass, 0, 9999);
        argument(band, 0, 1);
        return now.price(b, mass, band);
    }

    int append(int code) {
        argument(code, 32, 126);
        state(text.length() < 120);
        text += (char) code;
        return text.length();
    }

    int clear() {
        int before = text.length();
        text = "";
        return before;
    }

    private static boolean canGoOn(String start) {
        Matcher m = TEXT.matcher(start);
        return m.matches() || m.hitEnd();
    }

    int errorPosition() {
        for (int end = 1; end <= text.length(); end++) {
            if (!canGoOn(text.substring(0, end))) {
                return end - 1;
            }
        }
        return TEXT.matcher(text).matches() ? -1 : text.length();
    }

    int errorKind() {
        int position = errorPosition();
        if (position == -1) {
            return 0;
        }
        if (position == text.length()) {
            return 3;
        }
        return text.substring(0, position + 1).matches(".*[0-9]{7}") ? 2 : 1;
    }

    int execute() {
        state(errorPosition() == -1);
        save();
        int executed = 0;
        try {
            for (String command : text.isEmpty() ? new String[0] : text.split(";")) {
                boolean whole = command.endsWith("!");
                String[] words = command.substring(1).replace("!", "").split(",");
                int[] n = new int[3];
                for (int i = 0; i < words.length; i++) {
                    n[i] = Integer.parseInt(words[i]);
                }
                switch (command.charAt(0)) {
                    case 'h':
                        passNow(n[0], false);
                        break;
                    case 'o':
                        orderNow(n[0], n[1], n[2], whole, false);
                        break;
                    case 'c':
                        setCatchNow(n[0], n[1], false);
                        break;
                    case 'p':
                        payNow(n[0], n[1], false);
                        break;
                    default:
                        moveNow(n[0], n[1], false);
                        break;
                }
                executed++;
            }
        } catch (IndexOutOfBoundsException | IllegalArgumentException | IllegalStateException refused) {
            // The command that is refused is the last one.
        }
        text = "";
        return executed;
    }

    int undo() {
        state(!saved.isEmpty());
        now = saved.removeLast();
        return saved.size();
    }
}
