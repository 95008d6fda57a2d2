/** A simulation of an ice plant in a fishing port. The promises stand in ../shared/DOC.md. */
public final class IcePlant {
    public static final int NONE = -1;

    // The reasons to refuse a call. They are numbers and not exceptions alone, because execute
    // has to know of a refusal without being thrown out of the text.
    private static final int FINE = 0;
    private static final int NO_SUCH_ITEM = 1;
    private static final int BAD_ARGUMENT = 2;
    private static final int BAD_STATE = 3;

    private static final int HOURS_OF_DAY = 24;
    private static final int LAST_TIME = 10000;
    private static final int LONGEST_PASS = 48;
    private static final int LONGEST_COMPARISON = 24;
    private static final int GREATEST_CATCH = 1000000;
    private static final int GREATEST_ORDER = 9999;
    private static final int LONGEST_ORDER = 200;
    private static final int GREATEST_PAYMENT = 1000000;
    private static final int LOWEST_DEBT = -1000000;
    private static final int LAST_RULE = 3;
    private static final int GREATEST_STRENGTH = 100;
    private static final int LOWEST_DEGREES = -20;
    private static final int HIGHEST_DEGREES = 45;
    private static final int FIRST_DEGREES = 10;

    private static final int BLOCK_MASS = 0;
    private static final int PRODUCTION = 1;
    private static final int PRIORITY = 2;
    private static final int CREDIT_LIMIT = 3;
    private static final int DAY_PRICE = 4;
    private static final int NIGHT_PRICE = 5;
    private static final int DISCOUNT_CATCH = 6;
    private static final int DISCOUNT_PERCENTAGE = 7;
    private static final int SETTINGS = 8;
    private static final int[] FIRST_SETTINGS = {50, 2, 0, 100000, 20, 15, 5000, 10};
    private static final int[] LOWEST_SETTINGS = {1, 0, 0, 0, 0, 0, 0, 0};
    private static final int[] HIGHEST_SETTINGS = {200, 12, 3, 1000000, 999, 999, 1000000, 100};

    private static final int NIGHT = 0;
    private static final int DAY = 1;

    private final Plant now;
    private final Plant trial;
    private final History history;
    private final Text text;

    public IcePlant() {
        now = new Plant();
        trial = new Plant();
        history = new History();
        text = new Text();
    }

    // ---- plant

    public int addSilo(int capacity, int rule, int strength)
            throws IllegalArgumentException, IllegalStateException {
        needArgument(isWithin(capacity, 1, Store.PLACES));
        needArgument(isWithin(rule, 0, LAST_RULE));
        needArgument(isWithin(strength, 0, GREATEST_STRENGTH));
        needState(now.store.silos < Store.MOST_SILOS);
        history.save(now);
        return now.store.addOne(capacity, rule, strength);
    }

    public int setRule(int silo, int rule) throws IndexOutOfBoundsException, IllegalArgumentException {
        needItem(now.store.hasSilo(silo));
        needArgument(isWithin(rule, 0, LAST_RULE));
        history.save(now);
        return replace(now.store.rules, silo, rule);
    }

    public int setStrength(int silo, int strength)
            throws IndexOutOfBoundsException, IllegalArgumentException {
        needItem(now.store.hasSilo(silo));
        needArgument(isWithin(strength, 0, GREATEST_STRENGTH));
        history.save(now);
        return replace(now.store.strengths, silo, strength);
    }

    public int setTemperature(int hour, int degrees)
            throws IndexOutOfBoundsException, IllegalArgumentException {
        needItem(isWithin(hour, 0, HOURS_OF_DAY - 1));
        needArgument(isWithin(degrees, LOWEST_DEGREES, HIGHEST_DEGREES));
        history.save(now);
        return replace(now.temperatures, hour, degrees);
    }

    public int set(int index, int value) throws IndexOutOfBoundsException, IllegalArgumentException {
        needItem(isWithin(index, 0, SETTINGS - 1));
        needArgument(isWithin(value, valueAt(LOWEST_SETTINGS, index), valueAt(HIGHEST_SETTINGS, index)));
        history.save(now);
        return replace(now.settings, index, value);
    }

    public int move(int from, int to)
            throws IndexOutOfBoundsException, IllegalArgumentException, IllegalStateException {
        refuse(moveFault(from, to));
        history.save(now);
        return now.store.moveTop(from, to);
    }

    public int pass(int hours) throws IllegalArgumentException, IllegalStateException {
        refuse(passFault(hours));
        history.save(now);
        return now.letPass(hours);
    }

    // ---- boats and orders

    public int addBoat(int catchMass) throws IllegalArgumentException, IllegalStateException {
        needArgument(isWithin(catchMass, 0, GREATEST_CATCH));
        needState(now.boats.count < Boats.MOST);
        history.save(now);
        return now.boats.addOne(catchMass);
    }

    public int setCatch(int boat, int catchMass)
            throws IndexOutOfBoundsException, IllegalArgumentException {
        refuse(catchFault(boat, catchMass));
        history.save(now);
        return replace(now.boats.catches, boat, catchMass);
    }

    public int order(int boat, int wanted, int hours, boolean whole)
            throws IndexOutOfBoundsException, IllegalArgumentException, IllegalStateException {
        refuse(orderFault(boat, wanted, hours));
        history.save(now);
        return now.orders.place(boat, wanted, hours, whole);
    }

    public int cancel(int order) throws IndexOutOfBoundsException, IllegalStateException {
        needItem(now.orders.has(order));
        needState(now.orders.isOpen(order));
        history.save(now);
        now.orders.close(order, Orders.CANCELLED);
        return now.orders.remaining(order);
    }

    public int pay(int boat, int amount)
            throws IndexOutOfBoundsException, IllegalArgumentException, IllegalStateException {
        refuse(payFault(boat, amount));
        history.save(now);
        return now.takePayment(boat, amount);
    }

    // ---- what there is

    public int silo(int silo, int property) throws IndexOutOfBoundsException, IllegalArgumentException {
        needItem(now.store.hasSilo(silo));
        needArgument(isWithin(property, 0, 5));
        return now.store.siloProperty(silo, property);
    }

    public int block(int silo, int position, int property)
            throws IndexOutOfBoundsException, IllegalArgumentException {
        int slot = now.store.slotOf(silo, position);
        needItem(slot != NONE);
        needArgument(isWithin(property, 0, 2));
        return now.store.blockProperty(slot, property);
    }

    public int boat(int boat, int property) throws IndexOutOfBoundsException, IllegalArgumentException {
        needItem(now.boats.has(boat));
        needArgument(isWithin(property, 0, 3));
        return property == 3 ? now.orders.openOf(boat) : now.boats.property(boat, property);
    }

    public int orderProperty(int order, int property)
            throws IndexOutOfBoundsException, IllegalArgumentException {
        needItem(now.orders.has(order));
        needArgument(isWithin(property, 0, 6));
        return property == 6 ? now.ordersBefore(order) : now.orders.property(order, property);
    }

    public int receipt(int index, int property)
            throws IndexOutOfBoundsException, IllegalArgumentException {
        needItem(isWithin(index, 0, now.receipts.kept() - 1));
        needArgument(isWithin(property, 0, 4));
        return now.receipts.property(index, property);
    }

    public long account(int account, int property)
            throws IndexOutOfBoundsException, IllegalArgumentException {
        needItem(isWithin(account, 0, now.accounts.count - 1));
        needArgument(isWithin(property, 0, 3));
        return now.accounts.property(account, property);
    }

    public int findAccount(int boat, int band)
            throws IndexOutOfBoundsException, IllegalArgumentException {
        needItem(now.boats.has(boat));
        needArgument(isWithin(band, NIGHT, DAY));
        return now.accounts.find(boat, band);
    }

    public int setting(int index) throws IndexOutOfBoundsException {
        needItem(isWithin(index, 0, SETTINGS - 1));
        return valueAt(now.settings, index);
    }

    public long total(int property) throws IllegalArgumentException {
        needArgument(isWithin(property, 0, 15));
        return property == 15 ? history.count : now.totalOf(property);
    }

    public double meanAge() {
        int blocks = now.store.blocks();
        return blocks > 0 ? (double) now.store.sumOfAges() / (double) blocks : 0.0;
    }

    // ---- what would be; nothing changes

    public int massAfter(int hours) throws IllegalArgumentException {
        needArgument(isWithin(hours, 0, LONGEST_PASS));
        trial.copyFrom(now);
        trial.letPass(hours);
        return trial.store.mass();
    }

    public int completeIn(int order) throws IndexOutOfBoundsException, IllegalStateException {
        needItem(now.orders.has(order));
        needState(now.orders.isOpen(order));
        trial.copyFrom(now);
        for (int hours = 1; hours <= LONGEST_PASS && trial.orders.isOpen(order); hours++) {
            trial.passHour();
            if (trial.orders.isComplete(order)) {
                return hours;
            }
        }
        return NONE;
    }

    public int bestRule(int silo, int hours) throws IndexOutOfBoundsException, IllegalArgumentException {
        needItem(now.store.hasSilo(silo));
        needArgument(isWithin(hours, 1, LONGEST_COMPARISON));
        int best = 0;
        int least = meltedWith(silo, 0, hours);
        for (int rule = 1; rule <= LAST_RULE; rule++) {
            int melted = meltedWith(silo, rule, hours);
            if (melted < least) {
                best = rule;
                least = melted;
            }
        }
        return best;
    }

    public int quote(int boat, int mass, int band)
            throws IndexOutOfBoundsException, IllegalArgumentException {
        needItem(now.boats.has(boat));
        needArgument(isWithin(mass, 0, GREATEST_ORDER));
        needArgument(isWithin(band, NIGHT, DAY));
        return now.priceOf(boat, mass, band);
    }

    // ---- text

    public int append(int code) throws IllegalArgumentException, IllegalStateException {
        needArgument(isWithin(code, Text.FIRST_CODE, Text.LAST_CODE));
        needState(text.length < Text.LONGEST);
        return text.addSign((char) code);
    }

    public int clear() {
        return text.empty();
    }

    public int errorPosition() {
        text.readAll();
        return text.error == Text.NO_ERROR ? NONE : text.at;
    }

    public int errorKind() {
        text.readAll();
        return text.error;
    }

    public int execute() throws IllegalStateException {
        text.readAll();
        needState(text.error == Text.NO_ERROR);
        history.save(now);
        text.start();
        int executed = 0;
        while (executed < Text.LONGEST && text.hasCommand()) {
            text.readCommand();
            if (commandFault() != FINE) {
                break;
            }
            runCommand();
            executed++;
        }
        text.empty();
        return executed;
    }

    public int undo() throws IllegalStateException {
        needState(history.count > 0);
        return history.restore(now);
    }

    // ---- what the calls share

    private static boolean isWithin(int value, int lowest, int highest) {
        return value >= lowest && value <= highest;
    }

    private static void needItem(boolean isThere) {
        refuse(isThere ? FINE : NO_SUCH_ITEM);
    }

    private static void needArgument(boolean isInRange) {
        refuse(isInRange ? FINE : BAD_ARGUMENT);
    }

    private static void needState(boolean allowsIt) {
        refuse(allowsIt ? FINE : BAD_STATE);
    }

    private static void refuse(int fault) {
        if (fault == NO_SUCH_ITEM) {
            throw new IndexOutOfBoundsException("there is no such item");
        }
        if (fault == BAD_ARGUMENT) {
            throw new IllegalArgumentException("an argument is out of range");
        }
        if (fault == BAD_STATE) {
            throw new IllegalStateException("the state of the plant does not allow this");
        }
    }

    private static int valueAt(int[] row, int index) {
        return index >= 0 && index < row.length ? row[index] : 0;
    }

    private static int replace(int[] row, int index, int value) {
        if (index < 0 || index >= row.length) {
            return NONE;
        }
        int previous = row[index];
        row[index] = value;
        return previous;
    }

    private static void copyRow(int[] from, int[] to) {
        System.arraycopy(from, 0, to, 0, Math.min(from.length, to.length));
    }

    private static void copyLongRow(long[] from, long[] to) {
        System.arraycopy(from, 0, to, 0, Math.min(from.length, to.length));
    }

    private int passFault(int hours) {
        if (!isWithin(hours, 1, LONGEST_PASS)) {
            return BAD_ARGUMENT;
        }
        return now.time + hours > LAST_TIME ? BAD_STATE : FINE;
    }

    private int moveFault(int from, int to) {
        if (!now.store.hasSilo(from) || !now.store.hasSilo(to)) {
            return NO_SUCH_ITEM;
        }
        if (from == to) {
            return BAD_ARGUMENT;
        }
        return now.store.isEmpty(from) || !now.store.hasRoom(to) ? BAD_STATE : FINE;
    }

    private int catchFault(int boat, int catchMass) {
        if (!now.boats.has(boat)) {
            return NO_SUCH_ITEM;
        }
        return isWithin(catchMass, 0, GREATEST_CATCH) ? FINE : BAD_ARGUMENT;
    }

    private int orderFault(int boat, int wanted, int hours) {
        if (!now.boats.has(boat)) {
            return NO_SUCH_ITEM;
        }
        if (!isWithin(wanted, 1, GREATEST_ORDER) || !isWithin(hours, 1, LONGEST_ORDER)) {
            return BAD_ARGUMENT;
        }
        return now.orders.isFull() ? BAD_STATE : FINE;
    }

    private int payFault(int boat, int amount) {
        if (!now.boats.has(boat)) {
            return NO_SUCH_ITEM;
        }
        if (!isWithin(amount, 1, GREATEST_PAYMENT)) {
            return BAD_ARGUMENT;
        }
        return valueAt(now.boats.debts, boat) - amount < LOWEST_DEBT ? BAD_STATE : FINE;
    }

    private int meltedWith(int silo, int rule, int hours) {
        trial.copyFrom(now);
        replace(trial.store.rules, silo, rule);
        trial.letPass(hours);
        return trial.store.meltedMass() - now.store.meltedMass();
    }

    private int commandFault() {
        int first = text.numbers[0];
        int second = text.numbers[1];
        switch (text.letter) {
            case 'h':
                return passFault(first);
            case 'o':
                return orderFault(first, second, text.numbers[2]);
            case 'c':
                return catchFault(first, second);
            case 'p':
                return payFault(first, second);
            default:
                return moveFault(first, second);
        }
    }

    private void runCommand() {
        int first = text.numbers[0];
        int second = text.numbers[1];
        switch (text.letter) {
            case 'h':
                now.letPass(first);
                break;
            case 'o':
                now.orders.place(first, second, text.numbers[2], text.marked);
                break;
            case 'c':
                replace(now.boats.catches, first, second);
                break;
            case 'p':
                now.takePayment(first, second);
                break;
            default:
                now.store.moveTop(first, second);
                break;
        }
    }

    /** Everything that a saved state consists of, and what happens to it in an hour. */
    private static final class Plant {
        final int[] settings;
        final int[] temperatures;
        final Store store;
        final Boats boats;
        final Orders orders;
        final Receipts receipts;
        final Accounts accounts;
        int time;
        int madeMass;
        int deliveredMass;
        int missedBlocks;
        long prices;
        long payments;

        Plant() {
            settings = new int[SETTINGS];
            copyRow(FIRST_SETTINGS, settings);
            temperatures = new int[HOURS_OF_DAY];
            for (int hour = 0; hour < temperatures.length; hour++) {
                temperatures[hour] = FIRST_DEGREES;
            }
            store = new Store();
            boats = new Boats();
            orders = new Orders();
            receipts = new Receipts();
            accounts = new Accounts();
        }

        void copyFrom(Plant other) {
            copyRow(other.settings, settings);
            copyRow(other.temperatures, temperatures);
            store.copyFrom(other.store);
            boats.copyFrom(other.boats);
            orders.copyFrom(other.orders);
            receipts.copyFrom(other.receipts);
            accounts.copyFrom(other.accounts);
            time = other.time;
            madeMass = other.madeMass;
            deliveredMass = other.deliveredMass;
            missedBlocks = other.missedBlocks;
            prices = other.prices;
            payments = other.payments;
        }

        int letPass(int hours) {
            int before = deliveredMass;
            for (int hour = 0; hour < hours; hour++) {
                passHour();
            }
            return deliveredMass - before;
        }

        void passHour() {
            int hour = time % HOURS_OF_DAY;
            int degrees = valueAt(temperatures, hour);
            store.melt(degrees > 0 ? degrees : 0);
            produce();
            // The open orders may become fewer while they are served, the sequence does not.
            int waiting = orders.arrange(settings[PRIORITY], boats);
            for (int turn = 0; turn < waiting; turn++) {
                serve(valueAt(orders.sequence, turn), hour >= 6 && hour <= 21 ? DAY : NIGHT);
            }
            orders.expire();
            store.growOlder();
            time++;
        }

        private void produce() {
            for (int made = 0; made < settings[PRODUCTION]; made++) {
                if (store.makeBlock(settings[BLOCK_MASS])) {
                    madeMass += settings[BLOCK_MASS];
                } else {
                    missedBlocks++;
                }
            }
        }

        private void serve(int order, int band) {
            int boat = valueAt(orders.boats, order);
            if (isSkipped(order, boat)) {
                return;
            }
            int remaining = orders.remaining(order);
            int mass = 0;
            int price = 0;
            int slot = store.oldestSlot();
            for (int taken = 0; taken < Store.SLOTS && slot != NONE && mass < remaining; taken++) {
                int blockMass = store.removeBlock(slot);
                mass += blockMass;
                price += priceOf(boat, blockMass, band);
                slot = store.oldestSlot();
            }
            // A block has always a mass, so that no mass means no block.
            if (mass > 0) {
                orders.deliver(order, mass);
                boats.charge(boat, mass, price);
                accounts.enter(boat, band, mass, price);
                receipts.write(order, mass, price, time);
                deliveredMass += mass;
                prices += price;
            }
        }

        private boolean isSkipped(int order, int boat) {
            if (valueAt(boats.debts, boat) > settings[CREDIT_LIMIT]) {
                return true;
            }
            return orders.isWhole(order) && store.mass() < orders.remaining(order);
        }

        int priceOf(int boat, int mass, int band) {
            int price = mass * settings[band == DAY ? DAY_PRICE : NIGHT_PRICE];
            if (valueAt(boats.catches, boat) >= settings[DISCOUNT_CATCH]) {
                price -= price * settings[DISCOUNT_PERCENTAGE] / 100;
            }
            return price;
        }

        int takePayment(int boat, int amount) {
            payments += amount;
            return boats.reduceDebt(boat, amount);
        }

        int ordersBefore(int order) {
            return orders.isOpen(order) ? orders.openBefore(order, settings[PRIORITY], boats) : NONE;
        }

        long totalOf(int property) {
            switch (property) {
                case 0:
                    return time;
                case 1:
                    return madeMass;
                case 2:
                    return deliveredMass;
                case 3:
                    return store.meltedMass();
                case 4:
                    return store.mass();
                case 5:
                    return missedBlocks;
                case 6:
                    return store.blocks();
                case 7:
                    return store.silos;
                case 8:
                    return boats.count;
                case 9:
                    return orders.count;
                case 10:
                    return orders.openCount;
                case 11:
                    return prices;
                case 12:
                    return payments;
                case 13:
                    return receipts.kept();
                default:
                    return accounts.count;
            }
        }
    }

    /** The silos with their blocks; slot silo * PLACES + position holds the block at that position. */
    private static final class Store {
        static final int MOST_SILOS = 5;
        static final int PLACES = 30;
        static final int SLOTS = 150;

        int silos;
        int nextSerial;
        final int[] capacities;
        final int[] rules;
        final int[] strengths;
        final int[] sizes;
        final int[] melted;
        final int[] serials;
        final int[] masses;
        final int[] ages;

        Store() {
            capacities = new int[MOST_SILOS];
            rules = new int[MOST_SILOS];
            strengths = new int[MOST_SILOS];
            sizes = new int[MOST_SILOS];
            melted = new int[MOST_SILOS];
            serials = new int[SLOTS];
            masses = new int[SLOTS];
            ages = new int[SLOTS];
        }

        void copyFrom(Store other) {
            silos = other.silos;
            nextSerial = other.nextSerial;
            copyRow(other.capacities, capacities);
            copyRow(other.rules, rules);
            copyRow(other.strengths, strengths);
            copyRow(other.sizes, sizes);
            copyRow(other.melted, melted);
            copyRow(other.serials, serials);
            copyRow(other.masses, masses);
            copyRow(other.ages, ages);
        }

        int addOne(int capacity, int rule, int strength) {
            if (silos >= MOST_SILOS) {
                return NONE;
            }
            capacities[silos] = capacity;
            rules[silos] = rule;
            strengths[silos] = strength;
            sizes[silos] = 0;
            melted[silos] = 0;
            silos++;
            return silos - 1;
        }

        boolean hasSilo(int silo) {
            return silo >= 0 && silo < silos;
        }

        boolean isEmpty(int silo) {
            return valueAt(sizes, silo) == 0;
        }

        boolean hasRoom(int silo) {
            return valueAt(sizes, silo) < valueAt(capacities, silo);
        }

        int slotOf(int silo, int position) {
            if (!hasSilo(silo) || position < 0 || position >= sizes[silo]) {
                return NONE;
            }
            return silo * PLACES + position;
        }

        void melt(int heat) {
            for (int silo = 0; silo < silos; silo++) {
                meltSilo(silo, heat);
            }
        }

        private void meltSilo(int silo, int heat) {
            int first = silo * PLACES;
            int top = first + sizes[silo] - 1;
            int kept = first;
            for (int slot = first; slot <= top; slot++) {
                int wish = lossOf(silo, masses[slot], slot == top, heat);
                int loss = wish < masses[slot] ? wish : masses[slot];
                melted[silo] += loss;
                if (loss < masses[slot]) {
                    fillSlot(kept, serials[slot], masses[slot] - loss, ages[slot]);
                    kept++;
                }
            }
            sizes[silo] = kept - first;
        }

        private int lossOf(int silo, int mass, boolean isTop, int heat) {
            int strength = strengths[silo];
            switch (rules[silo]) {
                case 0:
                    return strength;
                case 1:
                    return (mass * strength + 99) / 100;
                case 2:
                    return heat * strength / 20;
                default:
                    return isTop ? strength : 0;
            }
        }

        private void fillSlot(int slot, int serial, int mass, int age) {
            serials[slot] = serial;
            masses[slot] = mass;
            ages[slot] = age;
        }

        boolean makeBlock(int mass) {
            for (int silo = 0; silo < silos; silo++) {
                if (sizes[silo] < capacities[silo]) {
                    fillSlot(silo * PLACES + sizes[silo], nextSerial, mass, 0);
                    sizes[silo]++;
                    nextSerial++;
                    return true;
                }
            }
            return false;
        }

        int moveTop(int from, int to) {
            int slot = slotOf(from, valueAt(sizes, from) - 1);
            if (slot == NONE || !hasSilo(to) || sizes[to] >= capacities[to]) {
                return NONE;
            }
            fillSlot(to * PLACES + sizes[to], serials[slot], masses[slot], ages[slot]);
            sizes[to]++;
            sizes[from]--;
            return serials[slot];
        }

        int oldestSlot() {
            int oldest = NONE;
            for (int silo = 0; silo < silos; silo++) {
                int end = silo * PLACES + sizes[silo];
                for (int slot = silo * PLACES; slot < end; slot++) {
                    if (oldest == NONE || serials[slot] < serials[oldest]) {
                        oldest = slot;
                    }
                }
            }
            return oldest;
        }

        /** Answers the mass of the block that is removed. */
        int removeBlock(int slot) {
            if (slot < 0 || slot >= SLOTS) {
                return 0;
            }
            int mass = masses[slot];
            int silo = slot / PLACES;
            int end = silo * PLACES + sizes[silo];
            for (int next = slot + 1; next < end; next++) {
                fillSlot(next - 1, serials[next], masses[next], ages[next]);
            }
            sizes[silo]--;
            return mass;
        }

        void growOlder() {
            for (int silo = 0; silo < silos; silo++) {
                int end = silo * PLACES + sizes[silo];
                for (int slot = silo * PLACES; slot < end; slot++) {
                    ages[slot]++;
                }
            }
        }

        int blocks() {
            int sum = 0;
            for (int silo = 0; silo < silos; silo++) {
                sum += sizes[silo];
            }
            return sum;
        }

        int mass() {
            return sumOf(masses, 0, silos);
        }

        int sumOfAges() {
            return sumOf(ages, 0, silos);
        }

        int meltedMass() {
            int sum = 0;
            for (int silo = 0; silo < silos; silo++) {
                sum += melted[silo];
            }
            return sum;
        }

        private int sumOf(int[] row, int firstSilo, int endSilo) {
            int sum = 0;
            for (int silo = firstSilo; silo < endSilo; silo++) {
                int end = silo * PLACES + sizes[silo];
                for (int slot = silo * PLACES; slot < end; slot++) {
                    sum += row[slot];
                }
            }
            return sum;
        }

        int siloProperty(int silo, int property) {
            switch (property) {
                case 0:
                    return valueAt(capacities, silo);
                case 1:
                    return valueAt(rules, silo);
                case 2:
                    return valueAt(strengths, silo);
                case 3:
                    return valueAt(sizes, silo);
                case 4:
                    return sumOf(masses, silo, silo + 1);
                default:
                    return valueAt(melted, silo);
            }
        }

        int blockProperty(int slot, int property) {
            switch (property) {
                case 0:
                    return valueAt(serials, slot);
                case 1:
                    return valueAt(masses, slot);
                default:
                    return valueAt(ages, slot);
            }
        }
    }

    private static final class Boats {
        static final int MOST = 8;

        int count;
        final int[] catches;
        final int[] debts;
        final int[] deliveredMasses;

        Boats() {
            catches = new int[MOST];
            debts = new int[MOST];
            deliveredMasses = new int[MOST];
        }

        void copyFrom(Boats other) {
            count = other.count;
            copyRow(other.catches, catches);
            copyRow(other.debts, debts);
            copyRow(other.deliveredMasses, deliveredMasses);
        }

        boolean has(int boat) {
            return boat >= 0 && boat < count;
        }

        int addOne(int catchMass) {
            if (count >= MOST) {
                return NONE;
            }
            catches[count] = catchMass;
            debts[count] = 0;
            deliveredMasses[count] = 0;
            count++;
            return count - 1;
        }

        void charge(int boat, int mass, int price) {
            if (has(boat)) {
                deliveredMasses[boat] += mass;
                debts[boat] += price;
            }
        }

        int reduceDebt(int boat, int amount) {
            if (!has(boat)) {
                return NONE;
            }
            debts[boat] -= amount;
            return debts[boat];
        }

        int property(int boat, int property) {
            switch (property) {
                case 0:
                    return valueAt(catches, boat);
                case 1:
                    return valueAt(debts, boat);
                default:
                    return valueAt(deliveredMasses, boat);
            }
        }
    }

    private static final class Orders {
        static final int MOST = 200;
        static final int MOST_OPEN = 20;
        static final int OPEN = 0;
        static final int COMPLETE = 1;
        static final int EXPIRED = 2;
        static final int CANCELLED = 3;

        int count;
        int openCount;
        final int[] boats;
        final int[] wanted;
        final int[] delivered;
        final int[] hoursLeft;
        final int[] wholes;
        final int[] states;
        /** The numbers of the open orders, rising, so that an hour need not look at closed orders. */
        final int[] open;
        /** What arrange found last; it is no part of the state. */
        final int[] sequence;

        Orders() {
            boats = new int[MOST];
            wanted = new int[MOST];
            delivered = new int[MOST];
            hoursLeft = new int[MOST];
            wholes = new int[MOST];
            states = new int[MOST];
            open = new int[MOST_OPEN];
            sequence = new int[MOST_OPEN];
        }

        void copyFrom(Orders other) {
            count = other.count;
            openCount = other.openCount;
            copyRow(other.boats, boats);
            copyRow(other.wanted, wanted);
            copyRow(other.delivered, delivered);
            copyRow(other.hoursLeft, hoursLeft);
            copyRow(other.wholes, wholes);
            copyRow(other.states, states);
            copyRow(other.open, open);
        }

        boolean has(int order) {
            return order >= 0 && order < count;
        }

        boolean isOpen(int order) {
            return has(order) && states[order] == OPEN;
        }

        boolean isComplete(int order) {
            return has(order) && states[order] == COMPLETE;
        }

        boolean isWhole(int order) {
            return valueAt(wholes, order) == 1;
        }

        boolean isFull() {
            return count >= MOST || openCount >= MOST_OPEN;
        }

        int place(int boat, int mass, int hours, boolean whole) {
            if (isFull()) {
                return NONE;
            }
            boats[count] = boat;
            wanted[count] = mass;
            delivered[count] = 0;
            hoursLeft[count] = hours;
            wholes[count] = whole ? 1 : 0;
            states[count] = OPEN;
            open[openCount] = count;
            openCount++;
            count++;
            return count - 1;
        }

        int remaining(int order) {
            int rest = valueAt(wanted, order) - valueAt(delivered, order);
            return rest > 0 ? rest : 0;
        }

        void deliver(int order, int mass) {
            if (has(order)) {
                delivered[order] += mass;
                if (delivered[order] >= wanted[order]) {
                    close(order, COMPLETE);
                }
            }
        }

        void close(int order, int state) {
            if (!has(order)) {
                return;
            }
            states[order] = state;
            int kept = 0;
            for (int i = 0; i < openCount; i++) {
                if (open[i] != order) {
                    open[kept] = open[i];
                    kept++;
                }
            }
            openCount = kept;
        }

        void expire() {
            // From the end, because close moves the open orders behind the closed one.
            for (int i = openCount - 1; i >= 0; i--) {
                int order = open[i];
                if (has(order)) {
                    hoursLeft[order]--;
                    if (hoursLeft[order] <= 0) {
                        close(order, EXPIRED);
                    }
                }
            }
        }

        int openOf(int boat) {
            int found = 0;
            for (int i = 0; i < openCount; i++) {
                if (valueAt(boats, open[i]) == boat) {
                    found++;
                }
            }
            return found;
        }

        /** Answers how many orders the sequence has. */
        int arrange(int priority, Boats fleet) {
            for (int i = 0; i < openCount; i++) {
                int place = i;
                while (place > 0 && comesBefore(open[i], sequence[place - 1], priority, fleet)) {
                    sequence[place] = sequence[place - 1];
                    place--;
                }
                sequence[place] = open[i];
            }
            return openCount;
        }

        int openBefore(int order, int priority, Boats fleet) {
            int before = 0;
            for (int i = 0; i < openCount; i++) {
                if (comesBefore(open[i], order, priority, fleet)) {
                    before++;
                }
            }
            return before;
        }

        private boolean comesBefore(int a, int b, int priority, Boats fleet) {
            long catchOfA = valueAt(fleet.catches, valueAt(boats, a));
            long catchOfB = valueAt(fleet.catches, valueAt(boats, b));
            long lead = 0;
            if (priority == 1) {
                lead = catchOfA - catchOfB;
            } else if (priority == 2) {
                lead = valueAt(hoursLeft, b) - valueAt(hoursLeft, a);
            } else if (priority == 3) {
                lead = catchOfA * remaining(b) - catchOfB * remaining(a);
            }
            return lead == 0 ? a < b : lead > 0;
        }

        int property(int order, int property) {
            switch (property) {
                case 0:
                    return valueAt(boats, order);
                case 1:
                    return valueAt(wanted, order);
                case 2:
                    return valueAt(delivered, order);
                case 3:
                    return valueAt(hoursLeft, order);
                case 4:
                    return valueAt(wholes, order);
                default:
                    return valueAt(states, order);
            }
        }
    }

    private static final class Receipts {
        static final int MOST_KEPT = 16;

        int written;
        int latestCode;
        final int[] orders;
        final int[] masses;
        final int[] prices;
        final int[] times;
        final int[] codes;

        Receipts() {
            orders = new int[MOST_KEPT];
            masses = new int[MOST_KEPT];
            prices = new int[MOST_KEPT];
            times = new int[MOST_KEPT];
            codes = new int[MOST_KEPT];
        }

        void copyFrom(Receipts other) {
            written = other.written;
            latestCode = other.latestCode;
            copyRow(other.orders, orders);
            copyRow(other.masses, masses);
            copyRow(other.prices, prices);
            copyRow(other.times, times);
            copyRow(other.codes, codes);
        }

        int kept() {
            return written < MOST_KEPT ? written : MOST_KEPT;
        }

        void write(int order, int mass, int price, int time) {
            latestCode = ((latestCode << 5) | (latestCode >>> 27)) ^ (order * 65537 + mass * 31 + price);
            int row = written % MOST_KEPT;
            if (row >= 0) {
                orders[row] = order;
                masses[row] = mass;
                prices[row] = price;
                times[row] = time;
                codes[row] = latestCode;
                written++;
            }
        }

        int property(int index, int property) {
            int row = (written - 1 - index) % MOST_KEPT;
            switch (property) {
                case 0:
                    return valueAt(orders, row);
                case 1:
                    return valueAt(masses, row);
                case 2:
                    return valueAt(prices, row);
                case 3:
                    return valueAt(times, row);
                default:
                    return valueAt(codes, row);
            }
        }
    }

    private static final class Accounts {
        static final int MOST = 16;

        int count;
        final int[] boats;
        final int[] bands;
        final long[] masses;
        final long[] prices;

        Accounts() {
            boats = new int[MOST];
            bands = new int[MOST];
            masses = new long[MOST];
            prices = new long[MOST];
        }

        void copyFrom(Accounts other) {
            count = other.count;
            copyRow(other.boats, boats);
            copyRow(other.bands, bands);
            copyLongRow(other.masses, masses);
            copyLongRow(other.prices, prices);
        }

        int find(int boat, int band) {
            for (int account = 0; account < count; account++) {
                if (boats[account] == boat && bands[account] == band) {
                    return account;
                }
            }
            return NONE;
        }

        void enter(int boat, int band, int mass, int price) {
            int account = find(boat, band);
            if (account == NONE && count < MOST) {
                account = count;
                boats[account] = boat;
                bands[account] = band;
                masses[account] = 0;
                prices[account] = 0;
                count++;
            }
            if (account != NONE) {
                masses[account] += mass;
                prices[account] += price;
            }
        }

        long property(int account, int property) {
            if (account < 0 || account >= count) {
                return NONE;
            }
            switch (property) {
                case 0:
                    return boats[account];
                case 1:
                    return bands[account];
                case 2:
                    return masses[account];
                default:
                    return prices[account];
            }
        }
    }

    /** The saved states: a ring, whose places are made once and written over. */
    private static final class History {
        static final int MOST = 8;

        int oldest;
        int count;
        final Plant[] states;

        History() {
            states = new Plant[MOST];
            for (int i = 0; i < states.length; i++) {
                states[i] = new Plant();
            }
        }

        void save(Plant plant) {
            if (count == MOST) {
                oldest = (oldest + 1) % MOST;
                count--;
            }
            Plant place = states[(oldest + count) % MOST];
            if (place != null) {
                place.copyFrom(plant);
                count++;
            }
        }

        /** Answers how many saved states remain. */
        int restore(Plant plant) {
            if (count > 0) {
                count--;
                Plant place = states[(oldest + count) % MOST];
                if (place != null) {
                    plant.copyFrom(place);
                }
            }
            return count;
        }
    }

    /** The buffer, and a reader that goes through its commands from left to right. */
    private static final class Text {
        static final int LONGEST = 120;
        static final int FIRST_CODE = 32;
        static final int LAST_CODE = 126;
        static final int NO_ERROR = 0;
        static final int UNFIT_SIGN = 1;
        static final int SEVENTH_DIGIT = 2;
        static final int EARLY_END = 3;
        private static final int MOST_DIGITS = 6;
        private static final int MOST_NUMBERS = 3;
        /** Stands for the end of the text; no sign of a text has this code. */
        private static final char END = 0;

        int length;
        int at;
        int error;
        char letter;
        boolean marked;
        final int[] numbers;
        private boolean awaitsCommand;
        private final char[] signs;

        Text() {
            numbers = new int[MOST_NUMBERS];
            signs = new char[LONGEST];
        }

        int addSign(char sign) {
            if (length < signs.length) {
                signs[length] = sign;
                length++;
            }
            return length;
        }

        int empty() {
            int before = length;
            length = 0;
            return before;
        }

        void start() {
            at = 0;
            error = NO_ERROR;
            awaitsCommand = length > 0;
        }

        boolean hasCommand() {
            return awaitsCommand && error == NO_ERROR;
        }

        void readAll() {
            start();
            for (int commands = 0; commands < LONGEST && hasCommand(); commands++) {
                readCommand();
            }
        }

        /** Reads a command with the semicolon behind it; at an error, at stays where the error is. */
        void readCommand() {
            letter = sign();
            int due = numbersBehind(letter);
            if (due == 0) {
                failHere();
                return;
            }
            at++;
            for (int index = 0; index < due && error == NO_ERROR; index++) {
                if (index > 0) {
                    readComma();
                }
                readNumber(index);
            }
            marked = error == NO_ERROR && letter == 'o' && sign() == '!';
            if (marked) {
                at++;
            }
            readSeparator();
        }

        private static int numbersBehind(char letter) {
            switch (letter) {
                case 'h':
                    return 1;
                case 'o':
                    return 3;
                case 'c':
                case 'p':
                case 'm':
                    return 2;
                default:
                    return 0;
            }
        }

        private char sign() {
            return at >= 0 && at < length && at < signs.length ? signs[at] : END;
        }

        private void failHere() {
            error = at < length ? UNFIT_SIGN : EARLY_END;
        }

        private void readComma() {
            if (sign() == ',') {
                at++;
            } else {
                failHere();
            }
        }

        private void readNumber(int index) {
            if (error != NO_ERROR || index >= numbers.length) {
                return;
            }
            int value = 0;
            int digits = 0;
            while (digits < MOST_DIGITS && isDigit(sign())) {
                value = value * 10 + (sign() - '0');
                digits++;
                at++;
            }
            numbers[index] = value;
            if (digits == 0) {
                failHere();
            } else if (isDigit(sign())) {
                error = SEVENTH_DIGIT;
            }
        }

        private static boolean isDigit(char sign) {
            return sign >= '0' && sign <= '9';
        }

        private void readSeparator() {
            if (error != NO_ERROR) {
                return;
            }
            if (sign() == ';') {
                at++;
            } else if (at < length) {
                failHere();
            } else {
                awaitsCommand = false;
            }
        }
    }
}
