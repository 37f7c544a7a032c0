import java.util.Arrays;

/** A car park's office: tariffs, tickets, contracts, reservations and paying machines. */
public final class ParkOffice {
    public static final int NONE = -1;
    public static final int FREE = 24;

    private static final int ZONES = 4;
    private static final int FIRST_PLACES = 20;
    private static final int MOST_PLACES = 40;
    private static final int LANES = 8;
    private static final int LAST_PLATE = 1_000_000;
    private static final int NO_PLATE = 0;
    private static final int LAST_MINUTE = 200_000;
    private static final int HOUR = 60;
    private static final int WEEK_HOURS = 168;
    private static final int WEEK = WEEK_HOURS * HOUR;

    private static final int PRODUCTS = 24;
    private static final int MOST_PRICE = 20_000;
    private static final int PRICE_STEP = 5;
    private static final int SHORTEST = 15;
    private static final int LONGEST = 4320;
    private static final int MOST_FREE = 120;

    private static final int TICKETS = 300;
    private static final int GRACE = 15;
    private static final int CONTRACTS = 20;
    private static final int MOST_AT_ONCE = 9;
    private static final int CONTRACT_PLATES = 12;
    private static final int RESERVATIONS = 30;

    private static final int MACHINES = 3;
    private static final int BOX_COINS = 500;
    private static final int MOST_PUT_IN = 200;
    // From the dearest on, as the rule for the change prefers them.
    private static final int[] COINS = {200, 100, 50, 20, 10, 5};
    private static final int FIFTY = 2;
    // A payment above 0 takes a payBegin, a coin and a payEnd, of 512 calls in all.
    private static final int PAYMENTS = 512 / 3;

    private final Zone[] zones = new Zone[ZONES];
    private final Product[] products = new Product[PRODUCTS];
    private final Covers covers = new Covers();
    private final Ticket[] tickets = new Ticket[TICKETS + 1];
    private final Contract[] contracts = new Contract[CONTRACTS];
    private final Reservation[] reservations = new Reservation[RESERVATIONS];
    private final Machine[] machines = new Machine[MACHINES];
    private final Change change = new Change();
    private final Payment[] payments = new Payment[PAYMENTS];
    private int ticketCount = 0;
    private int paymentCount = 0;
    private int latest = 0;
    private boolean isOpen = false;

    public ParkOffice() {
        for (int zone = 0; zone < ZONES; zone++) {
            zones[zone] = new Zone(zone);
        }
        for (int machine = 0; machine < MACHINES; machine++) {
            machines[machine] = new Machine();
        }
    }

    // ---- before the opening ----

    public void places(int zone, int many) throws IllegalArgumentException, IllegalStateException {
        needArgument(isZone(zone) && within(many, 1, MOST_PLACES));
        needState(!isOpen);
        zones[zone].room = many;
    }

    public void product(int id, int price, int length, int zone)
            throws IllegalArgumentException, IllegalStateException {
        needArgument(isProduct(id) && isPrice(price) && within(length, SHORTEST, LONGEST) && isZone(zone));
        needState(!isOpen);
        products[id] = new Product(id, price, length, zone);
    }

    public void hours(int id, int from, int to) throws IllegalArgumentException, IllegalStateException {
        needArgument(isProduct(id) && within(from, 0, WEEK_HOURS) && within(to, 0, WEEK_HOURS));
        needState(!isOpen && products[id] != null);
        products[id].fromHour = from;
        products[id].toHour = to;
    }

    public void free(int zone, int minutes) throws IllegalArgumentException, IllegalStateException {
        needArgument(isZone(zone) && within(minutes, 0, MOST_FREE));
        needState(!isOpen);
        zones[zone].freeMinutes = minutes;
    }

    public int open() throws IllegalStateException {
        needState(!isOpen);
        for (int zone = 0; zone < ZONES; zone++) {
            zones[zone].gatherOffers(products);
            int hour = zones[zone].firstHourWithoutOffer();
            if (hour != NONE) {
                return WEEK_HOURS * zone + hour;
            }
        }
        isOpen = true;
        return NONE;
    }

    // ---- tickets ----

    public int enter(int lane, int plate, int minute) throws IllegalArgumentException, IllegalStateException {
        needArgument(within(lane, 0, LANES - 1) && isPlate(plate) && isTimely(minute));
        needState(isOpen && ticketCount < TICKETS);
        latest = minute;
        int zone = lane % ZONES;
        if (ticketInsideOf(plate) != null || isFull(zone, minute)) {
            return 0;
        }
        return addTicket(plate, zone, minute, contractLettingIn(plate, zone)).number;
    }

    public int fee(int ticket, int minute) throws IllegalArgumentException, IllegalStateException {
        needArgument(isTicket(ticket) && isTimely(minute));
        needState(isOpen && tickets[ticket].isInside());
        latest = minute;
        return feeOf(tickets[ticket], minute);
    }

    public boolean leave(int ticket, int minute) throws IllegalArgumentException, IllegalStateException {
        needArgument(isTicket(ticket) && isTimely(minute));
        needState(isOpen && tickets[ticket].isInside() && !tickets[ticket].beingPaid);
        latest = minute;
        if (feeOf(tickets[ticket], minute) != 0) {
            return false;
        }
        tickets[ticket].state = TicketState.GONE;
        return true;
    }

    public int lost(int plate, int zone, int minute) throws IllegalArgumentException, IllegalStateException {
        needArgument((plate == NO_PLATE || isPlate(plate)) && isZone(zone) && isTimely(minute));
        needState(isOpen && ticketCount < TICKETS);
        Ticket old = plate == NO_PLATE ? null : ticketInsideOf(plate);
        needState(old == null || !old.beingPaid);
        latest = minute;
        if (old == null) {
            return addTicket(NO_PLATE, zone, minute, NONE).number;
        }
        Ticket made = addTicket(plate, old.zone, old.beginning, old.contract);
        made.paid = old.paid;
        made.lastPaidMinute = old.lastPaidMinute;
        old.state = TicketState.REPLACED;
        return made.number;
    }

    // ---- contracts ----

    public void contract(int id, int zone, int k) throws IllegalArgumentException, IllegalStateException {
        needArgument(isContract(id) && isZone(zone) && within(k, 1, MOST_AT_ONCE));
        needState(insideUnder(id) == 0);
        if (contracts[id] == null) {
            contracts[id] = new Contract();
        }
        contracts[id].zone = zone;
        contracts[id].atOnce = k;
    }

    public void plate(int contract, int plate) throws IllegalArgumentException, IllegalStateException {
        needArgument(isContract(contract) && isPlate(plate));
        needState(contracts[contract] != null);
        int owner = contractOf(plate);
        if (owner == contract) {
            return;
        }
        needState(owner == NONE && contracts[contract].plateCount < CONTRACT_PLATES);
        contracts[contract].add(plate);
    }

    public boolean dropPlate(int plate) throws IllegalArgumentException {
        needArgument(isPlate(plate));
        int owner = contractOf(plate);
        if (owner == NONE) {
            return false;
        }
        contracts[owner].remove(plate);
        return true;
    }

    // ---- reservations ----

    public boolean reserve(int id, int zone, int from, int to)
            throws IllegalArgumentException, IllegalStateException {
        needArgument(isReservation(id) && isZone(zone) && isTimely(from) && isMinute(to) && to > from);
        needState(isOpen && reservations[id] == null);
        if (mostRunning(zone, from, to) >= zones[zone].room) {
            return false;
        }
        reservations[id] = new Reservation(zone, from, to);
        return true;
    }

    public boolean cancelReserve(int id) throws IllegalArgumentException {
        needArgument(isReservation(id));
        boolean was = reservations[id] != null;
        reservations[id] = null;
        return was;
    }

    // ---- machines ----

    public int payBegin(int ticket, int machine, int minute)
            throws IllegalArgumentException, IllegalStateException {
        needArgument(isTicket(ticket) && isMachine(machine) && isTimely(minute));
        Ticket paying = tickets[ticket];
        needState(isOpen && machines[machine].paying == null && paying.isInside() && !paying.beingPaid);
        latest = minute;
        int due = feeOf(paying, minute);
        machines[machine].begin(paying, due, minute);
        return due;
    }

    public int coin(int machine, int value) throws IllegalArgumentException, IllegalStateException {
        int kind = kindOfCoin(value);
        needArgument(isMachine(machine) && kind != NONE);
        Machine at = machines[machine];
        needState(at.paying != null && at.stock[kind] < BOX_COINS && at.putInCount < MOST_PUT_IN);
        at.putIn(kind);
        return at.putInSum;
    }

    public int payEnd(int machine) throws IllegalArgumentException, IllegalStateException {
        needArgument(isMachine(machine));
        Machine at = machines[machine];
        needState(at.paying != null);
        int rest = at.putInSum - at.due;
        if (rest < 0 || !change.find(rest, at.stock)) {
            at.end(at.coinsPutIn);
            return NONE;
        }
        recordPayment(at.paying, at.minute, at.due);
        at.end(change.chosen);
        return rest;
    }

    public int payBack(int machine) throws IllegalArgumentException, IllegalStateException {
        needArgument(isMachine(machine));
        Machine at = machines[machine];
        needState(at.paying != null);
        int sum = at.putInSum;
        at.end(at.coinsPutIn);
        return sum;
    }

    public int changeCoins(int machine, int value) throws IllegalArgumentException {
        int kind = kindOfCoin(value);
        needArgument(isMachine(machine) && kind != NONE);
        return machines[machine].cameOut[kind];
    }

    public int fill(int machine, int value, int n) throws IllegalArgumentException, IllegalStateException {
        int kind = kindOfCoin(value);
        needArgument(isMachine(machine) && kind != NONE);
        Machine at = machines[machine];
        // Not stock + n: that sum may wrap around.
        needState(n <= BOX_COINS - at.stock[kind] && n >= -at.stock[kind] && at.paying == null);
        at.stock[kind] += n;
        return at.stock[kind];
    }

    public int box(int machine, int value) throws IllegalArgumentException {
        int kind = kindOfCoin(value);
        needArgument(isMachine(machine) && kind != NONE);
        return machines[machine].stock[kind];
    }

    // ---- what there is to ask ----

    public int occupied(int zone) throws IllegalArgumentException {
        needArgument(isZone(zone));
        return platesInside(zone);
    }

    public int inside(int plate) throws IllegalArgumentException {
        needArgument(isPlate(plate));
        Ticket ticket = ticketInsideOf(plate);
        return ticket == null ? 0 : ticket.number;
    }

    public int least(int zone, int from, int to) throws IllegalArgumentException, IllegalStateException {
        needArgument(isZone(zone) && isStay(from, to) && to - from <= LONGEST);
        needState(isOpen);
        return covers.priceOf(zones[zone], from, to - from);
    }

    public int best(int zone, int from, int to, int i) throws IllegalArgumentException, IllegalStateException {
        needArgument(isZone(zone) && isStay(from, to) && to - from <= LONGEST);
        needState(isOpen);
        return i < 0 ? NONE : covers.productOf(zones[zone], from, to - from, i);
    }

    public int journal(int i, int what) throws IllegalArgumentException {
        needArgument(within(what, 0, 2));
        if (!within(i, 0, paymentCount - 1)) {
            return NONE;
        }
        Payment payment = payments[i];
        return what == 0 ? payment.ticket : what == 1 ? payment.minute : payment.amount;
    }

    public int takings(int from, int to) throws IllegalArgumentException {
        needArgument(isStay(from, to));
        int sum = 0;
        for (int i = 0; i < paymentCount; i++) {
            if (within(payments[i].minute, from, to)) {
                sum += payments[i].amount;
            }
        }
        return sum;
    }

    // ---- what arguments and states must be ----

    private static void needArgument(boolean fits) {
        if (!fits) {
            throw new IllegalArgumentException();
        }
    }

    private static void needState(boolean fits) {
        if (!fits) {
            throw new IllegalStateException();
        }
    }

    private static boolean within(int value, int low, int high) {
        return low <= value && value <= high;
    }

    private static boolean isZone(int zone) {
        return within(zone, 0, ZONES - 1);
    }

    private static boolean isProduct(int id) {
        return within(id, 0, PRODUCTS - 1);
    }

    private static boolean isPrice(int price) {
        return within(price, 0, MOST_PRICE) && price % PRICE_STEP == 0;
    }

    private static boolean isPlate(int plate) {
        return within(plate, 1, LAST_PLATE);
    }

    private static boolean isContract(int id) {
        return within(id, 0, CONTRACTS - 1);
    }

    private static boolean isReservation(int id) {
        return within(id, 0, RESERVATIONS - 1);
    }

    private static boolean isMachine(int machine) {
        return within(machine, 0, MACHINES - 1);
    }

    private static boolean isMinute(int minute) {
        return within(minute, 0, LAST_MINUTE);
    }

    private static boolean isStay(int from, int to) {
        return isMinute(from) && isMinute(to) && from <= to;
    }

    private boolean isTimely(int minute) {
        return isMinute(minute) && minute >= latest;
    }

    private boolean isTicket(int ticket) {
        return within(ticket, 1, ticketCount);
    }

    private static int kindOfCoin(int value) {
        for (int kind = 0; kind < COINS.length; kind++) {
            if (COINS[kind] == value) {
                return kind;
            }
        }
        return NONE;
    }

    // ---- tickets, contracts and reservations at work ----

    private Ticket addTicket(int plate, int zone, int beginning, int contract) {
        ticketCount++;
        tickets[ticketCount] = new Ticket(ticketCount, plate, zone, beginning, contract);
        return tickets[ticketCount];
    }

    private Ticket ticketInsideOf(int plate) {
        for (int number = 1; number <= ticketCount; number++) {
            if (tickets[number].plate == plate && tickets[number].isInside()) {
                return tickets[number];
            }
        }
        return null;
    }

    private int platesInside(int zone) {
        int many = 0;
        for (int number = 1; number <= ticketCount; number++) {
            Ticket ticket = tickets[number];
            if (ticket.zone == zone && ticket.plate != NO_PLATE && ticket.isInside()) {
                many++;
            }
        }
        return many;
    }

    private boolean isFull(int zone, int minute) {
        return platesInside(zone) >= zones[zone].room - running(zone, minute);
    }

    private int insideUnder(int contract) {
        int many = 0;
        for (int number = 1; number <= ticketCount; number++) {
            if (tickets[number].contract == contract && tickets[number].isInside()) {
                many++;
            }
        }
        return many;
    }

    private int contractOf(int plate) {
        for (int id = 0; id < CONTRACTS; id++) {
            if (contracts[id] != null && contracts[id].indexOf(plate) != NONE) {
                return id;
            }
        }
        return NONE;
    }

    private int contractLettingIn(int plate, int zone) {
        int id = contractOf(plate);
        if (id == NONE || contracts[id].zone != zone || insideUnder(id) >= contracts[id].atOnce) {
            return NONE;
        }
        return id;
    }

    private int running(int zone, int minute) {
        int many = 0;
        for (int id = 0; id < RESERVATIONS; id++) {
            Reservation made = reservations[id];
            if (made != null && made.zone == zone && made.runsAt(minute)) {
                many++;
            }
        }
        return many;
    }

    // The number running grows only where one begins, so these minutes are enough.
    private int mostRunning(int zone, int from, int to) {
        int most = running(zone, from);
        for (int id = 0; id < RESERVATIONS; id++) {
            Reservation made = reservations[id];
            if (made != null && made.zone == zone && from < made.from && made.from < to) {
                most = Math.max(most, running(zone, made.from));
            }
        }
        return most;
    }

    private int feeOf(Ticket ticket, int minute) {
        if (ticket.contract != NONE || ticket.isInGrace(minute)) {
            return 0;
        }
        int end = ticket.plate == NO_PLATE ? ticket.beginning + LONGEST : minute;
        return Math.max(0, chargeOf(zones[ticket.zone], ticket.beginning, end) - ticket.paid);
    }

    private int chargeOf(Zone zone, int from, int to) {
        int sum = 0;
        int begin = from;
        for (; begin + LONGEST <= to; begin += LONGEST) {
            sum += covers.priceOf(zone, begin, LONGEST);
        }
        return sum + covers.priceOf(zone, begin, to - begin);
    }

    private void recordPayment(Ticket ticket, int minute, int amount) {
        if (amount == 0) {
            return;
        }
        ticket.paid += amount;
        ticket.lastPaidMinute = minute;
        if (paymentCount < PAYMENTS) {
            payments[paymentCount] = new Payment(ticket.number, minute, amount);
            paymentCount++;
        }
    }

    private enum TicketState { INSIDE, GONE, REPLACED }

    private static final class Ticket {
        final int number;
        // NO_PLATE is a lost ticket's that was made without a plate inside, and no other's.
        final int plate;
        final int zone;
        final int beginning;
        final int contract;
        TicketState state = TicketState.INSIDE;
        boolean beingPaid = false;
        int paid = 0;
        int lastPaidMinute = NONE;

        Ticket(int number, int plate, int zone, int beginning, int contract) {
            this.number = number;
            this.plate = plate;
            this.zone = zone;
            this.beginning = beginning;
            this.contract = contract;
        }

        boolean isInside() {
            return state == TicketState.INSIDE;
        }

        boolean isInGrace(int minute) {
            return lastPaidMinute != NONE && minute - lastPaidMinute <= GRACE;
        }
    }

    private static final class Payment {
        final int ticket;
        final int minute;
        final int amount;

        Payment(int ticket, int minute, int amount) {
            this.ticket = ticket;
            this.minute = minute;
            this.amount = amount;
        }
    }

    private static final class Contract {
        int zone = 0;
        int atOnce = 1;
        final int[] plates = new int[CONTRACT_PLATES];
        int plateCount = 0;

        int indexOf(int plate) {
            for (int i = 0; i < plateCount; i++) {
                if (plates[i] == plate) {
                    return i;
                }
            }
            return NONE;
        }

        void add(int plate) {
            if (plateCount < CONTRACT_PLATES) {
                plates[plateCount] = plate;
                plateCount++;
            }
        }

        void remove(int plate) {
            int at = indexOf(plate);
            if (at != NONE) {
                plateCount--;
                plates[at] = plates[plateCount];
            }
        }
    }

    private static final class Reservation {
        final int zone;
        final int from;
        final int to;

        Reservation(int zone, int from, int to) {
            this.zone = zone;
            this.from = from;
            this.to = to;
        }

        boolean runsAt(int minute) {
            return from <= minute && minute < to;
        }
    }

    private static final class Machine {
        // All rows of coins go by the index of COINS.
        final int[] stock = new int[COINS.length];
        final int[] coinsPutIn = new int[COINS.length];
        final int[] cameOut = new int[COINS.length];
        Ticket paying = null;
        int due = 0;
        int minute = 0;
        int putInCount = 0;
        int putInSum = 0;

        void begin(Ticket ticket, int fee, int when) {
            paying = ticket;
            paying.beingPaid = true;
            due = fee;
            minute = when;
            putInCount = 0;
            putInSum = 0;
            Arrays.fill(coinsPutIn, 0);
        }

        void putIn(int kind) {
            stock[kind]++;
            coinsPutIn[kind]++;
            putInCount++;
            putInSum += COINS[kind];
        }

        void end(int[] out) {
            for (int kind = 0; kind < COINS.length; kind++) {
                cameOut[kind] = out[kind];
                stock[kind] -= out[kind];
            }
            if (paying != null) {
                paying.beingPaid = false;
            }
            paying = null;
        }
    }

    /**
     * Finds the fewest coins for a sum. Each coin but the 50 divides every dearer one, so for each
     * number of 50s, taking as many as possible from the dearest on is the one way with the fewest.
     */
    private static final class Change {
        final int[] chosen = new int[COINS.length];
        private final int[] tried = new int[COINS.length];
        private int chosenCount = 0;
        private int triedCount = 0;

        boolean find(int sum, int[] stock) {
            boolean found = false;
            int most = Math.min(stock[FIFTY], sum / COINS[FIFTY]);
            for (int fifties = 0; fifties <= most; fifties++) {
                if (tryWith(fifties, sum, stock) && (!found || triedIsBetter())) {
                    System.arraycopy(tried, 0, chosen, 0, tried.length);
                    chosenCount = triedCount;
                    found = true;
                }
            }
            return found;
        }

        private boolean tryWith(int fifties, int sum, int[] stock) {
            int rest = sum - fifties * COINS[FIFTY];
            triedCount = fifties;
            for (int kind = 0; kind < COINS.length; kind++) {
                if (kind == FIFTY) {
                    tried[kind] = fifties;
                } else {
                    tried[kind] = Math.min(stock[kind], rest / COINS[kind]);
                    rest -= tried[kind] * COINS[kind];
                    triedCount += tried[kind];
                }
            }
            return rest == 0;
        }

        private boolean triedIsBetter() {
            if (triedCount != chosenCount) {
                return triedCount < chosenCount;
            }
            for (int kind = 0; kind < COINS.length; kind++) {
                if (tried[kind] != chosen[kind]) {
                    return tried[kind] > chosen[kind];
                }
            }
            return false;
        }
    }

    private static final class Product {
        final int id;
        final int price;
        final int length;
        final int zone;
        int fromHour = 0;
        int toHour = WEEK_HOURS;

        Product(int id, int price, int length, int zone) {
            this.id = id;
            this.price = price;
            this.length = length;
            this.zone = zone;
        }

        boolean mayBeginIn(int hour) {
            if (fromHour < toHour) {
                return fromHour <= hour && hour < toHour;
            }
            return hour >= fromHour || hour < toHour;
        }

        /**
         * Its end if it begins at the latest minute in its hours before one that is outside them;
         * NONE if there is no such minute from the earliest on.
         */
        int endFromOutsideHours(int minute, int earliest) {
            // From 168 to 0 is the one pair that holds no hour at all.
            if (fromHour == WEEK_HOURS && toHour == 0) {
                return NONE;
            }
            int lastOfHours = toHour * HOUR - 1;
            int begin = minute - (minute + WEEK - lastOfHours) % WEEK;
            return begin < earliest ? NONE : begin + length;
        }
    }

    private static final class Zone {
        final int number;
        final Product[] offers = new Product[PRODUCTS];
        int offerCount = 0;
        int room = FIRST_PLACES;
        int freeMinutes = 0;

        Zone(int number) {
            this.number = number;
        }

        void gatherOffers(Product[] products) {
            offerCount = 0;
            for (int id = 0; id < PRODUCTS; id++) {
                if (products[id] != null && products[id].zone == number) {
                    offers[offerCount] = products[id];
                    offerCount++;
                }
            }
        }

        int firstHourWithoutOffer() {
            for (int hour = 0; hour < WEEK_HOURS; hour++) {
                if (!hasOfferIn(hour)) {
                    return hour;
                }
            }
            return NONE;
        }

        private boolean hasOfferIn(int hour) {
            for (int i = 0; i < offerCount; i++) {
                if (offers[i].mayBeginIn(hour)) {
                    return true;
                }
            }
            return false;
        }
    }

    /**
     * Best covers of stays of up to LONGEST minutes. For each minute of the stay, from the last one
     * back, the table has the rank of the best row of products that goes on from there: a price, a
     * number of products and the first product, packed so that the lesser rank is the better row.
     */
    private static final class Covers {
        private static final int FIRST_BITS = 5;
        private static final int COUNT_BITS = 13;
        private static final long FIRST_MASK = (1L << FIRST_BITS) - 1;
        // No product ends at minute 0, so it may stand for one that begins where it is asked for.
        private static final int MAY_BEGIN = 0;
        // A prime: the seven beginnings that whole pieces of a long stay have in a week never clash.
        private static final int MEMOS = 509;

        private final long[] ranks = new long[LONGEST];
        private final long[] ranksAlone = new long[PRODUCTS];
        private final int[] endsInHour = new int[PRODUCTS];
        private final int[] memoStays = new int[MEMOS];
        private final int[] memoPrices = new int[MEMOS];
        private Zone zone = null;
        private int from = 0;
        private int length = 0;
        private int tabled = NONE;

        int priceOf(Zone ofZone, int begin, int minutes) {
            int stay = stayNumber(ofZone, begin, minutes);
            int memo = stay % MEMOS;
            // An unused memo says that stay 0, which has no minutes, costs 0: so it does.
            if (memoStays[memo] != stay) {
                table(ofZone, begin, minutes, stay);
                memoStays[memo] = stay;
                memoPrices[memo] = (int) (rankFrom(0) >> (FIRST_BITS + COUNT_BITS));
            }
            return memoPrices[memo];
        }

        int productOf(Zone ofZone, int begin, int minutes, int index) {
            table(ofZone, begin, minutes, stayNumber(ofZone, begin, minutes));
            int at = 0;
            for (int i = 0; i < index && at < length; i++) {
                at = endOf(firstAt(at), at);
            }
            return at < length ? firstAt(at) : NONE;
        }

        // Hours come again each week, so stays a week apart have the same covers.
        private static int stayNumber(Zone zone, int begin, int minutes) {
            return (zone.number * WEEK + begin % WEEK) * (LONGEST + 1) + minutes;
        }

        private void table(Zone ofZone, int begin, int minutes, int stay) {
            if (tabled == stay) {
                return;
            }
            tabled = stay;
            zone = ofZone;
            from = begin % WEEK;
            length = minutes;
            for (int i = 0; i < zone.offerCount; i++) {
                ranksAlone[i] = rankOfOne(zone.offers[i].id, zone.offers[i].price);
            }
            for (int at = length - 1; at >= 0; at--) {
                if (at == length - 1 || (from + at) % HOUR == HOUR - 1) {
                    prepareHourOf(at);
                }
                ranks[at] = leastRank(at);
            }
        }

        // Within an hour, a product outside its hours always ends at the same minute.
        private void prepareHourOf(int at) {
            int hour = (from + at) / HOUR % WEEK_HOURS;
            for (int i = 0; i < zone.offerCount; i++) {
                Product offer = zone.offers[i];
                endsInHour[i] = offer.mayBeginIn(hour) ? MAY_BEGIN : offer.endFromOutsideHours(from + at, from);
            }
        }

        private long leastRank(int at) {
            long least = Long.MAX_VALUE;
            if (at == 0 && zone.freeMinutes > 0) {
                least = rankOfOne(FREE, 0) + rankFrom(zone.freeMinutes);
            }
            for (int i = 0; i < zone.offerCount; i++) {
                int end = offerEnd(i, at);
                if (end > at) {
                    long rank = ranksAlone[i] + rankFrom(end);
                    least = rank < least ? rank : least;
                }
            }
            return least;
        }

        // Only once the hour of this minute is prepared.
        private int offerEnd(int i, int at) {
            return endsInHour[i] == MAY_BEGIN ? at + zone.offers[i].length : endsInHour[i] - from;
        }

        private static long rankOfOne(int first, int price) {
            return ((long) price << (FIRST_BITS + COUNT_BITS)) + (1L << FIRST_BITS) + first;
        }

        // Without the first product: where the row goes on, another one is the first.
        private long rankFrom(int end) {
            return end < length ? ranks[end] & ~FIRST_MASK : 0;
        }

        private int firstAt(int at) {
            return (int) (ranks[at] & FIRST_MASK);
        }

        private int endOf(int first, int at) {
            if (first == FREE) {
                return zone.freeMinutes;
            }
            prepareHourOf(at);
            for (int i = 0; i < zone.offerCount; i++) {
                if (zone.offers[i].id == first) {
                    return offerEnd(i, at);
                }
            }
            return length;
        }
    }
}
