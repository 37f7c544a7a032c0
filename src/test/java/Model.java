import java.util.ArrayList;
import java.util.Arrays;
import java.util.HashMap;
import java.util.List;
import java.util.Map;
import java.util.TreeMap;

/**
 * The office a second time, as near to the document's words as can be and with no thought of speed:
 * minutes are looked at one by one, covers are whole rows of products, change is found by counting.
 */
final class Model {
    private static final int[] COINS = {200, 100, 50, 20, 10, 5};

    record Product(int price, int length, int zone, int from, int to) {
        boolean allowed(int minute) {
            int h = minute / 60 % 168;
            return from < to ? from <= h && h < to : h >= from || h < to;
        }
    }

    record Cover(int price, List<Integer> row) {
        boolean betterThan(Cover other) {
            if (other == null || price != other.price) {
                return other == null || price < other.price;
            }
            if (row.size() != other.row.size()) {
                return row.size() < other.row.size();
            }
            for (int i = 0; i < row.size(); i++) {
                if (!row.get(i).equals(other.row.get(i))) {
                    return row.get(i) < other.row.get(i);
                }
            }
            return false;
        }
    }

    record Reservation(int zone, int from, int to) {
    }

    record Payment(int ticket, int minute, int amount) {
    }

    static final class Ticket {
        String state = "INSIDE";
        int plate;
        int zone;
        int beginning;
        int contract = -1;
        boolean flat;
        List<Payment> payments = new ArrayList<>();
    }

    static final class Contract {
        int zone;
        int k;
        List<Integer> plates = new ArrayList<>();
    }

    static final class Machine {
        Map<Integer, Integer> box = new TreeMap<>();
        List<Integer> in = new ArrayList<>();
        Map<Integer, Integer> out = new TreeMap<>();
        int ticket;
        int fee;
        int minute;
    }

    private boolean open;
    private int latest;
    private final int[] places = {20, 20, 20, 20};
    private final int[] free = new int[4];
    private final Product[] products = new Product[24];
    private final List<Ticket> tickets = new ArrayList<>();
    private final Contract[] contracts = new Contract[20];
    private final Reservation[] reservations = new Reservation[30];
    private final Machine[] machines = {new Machine(), new Machine(), new Machine()};
    private final List<Payment> journal = new ArrayList<>();
    private final Map<String, Cover> covers = new HashMap<>();
    private final int[][] latestAllowed = new int[24][];

    private static void argument(boolean fits) {
        if (!fits) {
            throw new IllegalArgumentException();
        }
    }

    private static void state(boolean fits) {
        if (!fits) {
            throw new IllegalStateException();
        }
    }

    private static void range(int value, int low, int high) {
        argument(value >= low && value <= high);
    }

    private void timely(int minute) {
        range(minute, latest, 200_000);
    }

    private static void coinValue(int machine, int value) {
        range(machine, 0, 2);
        argument(Arrays.stream(COINS).anyMatch(c -> c == value));
    }

    void places(int zone, int many) {
        range(zone, 0, 3);
        range(many, 1, 40);
        state(!open);
        places[zone] = many;
    }

    void product(int id, int price, int length, int zone) {
        range(id, 0, 23);
        range(price, 0, 20_000);
        argument(price % 5 == 0);
        range(length, 15, 4320);
        range(zone, 0, 3);
        state(!open);
        products[id] = new Product(price, length, zone, 0, 168);
    }

    void hours(int id, int from, int to) {
        range(id, 0, 23);
        range(from, 0, 168);
        range(to, 0, 168);
        state(!open);
        state(products[id] != null);
        Product p = products[id];
        products[id] = new Product(p.price, p.length, p.zone, from, to);
    }

    void free(int zone, int minutes) {
        range(zone, 0, 3);
        range(minutes, 0, 120);
        state(!open);
        free[zone] = minutes;
    }

    int open() {
        state(!open);
        for (int i = 0; i < 4 * 168; i++) {
            int zone = i / 168;
            int minute = i % 168 * 60;
            if (Arrays.stream(products).noneMatch(p -> p != null && p.zone == zone && p.allowed(minute))) {
                return i;
            }
        }
        open = true;
        return -1;
    }

    private Cover cover(int zone, int a, int b) {
        return covers.computeIfAbsent(zone + " " + a + " " + b, k -> {
            Cover[] from = new Cover[b - a + 1];
            from[b - a] = new Cover(0, List.of());
            for (int end = b - 1; end >= a; end--) {
                from[end - a] = bestFrom(zone, a, b, end, from);
            }
            return from[0];
        });
    }

    /** For each minute the latest one up to it in which the product may begin, or -1. */
    private int[] latestAllowed(int id) {
        if (latestAllowed[id] == null) {
            int[] row = new int[210_000];
            for (int m = 0; m < row.length; m++) {
                row[m] = products[id].allowed(m) ? m : m == 0 ? -1 : row[m - 1];
            }
            latestAllowed[id] = row;
        }
        return latestAllowed[id];
    }

    private Cover bestFrom(int zone, int a, int b, int end, Cover[] from) {
        Cover best = null;
        for (int id = 0; id <= 24; id++) {
            int next = -1;
            int price = 0;
            if (id == 24) {
                next = end == a && free[zone] > 0 ? a + free[zone] : -1;
            } else if (products[id] != null && products[id].zone == zone) {
                price = products[id].price;
                int begin = latestAllowed(id)[end];
                next = begin >= a ? begin + products[id].length : -1;
            }
            if (next > end) {
                Cover rest = from[Math.min(next, b) - a];
                // Only the rank is needed to see that a row can't win; most can't.
                if (best == null || price + rest.price <= best.price) {
                    List<Integer> row = new ArrayList<>(List.of(id));
                    row.addAll(rest.row);
                    Cover c = new Cover(price + rest.price, row);
                    best = c.betterThan(best) ? c : best;
                }
            }
        }
        return best;
    }

    private int charge(int zone, int a, int b) {
        if (b - a > 4320) {
            return cover(zone, a, a + 4320).price + charge(zone, a + 4320, b);
        }
        return cover(zone, a, b).price;
    }

    private int feeAt(Ticket t, int minute) {
        if (t.contract >= 0) {
            return 0;
        }
        int fee = t.flat ? charge(t.zone, t.beginning, t.beginning + 4320) : charge(t.zone, t.beginning, minute);
        for (Payment p : t.payments) {
            fee -= p.amount;
            if (p.amount > 0 && minute <= p.minute + 15) {
                return 0;
            }
        }
        return Math.max(fee, 0);
    }

    private int ticketOf(int plate) {
        for (int i = 0; i < tickets.size(); i++) {
            if (tickets.get(i).state.equals("INSIDE") && tickets.get(i).plate == plate && plate != 0) {
                return i + 1;
            }
        }
        return 0;
    }

    private long insideUnder(int contract) {
        return tickets.stream().filter(t -> t.state.equals("INSIDE") && t.contract == contract).count();
    }

    private long running(int zone, int minute) {
        return Arrays.stream(reservations)
                .filter(r -> r != null && r.zone == zone && r.from <= minute && minute < r.to).count();
    }

    private boolean beingPaid(int ticket) {
        return Arrays.stream(machines).anyMatch(m -> m.ticket == ticket);
    }

    int enter(int lane, int plate, int minute) {
        range(lane, 0, 7);
        range(plate, 1, 1_000_000);
        timely(minute);
        state(open && tickets.size() < 300);
        latest = minute;
        int zone = lane % 4;
        if (ticketOf(plate) != 0 || occupied(zone) >= places[zone] - running(zone, minute)) {
            return 0;
        }
        Ticket t = new Ticket();
        t.plate = plate;
        t.zone = zone;
        t.beginning = minute;
        for (int id = 0; id < 20; id++) {
            Contract c = contracts[id];
            if (c != null && c.plates.contains(plate) && c.zone == zone && insideUnder(id) < c.k) {
                t.contract = id;
            }
        }
        tickets.add(t);
        return tickets.size();
    }

    private Ticket asked(int ticket, int minute) {
        range(ticket, 1, tickets.size());
        timely(minute);
        return tickets.get(ticket - 1);
    }

    int fee(int ticket, int minute) {
        Ticket t = asked(ticket, minute);
        state(open && t.state.equals("INSIDE"));
        latest = minute;
        return feeAt(t, minute);
    }

    boolean leave(int ticket, int minute) {
        Ticket t = asked(ticket, minute);
        state(open && t.state.equals("INSIDE") && !beingPaid(ticket));
        latest = minute;
        if (feeAt(t, minute) == 0) {
            t.state = "GONE";
        }
        return t.state.equals("GONE");
    }

    int lost(int plate, int zone, int minute) {
        range(plate, 0, 1_000_000);
        range(zone, 0, 3);
        timely(minute);
        int old = ticketOf(plate);
        state(open && tickets.size() < 300 && (old == 0 || !beingPaid(old)));
        latest = minute;
        Ticket t = new Ticket();
        if (old == 0) {
            t.zone = zone;
            t.beginning = minute;
            t.flat = true;
        } else {
            Ticket was = tickets.get(old - 1);
            was.state = "REPLACED";
            t.plate = plate;
            t.zone = was.zone;
            t.beginning = was.beginning;
            t.contract = was.contract;
            t.payments.addAll(was.payments);
        }
        tickets.add(t);
        return tickets.size();
    }

    void contract(int id, int zone, int k) {
        range(id, 0, 19);
        range(zone, 0, 3);
        range(k, 1, 9);
        state(insideUnder(id) == 0);
        Contract c = contracts[id] == null ? new Contract() : contracts[id];
        c.zone = zone;
        c.k = k;
        contracts[id] = c;
    }

    void plate(int contract, int plate) {
        range(contract, 0, 19);
        range(plate, 1, 1_000_000);
        state(contracts[contract] != null);
        if (contracts[contract].plates.contains(plate)) {
            return;
        }
        state(contracts[contract].plates.size() < 12);
        state(Arrays.stream(contracts).noneMatch(c -> c != null && c.plates.contains(plate)));
        contracts[contract].plates.add(plate);
    }

    boolean dropPlate(int plate) {
        range(plate, 1, 1_000_000);
        boolean was = false;
        for (Contract c : contracts) {
            was |= c != null && c.plates.remove((Integer) plate);
        }
        return was;
    }

    boolean reserve(int id, int zone, int from, int to) {
        range(id, 0, 29);
        range(zone, 0, 3);
        timely(from);
        range(to, from + 1, 200_000);
        state(open && reservations[id] == null);
        for (int minute = from; minute < to; minute++) {
            if (running(zone, minute) + 1 > places[zone]) {
                return false;
            }
        }
        reservations[id] = new Reservation(zone, from, to);
        return true;
    }

    boolean cancelReserve(int id) {
        range(id, 0, 29);
        boolean was = reservations[id] != null;
        reservations[id] = null;
        return was;
    }

    int payBegin(int ticket, int machine, int minute) {
        Ticket t = asked(ticket, minute);
        range(machine, 0, 2);
        state(open && machines[machine].ticket == 0 && t.state.equals("INSIDE") && !beingPaid(ticket));
        latest = minute;
        Machine m = machines[machine];
        m.ticket = ticket;
        m.minute = minute;
        m.fee = feeAt(t, minute);
        m.in.clear();
        return m.fee;
    }

    private static int sum(List<Integer> coins) {
        return coins.stream().mapToInt(c -> c).sum();
    }

    int coin(int machine, int value) {
        coinValue(machine, value);
        Machine m = machines[machine];
        state(m.ticket != 0 && m.box.getOrDefault(value, 0) < 500 && m.in.size() < 200);
        m.in.add(value);
        m.box.merge(value, 1, Integer::sum);
        return sum(m.in);
    }

    private static void giveOut(Machine m, List<Integer> coins) {
        m.out.clear();
        for (int coin : coins) {
            m.out.merge(coin, 1, Integer::sum);
            m.box.merge(coin, -1, Integer::sum);
        }
        m.ticket = 0;
    }

    /** The best way to give a sum with the coins from this kind on; null if there is none. */
    private static List<Integer> way(Machine m, int kind, int rest, Map<Integer, List<Integer>> known) {
        if (rest == 0 || kind == 6) {
            return rest == 0 ? List.of() : null;
        }
        int key = rest * 6 + kind;
        if (!known.containsKey(key)) {
            List<Integer> best = null;
            int most = Math.min(m.box.getOrDefault(COINS[kind], 0), rest / COINS[kind]);
            for (int n = most; n >= 0; n--) {
                List<Integer> others = way(m, kind + 1, rest - n * COINS[kind], known);
                if (others != null && (best == null || n + others.size() < best.size())) {
                    best = new ArrayList<>(java.util.Collections.nCopies(n, COINS[kind]));
                    best.addAll(others);
                }
            }
            known.put(key, best);
        }
        return known.get(key);
    }

    int payEnd(int machine) {
        range(machine, 0, 2);
        Machine m = machines[machine];
        state(m.ticket != 0);
        int rest = sum(m.in) - m.fee;
        List<Integer> change = rest < 0 ? null : way(m, 0, rest, new HashMap<>());
        if (change == null) {
            giveOut(m, m.in);
            return -1;
        }
        Payment p = new Payment(m.ticket, m.minute, m.fee);
        tickets.get(m.ticket - 1).payments.add(p);
        if (m.fee > 0) {
            journal.add(p);
        }
        giveOut(m, change);
        return rest;
    }

    int payBack(int machine) {
        range(machine, 0, 2);
        Machine m = machines[machine];
        state(m.ticket != 0);
        giveOut(m, m.in);
        return sum(m.in);
    }

    int changeCoins(int machine, int value) {
        coinValue(machine, value);
        return machines[machine].out.getOrDefault(value, 0);
    }

    int fill(int machine, int value, int n) {
        coinValue(machine, value);
        Machine m = machines[machine];
        long many = (long) m.box.getOrDefault(value, 0) + n;
        state(many >= 0 && many <= 500 && m.ticket == 0);
        m.box.put(value, (int) many);
        return (int) many;
    }

    int box(int machine, int value) {
        coinValue(machine, value);
        return machines[machine].box.getOrDefault(value, 0);
    }

    int occupied(int zone) {
        range(zone, 0, 3);
        return (int) tickets.stream()
                .filter(t -> t.state.equals("INSIDE") && t.zone == zone && t.plate != 0).count();
    }

    int inside(int plate) {
        range(plate, 1, 1_000_000);
        return ticketOf(plate);
    }

    private Cover askedCover(int zone, int from, int to) {
        range(zone, 0, 3);
        range(from, 0, 200_000);
        range(to, from, Math.min(200_000, from + 4320));
        state(open);
        return cover(zone, from, to);
    }

    int least(int zone, int from, int to) {
        return askedCover(zone, from, to).price;
    }

    int best(int zone, int from, int to, int i) {
        List<Integer> row = askedCover(zone, from, to).row;
        return i >= 0 && i < row.size() ? row.get(i) : -1;
    }

    int journal(int i, int what) {
        range(what, 0, 2);
        if (i < 0 || i >= journal.size()) {
            return -1;
        }
        Payment p = journal.get(i);
        return new int[] {p.ticket, p.minute, p.amount}[what];
    }

    int takings(int from, int to) {
        range(from, 0, 200_000);
        range(to, from, 200_000);
        return journal.stream().filter(p -> from <= p.minute && p.minute <= to).mapToInt(Payment::amount).sum();
    }
}
