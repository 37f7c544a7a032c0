import java.util.ArrayList;
import java.util.List;
import java.util.function.Supplier;

/**
 * Every call of the face that takes an argument, with the bounds of each argument, an office that takes
 * it, and one that refuses it with IllegalState (null if none does).
 */
final class Calls {
    private static final int[] COINS = {5, 10, 20, 50, 100, 200};
    private static final int[] NO_COINS =
            {-200, -5, 0, 1, 2, 4, 6, 15, 25, 55, 199, 201, 500, Integer.MIN_VALUE, Integer.MAX_VALUE};
    private static final int[] PRICES = {0, 5, 19_995, 20_000};
    private static final int[] NO_PRICES =
            {-5, -1, 1, 4, 6, 19_999, 20_001, 20_005, Integer.MIN_VALUE, Integer.MAX_VALUE};
    private static final int[] ALL = {Integer.MIN_VALUE, -1, 0, 1, Integer.MAX_VALUE};

    static final List<Row> ROWS = new ArrayList<>();

    static {
        setUpCalls();
        ticketCalls();
        contractCalls();
        machineCalls();
        askingCalls();
    }

    private Calls() {
    }

    interface On {
        void call(ParkOffice x, int[] a);
    }

    record Arg(String kind, int good, int[] right, int[] wrong) {
    }

    record Row(int promise, String name, On on, Supplier<ParkOffice> taking, Supplier<ParkOffice> refusing,
            Arg... args) {
        int[] with(int index, int value) {
            int[] a = good();
            a[index] = value;
            return a;
        }

        int[] good() {
            int[] a = new int[args.length];
            for (int i = 0; i < a.length; i++) {
                a[i] = args[i].good;
            }
            return a;
        }

        String told(int[] a) {
            return name + java.util.Arrays.toString(a);
        }
    }

    private static Arg range(String kind, int good, int low, int high) {
        return new Arg(kind, good, new int[] {low, high},
                new int[] {low - 1, high + 1, Integer.MIN_VALUE, Integer.MAX_VALUE});
    }

    private static Arg zone() {
        return range("zone", 1, 0, 3);
    }

    private static Arg plate() {
        return range("plate", 7, 1, 1_000_000);
    }

    private static Arg minute() {
        return range("minute", 50, 0, 200_000);
    }

    private static Arg ticket() {
        return range("ticket", 1, 1, 2);
    }

    private static Arg machine() {
        return range("machine", 1, 0, 2);
    }

    private static Arg coinValue() {
        return new Arg("coin", 50, COINS, NO_COINS);
    }

    private static void row(int promise, String name, On on, Supplier<ParkOffice> taking,
            Supplier<ParkOffice> refusing, Arg... args) {
        ROWS.add(new Row(promise, name, on, taking, refusing, args));
    }

    private static void setUpCalls() {
        row(2, "places", (x, a) -> x.places(a[0], a[1]), Check::hourlyShut, Check::hourly,
                zone(), range("places", 5, 1, 40));
        row(3, "product", (x, a) -> x.product(a[0], a[1], a[2], a[3]), Check::hourlyShut, Check::hourly,
                range("product", 9, 0, 23), new Arg("price", 100, PRICES, NO_PRICES),
                range("length", 60, 15, 4320), zone());
        row(4, "hours", (x, a) -> x.hours(a[0], a[1], a[2]), Calls::allProducts, ParkOffice::new,
                range("product", 9, 0, 23), range("hour", 10, 0, 168), range("hour", 20, 0, 168));
        row(4, "hours", (x, a) -> x.hours(a[0], a[1], a[2]), Calls::allProducts, Calls::allProductsOpen,
                range("product", 9, 0, 23), range("hour", 10, 0, 168), range("hour", 20, 0, 168));
        row(5, "free", (x, a) -> x.free(a[0], a[1]), Check::hourlyShut, Check::hourly,
                zone(), range("free minutes", 20, 0, 120));
    }

    private static void ticketCalls() {
        row(7, "enter", (x, a) -> x.enter(a[0], a[1], a[2]), Check::hourly, Check::hourlyShut,
                range("lane", 2, 0, 7), plate(), minute());
        row(8, "fee", (x, a) -> x.fee(a[0], a[1]), Calls::twoInside, Calls::twoGone, ticket(), minute());
        row(9, "leave", (x, a) -> x.leave(a[0], a[1]), Calls::twoInside, Calls::twoGone, ticket(), minute());
        row(9, "leave", (x, a) -> x.leave(a[0], a[1]), Calls::threeInside, Calls::allPaying,
                range("ticket", 2, 1, 3), minute());
        row(10, "lost", (x, a) -> x.lost(a[0], a[1], a[2]), Check::hourly, Check::hourlyShut,
                range("plate or 0", 7, 0, 1_000_000), zone(), minute());
    }

    private static void contractCalls() {
        row(11, "contract", (x, a) -> x.contract(a[0], a[1], a[2]), Check::hourly, Calls::insideUnderSix,
                range("contract", 6, 0, 19), zone(), range("k", 3, 1, 9));
        row(12, "plate", (x, a) -> x.plate(a[0], a[1]), Calls::allContracts, Check::hourly,
                range("contract", 6, 0, 19), plate());
        row(13, "dropPlate", (x, a) -> x.dropPlate(a[0]), Calls::allContracts, null, plate());
        row(14, "reserve", (x, a) -> x.reserve(a[0], a[1], a[2], a[3]), Check::hourly, Check::hourlyShut,
                range("reservation", 4, 0, 29), zone(), range("minute", 100, 0, 199_999),
                range("minute", 200_000, 101, 200_000));
        row(15, "cancelReserve", (x, a) -> x.cancelReserve(a[0]), Check::hourly, null,
                range("reservation", 4, 0, 29));
    }

    private static void machineCalls() {
        row(16, "payBegin", (x, a) -> x.payBegin(a[0], a[1], a[2]), Calls::twoInside, Calls::twoGone,
                ticket(), machine(), minute());
        row(17, "coin", (x, a) -> x.coin(a[0], a[1]), Calls::allPaying, Check::hourly, machine(), coinValue());
        row(18, "payEnd", (x, a) -> x.payEnd(a[0]), Calls::allPaying, Check::hourly, machine());
        row(19, "payBack", (x, a) -> x.payBack(a[0]), Calls::allPaying, Check::hourly, machine());
        row(20, "changeCoins", (x, a) -> x.changeCoins(a[0], a[1]), Check::hourly, null, machine(), coinValue());
        row(21, "fill", (x, a) -> x.fill(a[0], a[1], a[2]), Check::hourly, Calls::allPaying,
                machine(), coinValue(), new Arg("n", 3, new int[] {0, 500}, new int[0]));
        row(22, "box", (x, a) -> x.box(a[0], a[1]), Check::hourly, null, machine(), coinValue());
    }

    private static void askingCalls() {
        row(23, "occupied", (x, a) -> x.occupied(a[0]), Check::hourly, null, zone());
        row(24, "inside", (x, a) -> x.inside(a[0]), Check::hourly, null, plate());
        row(25, "least", (x, a) -> x.least(a[0], a[1], a[2]), Check::hourly, Check::hourlyShut,
                zone(), range("minute", 1000, 0, 2000), range("minute", 2000, 1000, 5320));
        row(25, "least", (x, a) -> x.least(a[0], a[1], a[2]), Check::hourly, Check::hourlyShut,
                zone(), range("minute", 199_000, 195_680, 200_000), range("minute", 200_000, 199_000, 200_000));
        row(26, "best", (x, a) -> x.best(a[0], a[1], a[2], a[3]), Check::hourly, Check::hourlyShut,
                zone(), range("minute", 1000, 0, 2000), range("minute", 2000, 1000, 5320),
                new Arg("i", 0, ALL, new int[0]));
        row(26, "best", (x, a) -> x.best(a[0], a[1], a[2], a[3]), Check::hourly, Check::hourlyShut,
                zone(), range("minute", 199_000, 195_680, 200_000), range("minute", 200_000, 199_000, 200_000),
                new Arg("i", 0, ALL, new int[0]));
        row(27, "journal", (x, a) -> x.journal(a[0], a[1]), Check::hourly, null,
                new Arg("i", 0, ALL, new int[0]), range("what", 1, 0, 2));
        row(28, "takings", (x, a) -> x.takings(a[0], a[1]), Check::hourly, null,
                range("minute", 100, 0, 200), range("minute", 200, 100, 200_000));
    }

    // ---- offices that take or refuse them ----

    private static ParkOffice allProducts() {
        ParkOffice x = Check.hourlyShut();
        for (int id = 4; id < 24; id++) {
            x.product(id, 100, 60, 0);
        }
        return x;
    }

    private static ParkOffice allProductsOpen() {
        ParkOffice x = allProducts();
        x.open();
        return x;
    }

    private static ParkOffice twoInside() {
        ParkOffice x = Check.hourly();
        x.enter(0, 1, 0);
        x.enter(1, 2, 0);
        return x;
    }

    private static ParkOffice twoGone() {
        ParkOffice x = twoInside();
        x.leave(1, 0);
        x.leave(2, 0);
        return x;
    }

    private static ParkOffice threeInside() {
        ParkOffice x = twoInside();
        x.enter(2, 3, 0);
        return x;
    }

    private static ParkOffice allPaying() {
        ParkOffice x = threeInside();
        for (int machine = 0; machine < 3; machine++) {
            x.payBegin(machine + 1, machine, 0);
        }
        return x;
    }

    private static ParkOffice allContracts() {
        ParkOffice x = Check.hourly();
        for (int id = 0; id < 20; id++) {
            x.contract(id, 0, 1);
        }
        return x;
    }

    private static ParkOffice insideUnderSix() {
        ParkOffice x = allContracts();
        x.plate(6, 1);
        x.enter(0, 1, 0);
        return x;
    }

    // ---- what is tested of them ----

    /** At its bounds each argument is taken; beyond them the call throws IllegalArgument, refused or not. */
    static void argumentsOf(int promise) {
        for (Row row : ROWS) {
            for (int index = 0; index < row.args.length && row.promise == promise; index++) {
                edgesOf(row, index);
            }
        }
    }

    /** The same for each argument of a kind, in all calls. */
    static void argumentsOf(String kind) {
        for (Row row : ROWS) {
            for (int index = 0; index < row.args.length; index++) {
                if (row.args[index].kind.equals(kind)) {
                    edgesOf(row, index);
                }
            }
        }
    }

    private static void edgesOf(Row row, int index) {
        for (int right : row.args[index].right) {
            int[] a = row.with(index, right);
            ParkOffice x = row.taking.get();
            Check.fine(row.told(a), () -> row.on.call(x, a));
        }
        for (int wrong : row.args[index].wrong) {
            int[] a = row.with(index, wrong);
            ParkOffice x = row.taking.get();
            Check.argument(row.told(a), () -> row.on.call(x, a));
        }
    }

    /** Where a call is refused by the state too, a wrong argument wins. */
    static void argumentWins() {
        for (Row row : ROWS) {
            if (row.refusing != null) {
                argumentWins(row);
            }
        }
    }

    private static void argumentWins(Row row) {
        ParkOffice x = row.refusing.get();
        Check.state(row.told(row.good()) + " is refused", () -> row.on.call(x, row.good()));
        for (int index = 0; index < row.args.length; index++) {
            for (int wrong : row.args[index].wrong) {
                int[] a = row.with(index, wrong);
                ParkOffice y = row.refusing.get();
                Check.argument(row.told(a), () -> row.on.call(y, a));
            }
        }
    }
}
