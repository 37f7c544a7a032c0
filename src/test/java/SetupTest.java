/** Promises 1 to 6: what a new office is, and what is told before the opening. */
public final class SetupTest {
    public static void main(String[] args) {
        newObject();
        places();
        product();
        productAnew();
        hours();
        hoursRoundTheWeek();
        free();
        open();
        openTellsTheFirstHour();
        Check.finish();
    }

    private static void newObject() {
        ParkOffice x = new ParkOffice();
        Check.state("1: not open: enter", () -> x.enter(0, 1, 0));
        Check.state("1: not open: lost", () -> x.lost(0, 0, 0));
        Check.state("1: not open: reserve", () -> x.reserve(0, 0, 0, 1));
        Check.state("1: not open: least", () -> x.least(0, 0, 1));
        Check.state("1: not open: best", () -> x.best(0, 0, 1, 0));
        Check.argument("1: no tickets: fee", () -> x.fee(1, 0));
        Check.argument("1: no tickets: leave", () -> x.leave(1, 0));
        Check.argument("1: no tickets: payBegin", () -> x.payBegin(1, 0, 0));
        for (int id = 0; id < 24; id++) {
            int at = id;
            Check.state("1: no product", () -> x.hours(at, 0, 168));
        }
        for (int id = 0; id < 20; id++) {
            int at = id;
            Check.state("1: no contract", () -> x.plate(at, 1));
        }
        for (int id = 0; id < 30; id++) {
            Check.no("1: no reservation", x.cancelReserve(id));
        }
        for (int machine = 0; machine < 3; machine++) {
            for (int value : new int[] {5, 10, 20, 50, 100, 200}) {
                Check.is("1: empty box", 0, x.box(machine, value));
                Check.is("1: nothing came out", 0, x.changeCoins(machine, value));
            }
        }
        for (int zone = 0; zone < 4; zone++) {
            Check.is("1: nobody inside", 0, x.occupied(zone));
        }
        Check.is("1: no ticket of a plate", 0, x.inside(1));
        Check.is("1: empty journal", -1, x.journal(0, 0));
        Check.is("1: no takings", 0, x.takings(0, 200_000));
        Check.is("1: no products at all", 0, x.open());
        ParkOffice y = Check.hourly();
        for (int zone = 0; zone < 4; zone++) {
            Check.is("1: 20 places", 20, entering(y, zone));
        }
    }

    /** How many plates find a place in a zone, at minute 0, of at most 41. */
    private static int entering(ParkOffice x, int zone) {
        int many = 0;
        for (int i = 0; i < 41; i++) {
            if (x.enter(zone, 1000 * (zone + 1) + i, 0) != 0) {
                many++;
            }
        }
        return many;
    }

    private static void places() {
        ParkOffice x = Check.hourlyShut();
        x.places(0, 1);
        x.places(1, 3);
        x.places(1, 40);
        x.places(3, 7);
        for (int wrong : new int[] {-1, 0, 41, Integer.MAX_VALUE, Integer.MIN_VALUE}) {
            Check.argument("2: so many places", () -> x.places(2, wrong));
        }
        Check.argument("2: zone -1", () -> x.places(-1, 5));
        Check.argument("2: zone 4", () -> x.places(4, 5));
        x.open();
        Check.state("2: open", () -> x.places(0, 5));
        Check.argument("2: open, but the argument wins", () -> x.places(0, 0));
        Check.is("2: one place", 1, entering(x, 0));
        Check.is("2: forty places", 40, entering(x, 1));
        Check.is("2: not told, nor changed by a throw", 20, entering(x, 2));
        Check.is("2: seven places", 7, entering(x, 3));
    }

    private static void product() {
        ParkOffice x = Check.hourlyShut();
        Check.argument("3: id -1", () -> x.product(-1, 5, 15, 0));
        Check.argument("3: id 24", () -> x.product(24, 5, 15, 0));
        for (int wrong : new int[] {-5, -1, 1, 4, 6, 19_999, 20_001, 20_005, Integer.MIN_VALUE}) {
            Check.argument("3: price", () -> x.product(0, wrong, 15, 0));
        }
        for (int wrong : new int[] {-1, 0, 14, 4321, Integer.MAX_VALUE}) {
            Check.argument("3: length", () -> x.product(0, 5, wrong, 0));
        }
        Check.argument("3: zone -1", () -> x.product(0, 5, 15, -1));
        Check.argument("3: zone 4", () -> x.product(0, 5, 15, 4));
        x.product(23, 0, 4320, 1);
        x.product(22, 20_000, 15, 2);
        x.product(2, 20_000, 15, 2);
        x.open();
        Check.is("3: a throw left product 0 alone", 200, x.least(0, 0, 61));
        Check.is("3: price 0, the longest", 0, x.least(1, 0, 4320));
        Check.is("3: product 23", 23, x.best(1, 0, 4320, 0));
        Check.is("3: the dearest, the shortest", 40_000, x.least(2, 0, 16));
        Check.is("3: the lesser number", 2, x.best(2, 0, 16, 1));
        Check.state("3: open", () -> x.product(5, 5, 15, 0));
        Check.argument("3: open, but the argument wins", () -> x.product(5, 7, 15, 0));
    }

    private static void productAnew() {
        ParkOffice x = Check.hourlyShut();
        x.product(9, 5, 30, 0);
        x.hours(9, 0, 1);
        x.product(9, 5, 30, 1);
        x.open();
        Check.is("3: it is in its new zone alone", 100, x.least(0, 0, 30));
        Check.is("3: there", 5, x.least(1, 0, 30));
        Check.is("3: its hours are all again", 5, x.least(1, 100 * 60, 100 * 60 + 30));
    }

    private static void hours() {
        ParkOffice x = Check.hourlyShut();
        Check.argument("4: id -1", () -> x.hours(-1, 0, 168));
        Check.argument("4: id 24", () -> x.hours(24, 0, 168));
        Check.argument("4: from -1", () -> x.hours(0, -1, 168));
        Check.argument("4: from 169", () -> x.hours(0, 169, 168));
        Check.argument("4: to -1", () -> x.hours(0, 0, -1));
        Check.argument("4: to 169", () -> x.hours(0, 0, 169));
        Check.argument("4: the argument wins", () -> x.hours(10, 0, 169));
        Check.state("4: no such product", () -> x.hours(10, 0, 168));
        x.product(10, 5, 60, 0);
        x.hours(10, 3, 5);
        x.open();
        Check.state("4: open", () -> x.hours(10, 0, 168));
        Check.is("4: the hour before", 0, x.best(0, 179, 180, 0));
        Check.is("4: its first minute", 10, x.best(0, 180, 181, 0));
        Check.is("4: its last minute", 10, x.best(0, 299, 300, 0));
        Check.is("4: the hour behind", 0, x.best(0, 300, 301, 0));
        Check.is("4: a week later", 10, x.best(0, 10_080 + 180, 10_080 + 181, 0));
    }

    private static void hoursRoundTheWeek() {
        Check.is("4: from 166 to 2: hour 0", 9, begins(166, 2, 0));
        Check.is("4: from 166 to 2: hour 1", 9, begins(166, 2, 1));
        Check.is("4: from 166 to 2: hour 2", 0, begins(166, 2, 2));
        Check.is("4: from 166 to 2: hour 165", 0, begins(166, 2, 165));
        Check.is("4: from 166 to 2: hour 166", 9, begins(166, 2, 166));
        Check.is("4: from 166 to 2: hour 167", 9, begins(166, 2, 167));
        Check.is("4: equal hours are all: below", 9, begins(7, 7, 6));
        Check.is("4: equal hours are all: at it", 9, begins(7, 7, 7));
        Check.is("4: from 168 to 168 is all", 9, begins(168, 168, 100));
        Check.is("4: from 0 to 0 is all", 9, begins(0, 0, 100));
        Check.is("4: from 168 to 0 is none: hour 0", 0, begins(168, 0, 0));
        Check.is("4: from 168 to 0 is none: hour 167", 0, begins(168, 0, 167));
        Check.is("4: from 160 to 0: hour 167", 9, begins(160, 0, 167));
        Check.is("4: from 160 to 0: hour 0", 0, begins(160, 0, 0));
        Check.is("4: from 168 to 3: hour 2", 9, begins(168, 3, 2));
        Check.is("4: from 168 to 3: hour 167", 0, begins(168, 3, 167));
    }

    /** Whether the cheaper product 9 with these hours begins in an hour (9), or the hourly one (0). */
    private static int begins(int from, int to, int hour) {
        ParkOffice x = Check.hourlyShut();
        x.product(9, 5, 60, 0);
        x.hours(9, from, to);
        x.open();
        return x.best(0, hour * 60, hour * 60 + 1, 0);
    }

    private static void free() {
        ParkOffice x = Check.hourlyShut();
        Check.argument("5: zone -1", () -> x.free(-1, 1));
        Check.argument("5: zone 4", () -> x.free(4, 1));
        Check.argument("5: -1 minutes", () -> x.free(0, -1));
        Check.argument("5: 121 minutes", () -> x.free(0, 121));
        x.free(0, 120);
        x.free(1, 1);
        x.free(2, 60);
        x.free(2, 0);
        x.open();
        Check.state("5: open", () -> x.free(0, 5));
        Check.argument("5: open, but the argument wins", () -> x.free(0, 121));
        Check.is("5: 120 minutes", 0, x.least(0, 7, 127));
        Check.is("5: and one more", 100, x.least(0, 7, 128));
        Check.is("5: it is product 24", ParkOffice.FREE, x.best(0, 7, 127, 0));
        Check.is("5: 1 minute", 0, x.least(1, 7, 8));
        Check.is("5: 2 minutes", 200, x.least(1, 7, 9));
        Check.is("5: 0 for none", 300, x.least(2, 7, 8));
        Check.is("5: not told", 400, x.least(3, 7, 8));
    }

    private static void open() {
        ParkOffice x = Check.hourlyShut();
        Check.is("6: open", ParkOffice.NONE, x.open());
        Check.state("6: it is open", () -> x.open());
        Check.is("6: still open", 1, x.enter(0, 1, 0));
    }

    private static void openTellsTheFirstHour() {
        ParkOffice x = new ParkOffice();
        x.free(0, 120);
        Check.is("6: a free product does not count", 0, x.open());
        x.product(0, 100, 60, 0);
        x.hours(0, 0, 167);
        Check.is("6: zone 0, hour 167", 167, x.open());
        x.product(7, 100, 60, 0);
        x.hours(7, 167, 168);
        Check.is("6: zone 1", 168, x.open());
        x.product(1, 100, 60, 1);
        x.hours(1, 20, 10);
        Check.is("6: zone 1, hour 10", 178, x.open());
        Check.state("6: it is not open", () -> x.enter(0, 1, 0));
        x.product(2, 100, 60, 1);
        x.hours(2, 10, 20);
        Check.is("6: zone 2", 336, x.open());
        x.product(3, 100, 60, 2);
        Check.is("6: zone 3", 504, x.open());
        x.product(4, 100, 60, 3);
        x.product(0, 100, 60, 3);
        Check.is("6: a product taken away from zone 0", 0, x.open());
        x.product(0, 100, 60, 0);
        Check.is("6: open at last", ParkOffice.NONE, x.open());
    }
}
