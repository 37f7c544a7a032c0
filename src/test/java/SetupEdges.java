/** Boundary cases of promises 1 to 6, by the document's sentences. */
final class SetupEdges {
    private static final String ARGUMENT = "IllegalArgument.";
    private static final String OPEN = "IllegalState: it is open.";

    private SetupEdges() {
    }

    static void run() {
        newObject();
        Edge.promise(2, "A zone's PLACES.", SetupEdges::places);
        Edge.promise(2, ARGUMENT, () -> Calls.argumentsOf(2));
        Edge.promise(2, OPEN, SetupEdges::placesOpen);
        Edge.promise(3, "A product's price, LENGTH, zone.", SetupEdges::product);
        Edge.promise(3, "Its HOURS are 0 .. 168 then", SetupEdges::productHours);
        Edge.promise(3, "what it was before is gone.", SetupEdges::productAnew);
        Edge.promise(3, ARGUMENT, () -> Calls.argumentsOf(3));
        Edge.promise(3, OPEN, SetupEdges::productOpen);
        Edge.promise(4, "A product's HOURS.", SetupEdges::hours);
        Edge.promise(4, ARGUMENT, () -> Calls.argumentsOf(4));
        Edge.promise(4, "IllegalState: it is open", SetupEdges::hoursOpen);
        Edge.promise(4, "or there is no such product.", SetupEdges::hoursOfNone);
        Edge.promise(5, "A zone's FREE product", SetupEdges::free);
        Edge.promise(5, "0 for none.", SetupEdges::freeNone);
        Edge.promise(5, ARGUMENT, () -> Calls.argumentsOf(5));
        Edge.promise(5, OPEN, SetupEdges::freeOpen);
        opening();
    }

    private static void newObject() {
        Edge.promise(1, "Not open", SetupEdges::notOpen);
        Edge.promise(1, "no products", SetupEdges::noProducts);
        Edge.promise(1, "tickets", SetupEdges::noTickets);
        Edge.promise(1, "contracts", SetupEdges::noContracts);
        Edge.promise(1, "reservations", SetupEdges::noReservations);
        Edge.promise(1, "20 PLACES in each zone", SetupEdges::twentyPlaces);
        Edge.promise(1, "empty BOXES", SetupEdges::emptyBoxes);
        Edge.promise(1, "minute 0.", SetupEdges::minuteZero);
    }

    private static void opening() {
        Edge.promise(6, "The office is open: NONE", SetupEdges::opens);
        Edge.promise(6, "or it is not", SetupEdges::opensNot);
        Edge.promise(6, "168 times the zone plus the hour, of the first hour of the first zone in which no product "
                + "of it may begin", SetupEdges::firstHour);
        Edge.promise(6, "(the FREE one does not count)", SetupEdges::freeDoesNotCount);
        Edge.promise(6, OPEN, SetupEdges::opensOnce);
    }

    // ---- promise 1 ----

    private static void notOpen() {
        ParkOffice x = new ParkOffice();
        Check.state("enter", () -> x.enter(0, 1, 0));
        Check.state("lost", () -> x.lost(0, 0, 0));
        Check.state("reserve", () -> x.reserve(0, 0, 0, 1));
        Check.state("least", () -> x.least(0, 0, 0));
        Check.state("best", () -> x.best(0, 0, 0, 0));
        Check.fine("places", () -> x.places(0, 1));
        Check.fine("open", () -> x.open());
    }

    private static void noProducts() {
        ParkOffice x = new ParkOffice();
        for (int id = 0; id < 24; id++) {
            int told = id;
            Check.state("product " + id, () -> x.hours(told, 0, 168));
        }
        Check.is("no zone has one: its first hour", 0, x.open());
    }

    private static void noTickets() {
        ParkOffice x = Check.hourly();
        for (int ticket = 0; ticket < 3; ticket++) {
            int unknown = ticket;
            Check.argument("fee of " + ticket, () -> x.fee(unknown, 0));
            Check.argument("leave with " + ticket, () -> x.leave(unknown, 0));
            Check.argument("payBegin of " + ticket, () -> x.payBegin(unknown, 0, 0));
        }
        for (int zone = 0; zone < 4; zone++) {
            Check.is("nobody is inside zone " + zone, 0, x.occupied(zone));
        }
        Check.is("plate 1 is not inside", 0, x.inside(1));
        Check.is("nothing was paid", -1, x.journal(0, 0));
        Check.is("nothing was taken", 0, x.takings(0, 200_000));
        Check.is("the first one", 1, x.enter(0, 1, 0));
    }

    private static void noContracts() {
        ParkOffice x = new ParkOffice();
        for (int id = 0; id < 20; id++) {
            int contract = id;
            Check.state("contract " + id, () -> x.plate(contract, 1));
        }
        Check.no("plate 1 belongs to none", x.dropPlate(1));
        Check.no("plate 1,000,000 belongs to none", x.dropPlate(1_000_000));
    }

    private static void noReservations() {
        ParkOffice x = new ParkOffice();
        for (int id = 0; id < 30; id++) {
            Check.no("reservation " + id, x.cancelReserve(id));
        }
    }

    /** How many of 41 plates find a place in a zone at minute 0. */
    private static int entering(ParkOffice x, int zone) {
        int many = 0;
        for (int i = 0; i < 41; i++) {
            many += x.enter(zone, 1000 * (zone + 1) + i, 0) != 0 ? 1 : 0;
        }
        return many;
    }

    private static void twentyPlaces() {
        ParkOffice x = Check.hourly();
        for (int zone = 0; zone < 4; zone++) {
            Check.is("zone " + zone, 20, entering(x, zone));
        }
    }

    private static void emptyBoxes() {
        ParkOffice x = new ParkOffice();
        for (int machine = 0; machine < 3; machine++) {
            for (int value : new int[] {5, 10, 20, 50, 100, 200}) {
                int at = machine;
                Check.is("machine " + machine + ", coin " + value, 0, x.box(machine, value));
                Check.state("none can be taken out", () -> x.fill(at, value, -1));
            }
        }
    }

    private static void minuteZero() {
        ParkOffice x = Check.hourly();
        Check.argument("minute -1 is too early", () -> x.enter(0, 1, -1));
        Check.is("minute 0 is not", 1, x.enter(0, 1, 0));
    }

    // ---- promises 2 to 5 ----

    private static void places() {
        ParkOffice x = Check.hourlyShut();
        x.places(0, 1);
        x.places(1, 40);
        x.places(3, 5);
        x.places(3, 2);
        x.open();
        Check.is("the least", 1, entering(x, 0));
        Check.is("the most", 40, entering(x, 1));
        Check.is("not told", 20, entering(x, 2));
        Check.is("told anew", 2, entering(x, 3));
    }

    private static void placesOpen() {
        ParkOffice x = Check.hourly();
        for (int zone = 0; zone < 4; zone++) {
            int told = zone;
            Check.state("zone " + zone, () -> x.places(told, 1));
        }
        Check.is("still 20", 20, entering(x, 0));
        ParkOffice y = new ParkOffice();
        y.open();
        Check.fine("an opening that failed is none", () -> y.places(0, 1));
    }

    private static void product() {
        ParkOffice x = Check.hourlyShut();
        x.product(0, 0, 15, 0);
        x.product(1, 20_000, 4320, 1);
        x.product(23, 5, 4320, 2);
        x.open();
        Check.is("price 0", 0, x.least(0, 0, 15));
        Check.is("15 minutes, and the next", 0, x.best(0, 0, 16, 1));
        Check.is("15 minutes are enough for 15", -1, x.best(0, 0, 15, 1));
        Check.is("price 20,000", 20_000, x.least(1, 0, 4320));
        Check.is("4320 minutes", -1, x.best(1, 0, 4320, 1));
        Check.is("product 23, in its zone", 23, x.best(2, 0, 1, 0));
        Check.is("and in no other", 3, x.best(3, 0, 1, 0));
    }

    private static void productHours() {
        ParkOffice x = Check.hourlyShut();
        x.product(0, 100, 60, 0);
        Check.is("from hour 0 to hour 167", -1, x.open());
        Check.is("the first minute of the week", 0, x.best(0, 0, 1, 0));
        Check.is("the last minute of the week", 0, x.best(0, 10_079, 10_080, 0));
        ParkOffice y = Check.hourlyShut();
        y.hours(0, 3, 5);
        Check.is("fewer hours", 0, y.open());
        y.product(0, 100, 60, 0);
        Check.is("told anew: all hours again", -1, y.open());
    }

    private static void productAnew() {
        ParkOffice x = Check.hourlyShut();
        x.product(9, 5, 30, 0);
        x.product(9, 15, 45, 1);
        x.open();
        Check.is("no more in its old zone", 100, x.least(0, 0, 30));
        Check.is("its new price", 15, x.least(1, 0, 30));
        Check.is("its new length", -1, x.best(1, 0, 45, 1));
        ParkOffice y = Check.hourlyShut();
        y.product(2, 300, 60, 3);
        Check.is("zone 2 has none any more", 336, y.open());
    }

    private static void productOpen() {
        ParkOffice x = Check.hourly();
        Check.state("one that is there", () -> x.product(0, 5, 60, 0));
        Check.state("one that is not", () -> x.product(9, 5, 60, 0));
        Check.is("its price stays", 100, x.least(0, 0, 60));
    }

    /** Whether product 9, cheaper than the hourly one, with these hours, may begin in an hour. */
    static boolean begins(int from, int to, int hour) {
        ParkOffice x = Check.hourlyShut();
        x.product(9, 5, 60, 0);
        x.hours(9, from, to);
        x.open();
        return x.best(0, hour * 60, hour * 60 + 1, 0) == 9;
    }

    private static void hours() {
        Check.yes("0 .. 1: hour 0", begins(0, 1, 0));
        Check.no("0 .. 1: hour 1", begins(0, 1, 1));
        Check.no("167 .. 168: hour 166", begins(167, 168, 166));
        Check.yes("167 .. 168: hour 167", begins(167, 168, 167));
        ParkOffice x = Check.hourlyShut();
        x.hours(0, 5, 6);
        x.hours(0, 0, 168);
        Check.is("told anew", -1, x.open());
        Check.is("price and length stay", 200, x.least(0, 0, 61));
    }

    private static void hoursOpen() {
        ParkOffice x = Check.hourly();
        Check.state("a product that is there", () -> x.hours(0, 0, 1));
        Check.state("one that is not", () -> x.hours(9, 0, 1));
        Check.is("its hours stay", 0, x.best(0, 60, 61, 0));
    }

    private static void hoursOfNone() {
        ParkOffice x = Check.hourlyShut();
        Check.state("product 4", () -> x.hours(4, 0, 168));
        Check.state("product 23", () -> x.hours(23, 0, 168));
        Check.fine("product 3", () -> x.hours(3, 0, 168));
        x.product(23, 5, 60, 0);
        Check.fine("product 23, told now", () -> x.hours(23, 0, 1));
        x.open();
        Check.is("its hours", 5, x.least(0, 59, 119));
        Check.is("behind them there is no other", 100, x.least(0, 60, 120));
    }

    private static void free() {
        ParkOffice x = Check.hourlyShut();
        x.free(0, 120);
        x.free(1, 1);
        x.free(3, 50);
        x.free(3, 2);
        x.open();
        Check.is("120 minutes", 0, x.least(0, 0, 120));
        Check.is("121 minutes", 100, x.least(0, 0, 121));
        Check.is("1 minute", 0, x.least(1, 0, 1));
        Check.is("2 minutes", 200, x.least(1, 0, 2));
        Check.is("not told", 300, x.least(2, 0, 1));
        Check.is("told anew", 400, x.least(3, 0, 3));
        Check.is("told anew", 0, x.least(3, 0, 2));
    }

    private static void freeNone() {
        ParkOffice x = Check.hourlyShut();
        x.free(0, 60);
        x.free(0, 0);
        x.free(1, 0);
        x.open();
        Check.is("told, then none", 100, x.least(0, 0, 1));
        Check.is("none from the beginning on", 200, x.least(1, 0, 1));
        Check.is("a product comes first", 0, x.best(0, 0, 1, 0));
    }

    private static void freeOpen() {
        ParkOffice x = Check.hourly();
        Check.state("20 minutes", () -> x.free(0, 20));
        Check.state("none", () -> x.free(0, 0));
        Check.is("nothing is free", 100, x.least(0, 0, 1));
    }

    // ---- promise 6 ----

    private static void opens() {
        ParkOffice x = Check.hourlyShut();
        Check.is("NONE", ParkOffice.NONE, x.open());
        Check.is("a car may enter", 1, x.enter(0, 1, 0));
        ParkOffice y = Check.hourlyShut();
        for (int hour = 0; hour < 20; hour++) {
            y.product(4 + hour, 100, 60, 0);
            y.hours(4 + hour, hour, hour + 1);
        }
        y.hours(0, 20, 0);
        Check.is("each hour by another product", ParkOffice.NONE, y.open());
    }

    private static void opensNot() {
        ParkOffice x = Check.hourlyShut();
        x.hours(3, 0, 167);
        Check.is("the very last hour", 671, x.open());
        Check.state("no car may enter", () -> x.enter(0, 1, 0));
        Check.fine("products may be told still", () -> x.hours(3, 0, 168));
        Check.is("now it is open", ParkOffice.NONE, x.open());
    }

    private static int openWithHours(int product, int from, int to) {
        ParkOffice x = Check.hourlyShut();
        x.hours(product, from, to);
        return x.open();
    }

    private static void firstHour() {
        Check.is("zone 0, hour 0", 0, openWithHours(0, 1, 168));
        Check.is("zone 0, hour 1", 1, openWithHours(0, 0, 1));
        Check.is("zone 0, hour 167", 167, openWithHours(0, 0, 167));
        Check.is("zone 1, hour 0", 168, openWithHours(1, 1, 168));
        Check.is("zone 3, hour 167", 671, openWithHours(3, 0, 167));
        Check.is("round the week: the first hour between", 336 + 2, openWithHours(2, 166, 2));
        Check.is("from 168 to 0: no hour at all", 336, openWithHours(2, 168, 0));
        Check.is("from 168 to 168: every hour", -1, openWithHours(2, 168, 168));
        Check.is("from 0 to 0: every hour", -1, openWithHours(2, 0, 0));
        ParkOffice x = Check.hourlyShut();
        x.hours(2, 0, 5);
        x.hours(1, 0, 100);
        Check.is("the first zone, not the first hour", 168 + 100, x.open());
        x.product(1, 100, 60, 0);
        Check.is("a product of zone 0 helps zone 1 not", 168, x.open());
    }

    private static void freeDoesNotCount() {
        ParkOffice x = new ParkOffice();
        for (int zone = 0; zone < 4; zone++) {
            x.free(zone, 120);
        }
        Check.is("zone 0", 0, x.open());
    }

    private static void opensOnce() {
        ParkOffice x = Check.hourly();
        Check.state("again", () -> x.open());
        Check.is("it stays open", 1, x.enter(0, 1, 0));
        Check.state("and again", () -> x.open());
    }
}
