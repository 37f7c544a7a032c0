/** Boundary cases of promises 11 to 15, by the document's sentences. */
final class ContractEdges {
    private static final String ARGUMENT = "IllegalArgument.";

    private ContractEdges() {
    }

    static void run() {
        contracts();
        reservations();
    }

    private static void contracts() {
        Edge.promise(11, "A contract's zone and k (anew", ContractEdges::contractAnew);
        Edge.promise(11, "its plates stay).", ContractEdges::platesStay);
        Edge.promise(11, ARGUMENT, () -> Calls.argumentsOf(11));
        Edge.promise(11, "IllegalState: some plate is inside under it", ContractEdges::insideUnder);
        Edge.promise(11, "also one that was dropped meanwhile.", ContractEdges::droppedInside);
        Edge.promise(12, "A plate belongs to a contract from now on", ContractEdges::fromNowOn);
        Edge.promise(12, "(nothing happens if it does already).", ContractEdges::belongsAlready);
        Edge.promise(12, ARGUMENT, () -> Calls.argumentsOf(12));
        Edge.promise(12, "IllegalState: there is no such contract told", ContractEdges::noSuchContract);
        Edge.promise(12, "it has 12 plates", ContractEdges::twelvePlates);
        Edge.promise(12, "or the plate belongs to another one.", ContractEdges::belongsToAnother);
        Edge.promise(13, "A plate belongs to no contract any more", ContractEdges::dropped);
        Edge.promise(13, "whether it did.", ContractEdges::whetherItDid);
        Edge.promise(13, ARGUMENT, () -> Calls.argumentsOf(13));
    }

    private static void reservations() {
        Edge.promise(14, "A reservation: whether it is made", ContractEdges::reserve);
        Edge.promise(14, "(not if at some minute there would be more running than the zone has PLACES).",
                ContractEdges::moreThanPlaces);
        Edge.promise(14, "IllegalArgument: also if from is before the latest minute.", ContractEdges::reserveEarly);
        Edge.promise(14, "IllegalState: it is not open", ContractEdges::reserveNotOpen);
        Edge.promise(14, "or there is such a reservation.", ContractEdges::reservedAlready);
        Edge.promise(15, "A reservation is gone", ContractEdges::cancelled);
        Edge.promise(15, "whether there was one.", ContractEdges::whetherThereWasOne);
        Edge.promise(15, ARGUMENT, () -> Calls.argumentsOf(15));
    }

    /** What a plate owes that enters a zone at a minute, an hour later; 0 if it came under a contract. */
    private static int owes(ParkOffice x, int zone, int plate, int minute) {
        return x.fee(x.enter(zone, plate, minute), minute + 60);
    }

    // ---- promises 11 to 13 ----

    private static void contractAnew() {
        ParkOffice x = Check.hourly();
        x.contract(0, 0, 1);
        x.contract(0, 3, 9);
        for (int plate = 1; plate <= 10; plate++) {
            x.plate(0, plate);
        }
        Check.is("its old zone counts no more", 100, owes(x, 0, 10, 0));
        for (int plate = 1; plate <= 9; plate++) {
            Check.is("its new zone, plate " + plate, 0, owes(x, 3, plate, 60 * plate));
        }
        ParkOffice y = Check.hourlyShut();
        y.contract(19, 0, 9);
        y.contract(19, 0, 1);
        y.plate(19, 1);
        y.plate(19, 2);
        y.open();
        Check.is("told before the opening", 0, owes(y, 0, 1, 0));
        Check.is("its new k", 100, owes(y, 0, 2, 60));
    }

    private static void platesStay() {
        ParkOffice x = Check.hourly();
        x.contract(0, 0, 1);
        x.contract(1, 0, 1);
        for (int plate = 1; plate <= 12; plate++) {
            x.plate(0, plate);
        }
        x.contract(0, 1, 9);
        Check.state("it has 12 still", () -> x.plate(0, 13));
        Check.state("they are not free for another one", () -> x.plate(1, 12));
        Check.is("it lets them in", 0, owes(x, 1, 12, 0));
        Check.yes("they can be dropped", x.dropPlate(1));
    }

    private static void insideUnder() {
        ParkOffice x = Check.hourly();
        x.contract(0, 0, 1);
        x.plate(0, 1);
        x.plate(0, 2);
        Check.fine("none is", () -> x.contract(0, 0, 1));
        x.enter(1, 2, 0);
        Check.fine("one is inside, but not under it", () -> x.contract(0, 0, 1));
        x.enter(0, 1, 0);
        Check.state("one is", () -> x.contract(0, 1, 2));
        Check.state("also with what it has", () -> x.contract(0, 0, 1));
        Check.fine("another contract", () -> x.contract(1, 0, 1));
        x.lost(1, 0, 0);
        Check.state("with a new ticket", () -> x.contract(0, 1, 2));
        x.leave(3, 0);
        Check.fine("none is any more", () -> x.contract(0, 1, 2));
    }

    private static void droppedInside() {
        ParkOffice x = Check.hourly();
        x.contract(0, 0, 1);
        x.contract(1, 0, 1);
        x.plate(0, 1);
        x.enter(0, 1, 0);
        x.dropPlate(1);
        Check.state("dropped", () -> x.contract(0, 0, 1));
        x.plate(1, 1);
        Check.state("dropped, and another one's now", () -> x.contract(0, 0, 1));
        Check.fine("it is not inside under that", () -> x.contract(1, 0, 1));
        x.leave(1, 0);
        Check.fine("it left", () -> x.contract(0, 0, 1));
    }

    private static void fromNowOn() {
        ParkOffice x = Check.hourly();
        x.contract(0, 0, 9);
        x.enter(0, 1, 0);
        x.plate(0, 1);
        Check.is("not for the stay that began before", 100, x.fee(1, 60));
        TicketTest.pay(x, 1, 60);
        x.leave(1, 60);
        Check.is("for the next one", 0, owes(x, 0, 1, 60));
        x.plate(0, 1_000_000);
        Check.is("the greatest plate", 0, owes(x, 0, 1_000_000, 120));
    }

    private static void belongsAlready() {
        ParkOffice x = Check.hourly();
        x.contract(0, 0, 9);
        for (int plate = 1; plate <= 11; plate++) {
            x.plate(0, plate);
        }
        Check.fine("again", () -> x.plate(0, 11));
        Check.fine("and again", () -> x.plate(0, 1));
        Check.fine("so there is room for a twelfth", () -> x.plate(0, 12));
        Check.fine("again, with twelve", () -> x.plate(0, 12));
        Check.yes("it belongs once", x.dropPlate(11));
        Check.no("not twice", x.dropPlate(11));
    }

    private static void noSuchContract() {
        ParkOffice x = Check.hourly();
        x.contract(1, 0, 1);
        Check.state("contract 0", () -> x.plate(0, 1));
        Check.state("contract 19", () -> x.plate(19, 1));
        Check.no("it belongs to none", x.dropPlate(1));
        Check.fine("contract 1", () -> x.plate(1, 1));
        Check.state("for a plate of another one", () -> x.plate(0, 1));
    }

    private static void twelvePlates() {
        ParkOffice x = Check.hourly();
        x.contract(0, 0, 9);
        x.contract(1, 0, 9);
        for (int plate = 1; plate <= 12; plate++) {
            int told = plate;
            Check.fine("plate " + plate, () -> x.plate(0, told));
        }
        Check.state("a 13th", () -> x.plate(0, 13));
        Check.no("it belongs to none", x.dropPlate(13));
        Check.fine("another contract has room", () -> x.plate(1, 13));
        x.dropPlate(5);
        Check.fine("one was dropped", () -> x.plate(0, 14));
        Check.state("12 again", () -> x.plate(0, 5));
    }

    private static void belongsToAnother() {
        ParkOffice x = Check.hourly();
        x.contract(0, 0, 1);
        x.contract(1, 1, 1);
        x.plate(0, 1);
        Check.state("it does", () -> x.plate(1, 1));
        Check.is("it is the first one's still", 0, owes(x, 0, 1, 0));
        x.dropPlate(1);
        Check.fine("it does no more, though it is inside under it", () -> x.plate(1, 1));
    }

    private static void dropped() {
        ParkOffice x = Check.hourly();
        x.contract(0, 0, 2);
        x.plate(0, 1);
        x.plate(0, 2);
        x.enter(0, 1, 0);
        x.dropPlate(1);
        x.dropPlate(2);
        Check.is("its stay is under it still", 0, x.fee(1, 100));
        Check.is("not the next one's", 100, owes(x, 0, 2, 100));
        x.leave(1, 160);
        Check.is("nor its own next one", 100, owes(x, 0, 1, 160));
        x.contract(1, 1, 1);
        Check.fine("another one may have it", () -> x.plate(1, 1));
    }

    private static void whetherItDid() {
        ParkOffice x = new ParkOffice();
        Check.no("no contract at all", x.dropPlate(1));
        x.contract(0, 0, 1);
        x.plate(0, 1);
        x.plate(0, 2);
        x.plate(0, 3);
        Check.no("another plate", x.dropPlate(4));
        Check.yes("the first", x.dropPlate(1));
        Check.yes("the last", x.dropPlate(3));
        Check.yes("the one between", x.dropPlate(2));
        Check.no("again", x.dropPlate(1));
        Check.no("again", x.dropPlate(2));
        Check.no("again", x.dropPlate(3));
    }

    // ---- promises 14 and 15 ----

    private static ParkOffice withPlaces(int many) {
        ParkOffice x = Check.hourlyShut();
        x.places(0, many);
        x.open();
        return x;
    }

    private static void reserve() {
        ParkOffice x = withPlaces(1);
        Check.yes("the shortest", x.reserve(0, 0, 0, 1));
        Check.yes("the last minute", x.reserve(29, 0, 199_999, 200_000));
        Check.no("not made", x.reserve(1, 0, 0, 200_000));
        Check.yes("so its number is free", x.reserve(1, 0, 1, 199_999));
        Check.yes("in another zone", x.reserve(2, 1, 0, 200_000));
        ParkOffice y = withPlaces(1);
        y.enter(0, 1, 0);
        Check.yes("plates inside do not matter", y.reserve(0, 0, 0, 10));
    }

    private static void moreThanPlaces() {
        ParkOffice x = withPlaces(2);
        Check.yes("one", x.reserve(0, 0, 10, 20));
        Check.yes("as many as PLACES", x.reserve(1, 0, 10, 20));
        Check.no("more", x.reserve(2, 0, 10, 20));
        Check.no("more, at its last minute", x.reserve(2, 0, 0, 11));
        Check.no("more, at its first minute", x.reserve(2, 0, 19, 30));
        Check.no("more, in its midst", x.reserve(2, 0, 0, 30));
        Check.yes("up to there", x.reserve(2, 0, 0, 10));
        Check.yes("from there on", x.reserve(3, 0, 20, 30));
        Check.yes("never more than two at once", x.reserve(4, 0, 20, 200_000));
        Check.no("two at 29", x.reserve(5, 0, 29, 31));
        Check.yes("one from 30 on", x.reserve(5, 0, 30, 31));
        ParkOffice y = withPlaces(2);
        y.reserve(0, 0, 0, 10);
        y.reserve(1, 0, 10, 20);
        Check.yes("one ends where the next begins", y.reserve(2, 0, 5, 15));
        Check.no("now there are two from 5 to 15", y.reserve(3, 0, 14, 16));
        Check.yes("from 15 on one", y.reserve(3, 0, 15, 16));
        Check.yes("another zone's do not count", y.reserve(4, 1, 0, 20));
        for (int id : new int[] {0, 29}) {
            ParkOffice one = withPlaces(1);
            one.reserve(id, 0, 10, 11);
            Check.no("only in its midst, by number " + id, one.reserve(15, 0, 0, 30));
        }
        ParkOffice z = withPlaces(40);
        for (int id = 0; id < 30; id++) {
            Check.yes("all thirty at once", z.reserve(id, 0, 0, 200_000));
        }
    }

    private static void reserveEarly() {
        Calls.argumentsOf(14);
        ParkOffice x = Check.hourly();
        x.enter(0, 1, 100);
        Check.argument("a minute before it", () -> x.reserve(0, 0, 99, 200));
        Check.yes("at it", x.reserve(0, 0, 100, 200));
        Check.yes("behind it", x.reserve(1, 0, 101, 200));
        Check.argument("to is from", () -> x.reserve(2, 0, 150, 150));
        Check.argument("to before from", () -> x.reserve(2, 0, 150, 149));
        Check.no("none was made", x.cancelReserve(2));
    }

    private static void reserveNotOpen() {
        ParkOffice x = Check.hourlyShut();
        Check.state("it is not", () -> x.reserve(0, 0, 0, 1));
        x.open();
        Check.yes("it is", x.reserve(0, 0, 0, 1));
    }

    private static void reservedAlready() {
        ParkOffice x = withPlaces(1);
        x.reserve(0, 0, 10, 20);
        Check.state("the same", () -> x.reserve(0, 0, 10, 20));
        Check.state("other minutes", () -> x.reserve(0, 0, 50, 60));
        Check.state("another zone", () -> x.reserve(0, 1, 10, 20));
        x.enter(1, 1, 100);
        Check.state("over, but not gone", () -> x.reserve(0, 0, 100, 110));
        x.cancelReserve(0);
        Check.yes("gone", x.reserve(0, 0, 100, 110));
    }

    private static void cancelled() {
        ParkOffice x = withPlaces(1);
        x.reserve(0, 0, 0, 100);
        Check.is("it takes the place", 0, x.enter(0, 1, 0));
        x.cancelReserve(0);
        Check.is("it takes none", 1, x.enter(0, 1, 0));
        Check.yes("its minutes are free", x.reserve(1, 0, 0, 100));
        x.cancelReserve(1);
        Check.yes("and its number", x.reserve(1, 0, 0, 100));
    }

    private static void whetherThereWasOne() {
        ParkOffice x = withPlaces(1);
        Check.no("none", x.cancelReserve(0));
        x.reserve(29, 0, 10, 20);
        x.reserve(28, 0, 10, 20);
        Check.no("one that was not made", x.cancelReserve(28));
        Check.yes("one", x.cancelReserve(29));
        Check.no("again", x.cancelReserve(29));
        x.reserve(0, 0, 10, 20);
        x.enter(1, 1, 50);
        Check.yes("one that is over", x.cancelReserve(0));
        Check.no("before the opening", new ParkOffice().cancelReserve(0));
    }
}
