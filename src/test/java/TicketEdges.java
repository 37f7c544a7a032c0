/** Boundary cases of promises 7 to 10, 23 and 24, by the document's sentences. */
final class TicketEdges {
    private static final String ARGUMENT = "IllegalArgument.";

    private TicketEdges() {
    }

    static void run() {
        entering();
        Edge.promise(8, "A ticket's FEE.", TicketEdges::fee);
        Edge.promise(8, ARGUMENT, TicketEdges::feeArguments);
        Edge.promise(8, "IllegalState: it is not open", TicketEdges::feeNotOpen);
        Edge.promise(8, "or the ticket is not INSIDE.", TicketEdges::feeNotInside);
        leaving();
        losing();
        Edge.promise(23, "Plates inside a zone.", TicketEdges::occupied);
        Edge.promise(23, ARGUMENT, () -> Calls.argumentsOf(23));
        Edge.promise(24, "The ticket with which a plate is inside", TicketEdges::inside);
        Edge.promise(24, "0 if it is not.", TicketEdges::notInside);
        Edge.promise(24, ARGUMENT, () -> Calls.argumentsOf(24));
    }

    private static void entering() {
        Edge.promise(7, "A car enters: its ticket", TicketEdges::enter);
        Edge.promise(7, "0 if its plate is inside", TicketEdges::enterTwice);
        Edge.promise(7, "or the zone is full (at least as many plates inside as it has PLACES",
                TicketEdges::enterFull);
        Edge.promise(7, "less the reservations of it that are running then)", TicketEdges::enterReserved);
        Edge.promise(7, ARGUMENT, () -> Calls.argumentsOf(7));
        Edge.promise(7, "IllegalState: it is not open", TicketEdges::enterNotOpen);
        Edge.promise(7, "or there are 300 tickets.", TicketEdges::enterBeyond300);
    }

    private static void leaving() {
        Edge.promise(9, "A car leaves: whether it did (it does if the FEE is 0)", TicketEdges::leave);
        Edge.promise(9, "the ticket is GONE then, and its plate outside.", TicketEdges::gone);
        Edge.promise(9, "IllegalArgument, IllegalState, as with fee", TicketEdges::leaveRefused);
        Edge.promise(9, "also if it is being paid.", TicketEdges::leaveBeingPaid);
    }

    private static void losing() {
        Edge.promise(10, "A LOST ticket is made anew: its number.", TicketEdges::lost);
        Edge.promise(10, "If the plate (0 if it was not read) is inside, it has the zone, BEGINNING",
                TicketEdges::lostZoneAndBeginning);
        Edge.promise(10, "and PAYMENTS of the one it came in with", TicketEdges::lostPayments);
        Edge.promise(10, "(and is under the contract, if that was)", TicketEdges::lostContract);
        Edge.promise(10, "which is REPLACED", TicketEdges::lostReplaces);
        Edge.promise(10, "else the zone told, and no plate (a LOST one).", TicketEdges::lostWithoutPlate);
        Edge.promise(10, ARGUMENT, () -> Calls.argumentsOf(10));
        Edge.promise(10, "IllegalState: it is not open", TicketEdges::lostNotOpen);
        Edge.promise(10, "there are 300 tickets", TicketEdges::lostBeyond300);
        Edge.promise(10, "or that ticket is being paid.", TicketEdges::lostBeingPaid);
    }

    private static ParkOffice withPlaces(int many) {
        ParkOffice x = Check.hourlyShut();
        x.places(0, many);
        x.open();
        return x;
    }

    /** An office with the 300th ticket made, plates 1 (ticket 1) and 2 (ticket 300) inside zone 0. */
    static ParkOffice withAllTickets() {
        ParkOffice x = Check.hourly();
        x.enter(0, 1, 0);
        for (int number = 2; number < 300; number++) {
            x.lost(0, 1, 0);
        }
        Check.is("the last ticket", 300, x.enter(0, 2, 0));
        return x;
    }

    // ---- promise 7 ----

    private static void enter() {
        ParkOffice x = Check.hourly();
        Check.is("the first", 1, x.enter(0, 1, 0));
        Check.is("the second, at the same minute", 2, x.enter(7, 1_000_000, 0));
        x.leave(1, 0);
        Check.is("a number is not used again", 3, x.enter(0, 1, 0));
        Check.is("at the last minute", 4, x.enter(0, 4, 200_000));
    }

    private static void enterTwice() {
        ParkOffice x = Check.hourly();
        x.enter(0, 1, 0);
        Check.is("by the same lane", 0, x.enter(0, 1, 0));
        Check.is("into the same zone", 0, x.enter(4, 1, 0));
        Check.is("into another zone", 0, x.enter(1, 1, 0));
        Check.is("nothing came of that", 1, x.inside(1));
        Check.is("nothing came of that", 0, x.occupied(1));
        x.lost(1, 0, 0);
        Check.is("also with a new ticket", 0, x.enter(0, 1, 0));
        x.leave(2, 0);
        Check.is("not when it has left", 3, x.enter(1, 1, 0));
    }

    private static void enterFull() {
        ParkOffice x = withPlaces(1);
        Check.is("the only place", 1, x.enter(0, 1, 0));
        Check.is("no more", 0, x.enter(4, 2, 0));
        Check.is("another zone has some", 2, x.enter(1, 2, 0));
        x.leave(1, 0);
        Check.is("it is free again", 3, x.enter(0, 1, 0));
        ParkOffice y = withPlaces(40);
        for (int plate = 1; plate <= 40; plate++) {
            Check.is("place " + plate, plate, y.enter(0, plate, 0));
        }
        Check.is("a 41st", 0, y.enter(0, 41, 0));
        y.lost(40, 0, 0);
        Check.is("a ticket that is replaced leaves no place free", 0, y.enter(0, 41, 0));
        ParkOffice z = withPlaces(1);
        z.lost(0, 0, 0);
        Check.is("a LOST one takes no place", 2, z.enter(0, 1, 0));
    }

    private static ParkOffice withReservations() {
        ParkOffice x = withPlaces(2);
        x.reserve(0, 0, 10, 20);
        x.reserve(1, 0, 15, 20);
        x.reserve(2, 1, 10, 20);
        return x;
    }

    private static void enterReserved() {
        ParkOffice w = withReservations();
        Check.is("none is running at 9", 1, w.enter(0, 1, 9));
        Check.is("one is at 10, one plate is inside", 0, w.enter(0, 2, 10));
        ParkOffice x = withReservations();
        Check.is("one is at 10, no plate is inside", 1, x.enter(0, 1, 10));
        x.leave(1, 10);
        Check.is("as many as there are PLACES, no plate inside", 0, x.enter(0, 1, 15));
        Check.is("still at 19", 0, x.enter(0, 1, 19));
        Check.is("none at 20", 2, x.enter(0, 1, 20));
        Check.is("both places", 3, x.enter(0, 2, 20));
        Check.is("and no more", 0, x.enter(0, 3, 20));
        ParkOffice y = withPlaces(2);
        y.enter(0, 1, 0);
        y.enter(0, 2, 0);
        y.reserve(0, 0, 0, 5);
        y.reserve(1, 0, 0, 5);
        y.leave(1, 0);
        Check.is("more plates inside than are left", 0, y.enter(0, 1, 0));
        y.cancelReserve(0);
        Check.is("as many", 0, y.enter(0, 1, 0));
        y.cancelReserve(1);
        Check.is("fewer", 3, y.enter(0, 1, 0));
    }

    private static void enterNotOpen() {
        ParkOffice x = Check.hourlyShut();
        Check.state("all is told, but it is not open", () -> x.enter(0, 1, 0));
        x.open();
        Check.is("now it is", 1, x.enter(0, 1, 0));
    }

    private static void enterBeyond300() {
        ParkOffice x = withAllTickets();
        Check.state("another plate", () -> x.enter(0, 3, 0));
        Check.state("a plate that is inside", () -> x.enter(0, 1, 0));
        x.leave(300, 0);
        Check.state("one that is GONE is a ticket still", () -> x.enter(0, 3, 0));
        Check.is("nobody came in", 1, x.occupied(0));
    }

    // ---- promise 8 ----

    private static void fee() {
        ParkOffice x = Check.hourly();
        x.enter(0, 1, 10);
        x.enter(3, 2, 10);
        Check.is("no minutes", 0, x.fee(1, 10));
        Check.is("a minute", 100, x.fee(1, 11));
        Check.is("an hour", 100, x.fee(1, 70));
        Check.is("a minute more", 200, x.fee(1, 71));
        Check.is("another zone", 800, x.fee(2, 71));
        Check.is("up to the last minute", 100 * 3334, x.fee(1, 200_000));
    }

    private static void feeArguments() {
        Calls.argumentsOf(8);
        ParkOffice x = Check.hourly();
        x.enter(0, 1, 10);
        Check.argument("a minute before the latest", () -> x.fee(1, 9));
        Check.fine("the latest", () -> x.fee(1, 10));
    }

    private static void feeNotOpen() {
        // Without an opening there is no ticket: the unknown one comes first.
        ParkOffice x = Check.hourlyShut();
        Check.argument("ticket 1", () -> x.fee(1, 0));
    }

    private static void feeNotInside() {
        ParkOffice x = Check.hourly();
        x.enter(0, 1, 0);
        x.enter(0, 2, 0);
        x.leave(1, 0);
        x.lost(2, 0, 0);
        Check.state("GONE", () -> x.fee(1, 0));
        Check.state("REPLACED", () -> x.fee(2, 0));
        Check.fine("INSIDE", () -> x.fee(3, 0));
    }

    // ---- promise 9 ----

    private static void leave() {
        ParkOffice x = Check.hourlyShut();
        x.free(0, 20);
        x.product(9, 5, 15, 2);
        x.open();
        x.enter(0, 1, 0);
        x.enter(2, 2, 0);
        Check.no("5 is not 0", x.leave(2, 1));
        Check.is("so it is inside", 2, x.inside(2));
        Check.yes("the last free minute", x.leave(1, 20));
        x.enter(0, 1, 20);
        Check.no("a minute behind it", x.leave(3, 41));
        TicketTest.pay(x, 3, 41);
        Check.no("15 minutes are over for the other one", x.leave(2, 56));
        Check.yes("15 minutes behind paying", x.leave(3, 56));
    }

    private static void gone() {
        ParkOffice x = withPlaces(1);
        x.enter(0, 1, 0);
        x.leave(1, 0);
        Check.state("GONE: fee", () -> x.fee(1, 0));
        Check.state("GONE: leave", () -> x.leave(1, 0));
        Check.state("GONE: payBegin", () -> x.payBegin(1, 0, 0));
        Check.is("outside", 0, x.inside(1));
        Check.is("its place is free", 0, x.occupied(0));
        Check.is("for another one", 2, x.enter(0, 2, 0));
        x.leave(2, 0);
        Check.is("and for the plate itself", 3, x.enter(0, 1, 0));
        ParkOffice y = withPlaces(1);
        y.enter(0, 1, 0);
        Check.no("one that did not leave", y.leave(1, 1));
        Check.is("takes its place still", 0, y.enter(0, 2, 1));
    }

    private static void leaveRefused() {
        Calls.argumentsOf(9);
        ParkOffice x = Check.hourly();
        x.enter(0, 1, 10);
        x.enter(0, 2, 10);
        Check.argument("a minute before the latest", () -> x.leave(1, 9));
        x.leave(1, 10);
        x.lost(2, 0, 10);
        Check.state("GONE", () -> x.leave(1, 10));
        Check.state("REPLACED", () -> x.leave(2, 10));
        Check.yes("INSIDE", x.leave(3, 10));
    }

    private static void leaveBeingPaid() {
        ParkOffice x = Check.hourly();
        x.enter(0, 1, 0);
        x.enter(0, 2, 0);
        Check.is("nothing is due", 0, x.payBegin(1, 2, 0));
        Check.state("not even then", () -> x.leave(1, 0));
        Check.is("it is inside", 1, x.inside(1));
        Check.yes("another one may", x.leave(2, 0));
        x.payEnd(2);
        Check.yes("paying has ended", x.leave(1, 0));
        x.enter(0, 1, 0);
        x.payBegin(3, 2, 0);
        x.payBack(2);
        Check.yes("paying was stopped", x.leave(3, 0));
    }

    // ---- promise 10 ----

    private static void lost() {
        ParkOffice x = Check.hourly();
        Check.is("the first of all", 1, x.lost(0, 0, 0));
        x.enter(0, 1, 0);
        Check.is("with a plate", 3, x.lost(1, 0, 0));
        Check.is("for the same plate again", 4, x.lost(1, 0, 0));
        Check.is("with a plate that is outside", 5, x.lost(1_000_000, 0, 0));
        Check.is("at the last minute", 6, x.lost(0, 3, 200_000));
    }

    private static void lostZoneAndBeginning() {
        ParkOffice x = Check.hourly();
        x.enter(0, 1, 10);
        int made = x.lost(1, 3, 60);
        Check.is("its zone, not the one told", 1, x.occupied(0));
        Check.is("its zone, not the one told", 0, x.occupied(3));
        Check.is("from its beginning on: an hour", 100, x.fee(made, 70));
        Check.is("and a minute", 200, x.fee(made, 71));
        int again = x.lost(1, 2, 71);
        Check.is("twice lost, from its beginning on", 200, x.fee(again, 130));
        Check.is("and a minute", 300, x.fee(again, 131));
        Check.is("it is no LOST one of 4320 minutes", 7300, x.fee(again, 4331));
        int other = x.lost(0, 3, 4331);
        Check.is("0 is no plate: the zone told", 400 * 72, x.fee(other, 4331));
    }

    private static void lostPayments() {
        ParkOffice x = Check.hourly();
        x.enter(0, 1, 0);
        TicketTest.pay(x, 1, 50);
        int made = x.lost(1, 0, 60);
        Check.is("15 minutes behind the payment", 0, x.fee(made, 65));
        Check.is("16 minutes: less what was paid", 100, x.fee(made, 66));
        TicketTest.pay(x, made, 66);
        int again = x.lost(1, 0, 66);
        Check.is("those of both", 0, x.fee(again, 120));
        Check.is("and no more", 100, x.fee(again, 121));
    }

    private static void lostContract() {
        ParkOffice x = Check.hourly();
        x.contract(0, 0, 1);
        x.plate(0, 1);
        x.plate(0, 2);
        x.enter(0, 1, 0);
        int made = x.lost(1, 0, 10);
        Check.is("nothing to pay", 0, x.fee(made, 100));
        Check.is("it counts as inside under it", 100, x.fee(x.enter(0, 2, 100), 101));
        Check.state("it is inside under it", () -> x.contract(0, 0, 2));
        x.leave(made, 101);
        Check.fine("now none is", () -> x.contract(0, 0, 2));
        ParkOffice y = Check.hourly();
        y.enter(0, 1, 0);
        y.contract(0, 0, 1);
        y.plate(0, 1);
        Check.is("it came in without one", 100, y.fee(y.lost(1, 0, 1), 1));
        ParkOffice z = Check.hourly();
        z.contract(0, 0, 1);
        z.plate(0, 1);
        Check.is("it is not inside: no contract", 7200, z.fee(z.lost(1, 0, 0), 0));
    }

    private static void lostReplaces() {
        ParkOffice x = Check.hourly();
        x.enter(0, 1, 0);
        int made = x.lost(1, 0, 0);
        Check.state("fee", () -> x.fee(1, 0));
        Check.state("leave", () -> x.leave(1, 0));
        Check.state("payBegin", () -> x.payBegin(1, 0, 0));
        Check.is("inside with the new one", made, x.inside(1));
        int again = x.lost(1, 0, 0);
        Check.state("the new one, in its turn", () -> x.fee(made, 0));
        Check.is("inside with the newest one", again, x.inside(1));
        Check.is("one place", 1, x.occupied(0));
        Check.yes("it leaves with that", x.leave(again, 0));
        Check.is("and is outside", 0, x.inside(1));
    }

    private static void lostWithoutPlate() {
        ParkOffice x = Check.hourly();
        int unread = x.lost(0, 1, 0);
        int outside = x.lost(5, 2, 0);
        Check.is("the zone told", 200 * 72, x.fee(unread, 0));
        Check.is("the zone told", 300 * 72, x.fee(outside, 0));
        Check.is("no plate", 0, x.inside(5));
        Check.is("no place", 0, x.occupied(1));
        Check.is("no place", 0, x.occupied(2));
        Check.is("the plate may enter", 3, x.enter(2, 5, 0));
        Check.yes("and leave", x.leave(3, 0));
        Check.is("gone, it is not inside", 300 * 72, x.fee(x.lost(5, 2, 0), 0));
        Check.is("each time another one", 5, x.lost(0, 1, 0));
        Check.fine("the one before is INSIDE still", () -> x.fee(unread, 0));
    }

    private static void lostNotOpen() {
        ParkOffice x = Check.hourlyShut();
        Check.state("without a plate", () -> x.lost(0, 0, 0));
        Check.state("with a plate", () -> x.lost(1, 0, 0));
        x.open();
        Check.is("now it is", 1, x.lost(1, 0, 0));
    }

    private static void lostBeyond300() {
        ParkOffice x = withAllTickets();
        Check.state("without a plate", () -> x.lost(0, 0, 0));
        Check.state("with one that is outside", () -> x.lost(3, 0, 0));
        Check.state("with one that is inside", () -> x.lost(1, 0, 0));
        Check.is("its ticket stays", 1, x.inside(1));
        ParkOffice y = Check.hourly();
        y.enter(0, 1, 0);
        for (int number = 2; number <= 299; number++) {
            y.lost(0, 0, 0);
        }
        Check.is("the 300th is made", 300, y.lost(1, 0, 0));
    }

    private static void lostBeingPaid() {
        ParkOffice x = Check.hourly();
        x.enter(0, 1, 0);
        x.payBegin(1, 0, 0);
        Check.state("it is", () -> x.lost(1, 0, 0));
        Check.is("its ticket stays", 1, x.inside(1));
        Check.is("another plate", 2, x.lost(2, 0, 0));
        Check.is("no plate", 3, x.lost(0, 0, 0));
        x.payBack(0);
        Check.is("no more", 4, x.lost(1, 0, 0));
        x.payBegin(4, 1, 0);
        Check.state("the new one is", () -> x.lost(1, 0, 0));
        x.payEnd(1);
        Check.is("no more", 5, x.lost(1, 0, 0));
    }

    // ---- promises 23 and 24 ----

    private static void occupied() {
        ParkOffice x = Check.hourly();
        Check.is("none", 0, x.occupied(0));
        for (int plate = 1; plate <= 21; plate++) {
            x.enter(0, plate, 0);
        }
        Check.is("full", 20, x.occupied(0));
        Check.is("the zone beside", 0, x.occupied(1));
        x.reserve(0, 1, 0, 10);
        Check.is("a reservation is no plate", 0, x.occupied(1));
        x.lost(1, 3, 0);
        Check.is("a plate with a new ticket", 20, x.occupied(0));
        x.lost(0, 0, 0);
        Check.is("a LOST one has no plate", 20, x.occupied(0));
        x.leave(2, 0);
        Check.is("one less", 19, x.occupied(0));
        x.leave(3, 5);
        Check.is("one that owes stays", 19, x.occupied(0));
        Check.is("also before the opening", 0, new ParkOffice().occupied(3));
    }

    private static void inside() {
        ParkOffice x = Check.hourly();
        x.enter(0, 1_000_000, 0);
        x.enter(3, 1, 0);
        Check.is("the greatest plate", 1, x.inside(1_000_000));
        Check.is("the least plate", 2, x.inside(1));
        x.lost(1, 0, 0);
        Check.is("its new ticket", 3, x.inside(1));
        Check.no("it owes", x.leave(1, 1));
        Check.is("so it is inside still", 1, x.inside(1_000_000));
    }

    private static void notInside() {
        ParkOffice x = Check.hourly();
        Check.is("never seen", 0, x.inside(1));
        x.enter(0, 1, 0);
        Check.is("another plate", 0, x.inside(2));
        x.leave(1, 0);
        Check.is("it left", 0, x.inside(1));
        x.lost(1, 0, 0);
        Check.is("a LOST one has no plate", 0, x.inside(1));
        Check.is("before the opening", 0, new ParkOffice().inside(1));
    }
}
