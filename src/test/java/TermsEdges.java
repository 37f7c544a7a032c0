/** Boundary cases of the document's part 'Terms', but for those of covers, which are CoverEdges'. */
final class TermsEdges {
    private TermsEdges() {
    }

    static void run() {
        numbers();
        products();
        tickets();
        contractsAndReservations();
        machines();
        refusals();
    }

    private static void numbers() {
        Edge.terms("MINUTES count from the beginning of a week, 0 .. 200,000", TermsEdges::minutes);
        Edge.terms("hour h of the week, 0 .. 167, are the minutes whose quotient by 60, rounded down, "
                + "is h modulo 168.", TermsEdges::hoursOfTheWeek);
        Edge.terms("PRICES are multiples of 5, 0 .. 20,000 cents.", () -> Calls.argumentsOf("price"));
        Edge.terms("There are ZONES 0 .. 3", () -> Calls.argumentsOf("zone"));
        Edge.terms("of 1 to 40 PLACES", () -> Calls.argumentsOf("places"));
        Edge.terms("LANES 0 .. 7", () -> Calls.argumentsOf("lane"));
        Edge.terms("(lane l leads to zone l modulo 4)", TermsEdges::lanes);
        Edge.terms("PLATES 1 .. 1,000,000.", TermsEdges::plates);
    }

    private static void products() {
        Edge.terms("PRODUCTS 0 .. 23", TermsEdges::productNumbers);
        Edge.terms("told before the opening", TermsEdges::toldBefore);
        Edge.terms("a LENGTH 15 .. 4320 minutes", TermsEdges::lengths);
        Edge.terms("and HOURS from .. to, 0 .. 168", () -> Calls.argumentsOf("hour"));
        Edge.terms("it may begin in hour h if from is at most h, and h below to", TermsEdges::hoursInARow);
        Edge.terms("or, if from is not below to, if h is at least from, or below to.", TermsEdges::hoursRoundTheWeek);
        Edge.terms("Each zone may have a FREE product of 1 .. 120 minutes, price 0.", TermsEdges::freeProducts);
    }

    private static void tickets() {
        Edge.terms("TICKETS are numbered from 1 on", TermsEdges::ticketNumbers);
        Edge.terms("at most 300.", TermsEdges::mostTickets);
        Edge.terms("A ticket is INSIDE, GONE or REPLACED", TermsEdges::ticketStates);
        Edge.terms("it has a zone, a BEGINNING, and PAYMENTS.", TermsEdges::ticketHas);
        Edge.terms("Its FEE at a minute is its CHARGE from the BEGINNING to that, less its PAYMENTS, 0 at least",
                TermsEdges::feeLessPayments);
        Edge.terms("but 0 up to 15 minutes behind the last PAYMENT", TermsEdges::fifteenMinutes);
        Edge.terms("above 0", TermsEdges::paymentsOfZero);
        Edge.terms("(of payBegin's minute)", TermsEdges::payBeginsMinute);
        Edge.terms("always 0 for one let in under a contract.", TermsEdges::feeUnderContract);
        Edge.terms("A LOST one that was made without a plate inside has as its CHARGE, for ever, that from its minute "
                + "on for 4320 minutes.", TermsEdges::lostCharge);
    }

    private static void contractsAndReservations() {
        Edge.terms("CONTRACTS 0 .. 19 have a zone", () -> Calls.argumentsOf("contract"));
        Edge.terms("and a number k, 1 .. 9", TermsEdges::numberK);
        Edge.terms("a plate belongs to one at most", TermsEdges::oneContract);
        Edge.terms("and a contract has at most 12.", TermsEdges::atMostTwelve);
        Edge.terms("A plate of a contract that enters its zone", TermsEdges::entersItsZone);
        Edge.terms("with fewer than k of its plates inside under it", TermsEdges::fewerThanK);
        Edge.terms("(one that was dropped meanwhile counts till it leaves), is let in under it.",
                TermsEdges::droppedCounts);
        Edge.terms("RESERVATIONS 0 .. 29 have a zone", () -> Calls.argumentsOf("reservation"));
        Edge.terms("minutes from .. to (to behind from)", TermsEdges::toBehindFrom);
        Edge.terms("they are running at the minutes from from on up to to, to not being one.", TermsEdges::running);
    }

    private static void machines() {
        Edge.terms("MACHINES 0 .. 2", TermsEdges::machineNumbers);
        Edge.terms("have BOXES of coins of 5, 10, 20, 50, 100, 200 cents", () -> Calls.argumentsOf("coin"));
        Edge.terms("at most 500 of each.", TermsEdges::mostCoins);
    }

    private static void refusals() {
        Edge.terms("An argument minute is not before the latest one of a call that did not throw",
                TermsEdges::latestMinute);
        Edge.terms("(those of reserve, least, best and takings are no such).", TermsEdges::noSuchMinutes);
        Edge.terms("A call that throws changes nothing", RefusedCalls::changeNothing);
        Edge.terms("where it lists more than one exception, the first one wins.", TermsEdges::firstWins);
        Edge.terms("IllegalArgument: also where a number is none of those told here (a zone, lane, plate, product, "
                + "contract, reservation, machine, coin, price, minute out of bounds", TermsEdges::numbersOutOfBounds);
        Edge.terms("or too early", TermsEdges::tooEarly);
        Edge.terms("an unknown ticket).", TermsEdges::unknownTickets);
        Edge.terms("IllegalState: also where the office is open and must not be", TermsEdges::mustNotBeOpen);
        Edge.terms("or the other way round.", TermsEdges::mustBeOpen);
    }

    // ---- minutes, zones, lanes, plates ----

    private static void minutes() {
        Calls.argumentsOf("minute");
        ParkOffice x = Check.hourly();
        Check.is("the first", 1, x.enter(0, 1, 0));
        Check.is("the last", 2, x.enter(0, 2, 200_000));
    }

    private static void hoursOfTheWeek() {
        for (int hour : new int[] {0, 1, 84, 166, 167}) {
            ParkOffice x = Check.hourlyShut();
            x.product(9, 5, 60, 0);
            x.hours(9, hour, hour + 1);
            x.open();
            for (int week = 0; week < 19; week++) {
                int first = 10_080 * week + 60 * hour;
                Check.is("hour " + hour + ", week " + week + ": first minute", 9, x.best(0, first, first + 1, 0));
                Check.is("last minute", 9, x.best(0, first + 59, first + 60, 0));
                Check.is("a minute behind", 0, x.best(0, first + 60, first + 61, 0));
                if (first > 0) {
                    Check.is("a minute before", 0, x.best(0, first - 1, first, 0));
                }
            }
            // A stay that reaches it: 0 before it, 9 at its first minute, and again at its last.
            int next = 10_080 + 60 * hour;
            Check.is("hour " + hour + " of the next week: its first minute", 9, x.best(0, next - 60, next + 61, 1));
            Check.is("its last minute", 9, x.best(0, next - 60, next + 61, 2));
            Check.is("what that costs", 110, x.least(0, next - 60, next + 61));
        }
    }

    private static void lanes() {
        ParkOffice x = Check.hourly();
        for (int lane = 0; lane < 8; lane++) {
            x.enter(lane, 1 + lane, 0);
            Check.is("lane " + lane, 1 + lane / 4, x.occupied(lane % 4));
        }
        for (int ticket = 1; ticket <= 8; ticket++) {
            Check.is("what zone " + (ticket - 1) % 4 + " costs", 100 * ((ticket - 1) % 4 + 1), x.fee(ticket, 60));
        }
    }

    private static void plates() {
        Calls.argumentsOf("plate");
        Calls.argumentsOf("plate or 0");
        ParkOffice x = Check.hourly();
        x.enter(0, 1, 0);
        x.enter(0, 1_000_000, 0);
        Check.is("the least", 1, x.inside(1));
        Check.is("the greatest", 2, x.inside(1_000_000));
        Check.is("0 stands for none: it is no plate inside", 3, x.lost(0, 0, 0));
        Check.is("so another one is not replaced", 4, x.lost(0, 0, 0));
        Check.fine("nor this one", () -> x.fee(3, 0));
    }

    // ---- products ----

    private static void productNumbers() {
        Calls.argumentsOf("product");
        for (int id = 0; id < 24; id++) {
            ParkOffice x = new ParkOffice();
            for (int zone = 0; zone < 4; zone++) {
                x.product((id + 1 + zone) % 24, 100, 60, zone);
            }
            x.product(id, 5, 4320, 2);
            x.open();
            Check.is("product " + id, id, x.best(2, 0, 4320, 0));
        }
    }

    private static void toldBefore() {
        ParkOffice x = Check.hourlyShut();
        Check.fine("before: product", () -> x.product(9, 100, 60, 0));
        Check.fine("before: hours", () -> x.hours(9, 0, 1));
        x.open();
        Check.state("behind: product", () -> x.product(9, 5, 60, 0));
        Check.state("behind: hours", () -> x.hours(9, 0, 168));
        Check.is("they are as told before", 100, x.least(0, 0, 60));
    }

    private static void lengths() {
        Calls.argumentsOf("length");
        ParkOffice x = Check.hourlyShut();
        x.product(9, 5, 15, 0);
        x.product(10, 5, 4320, 1);
        x.open();
        Check.is("15 minutes", 5, x.least(0, 0, 15));
        Check.is("16 minutes", 10, x.least(0, 0, 16));
        Check.is("4320 minutes", 5, x.least(1, 0, 4320));
        x.enter(1, 1, 0);
        Check.is("4321 minutes", 10, x.fee(1, 4321));
    }

    private static void hoursInARow() {
        Check.no("3 .. 5: hour 2", SetupEdges.begins(3, 5, 2));
        Check.yes("3 .. 5: hour 3", SetupEdges.begins(3, 5, 3));
        Check.yes("3 .. 5: hour 4", SetupEdges.begins(3, 5, 4));
        Check.no("3 .. 5: hour 5", SetupEdges.begins(3, 5, 5));
        Check.yes("0 .. 168: hour 0", SetupEdges.begins(0, 168, 0));
        Check.yes("0 .. 168: hour 167", SetupEdges.begins(0, 168, 167));
        Check.yes("167 .. 168: hour 167", SetupEdges.begins(167, 168, 167));
        Check.no("167 .. 168: hour 0", SetupEdges.begins(167, 168, 0));
        Check.no("0 .. 1: hour 167", SetupEdges.begins(0, 1, 167));
    }

    private static void hoursRoundTheWeek() {
        Check.yes("166 .. 2: hour 166", SetupEdges.begins(166, 2, 166));
        Check.yes("166 .. 2: hour 167", SetupEdges.begins(166, 2, 167));
        Check.yes("166 .. 2: hour 0", SetupEdges.begins(166, 2, 0));
        Check.yes("166 .. 2: hour 1", SetupEdges.begins(166, 2, 1));
        Check.no("166 .. 2: hour 2", SetupEdges.begins(166, 2, 2));
        Check.no("166 .. 2: hour 165", SetupEdges.begins(166, 2, 165));
        for (int hour : new int[] {0, 6, 7, 8, 167}) {
            Check.yes("7 .. 7: hour " + hour, SetupEdges.begins(7, 7, hour));
            Check.yes("0 .. 0: hour " + hour, SetupEdges.begins(0, 0, hour));
            Check.yes("168 .. 168: hour " + hour, SetupEdges.begins(168, 168, hour));
            Check.no("168 .. 0: hour " + hour, SetupEdges.begins(168, 0, hour));
            Check.is("167 .. 0: hour " + hour, hour == 167 ? 1 : 0, SetupEdges.begins(167, 0, hour) ? 1 : 0);
            Check.is("168 .. 1: hour " + hour, hour == 0 ? 1 : 0, SetupEdges.begins(168, 1, hour) ? 1 : 0);
        }
    }

    private static void freeProducts() {
        Calls.argumentsOf("free minutes");
        ParkOffice x = Check.hourlyShut();
        for (int zone = 0; zone < 4; zone++) {
            x.free(zone, zone == 0 ? 1 : 40 * zone);
        }
        x.open();
        for (int zone = 0; zone < 4; zone++) {
            int minutes = zone == 0 ? 1 : 40 * zone;
            Check.is("zone " + zone + ": price 0", 0, x.least(zone, 7, 7 + minutes));
            Check.is("zone " + zone + ": a minute more", 100 * (zone + 1), x.least(zone, 7, 8 + minutes));
        }
    }

    // ---- tickets ----

    private static void ticketNumbers() {
        ParkOffice x = Check.hourly();
        Check.is("the first", 1, x.enter(0, 1, 0));
        x.enter(0, 1, 0);
        Check.argument("a refused one has none", () -> x.enter(8, 2, 0));
        Check.is("the next", 2, x.lost(0, 0, 0));
        Check.is("and the next", 3, x.lost(1, 0, 0));
        Check.is("and the next", 4, x.enter(3, 2, 0));
    }

    private static void mostTickets() {
        ParkOffice x = TicketEdges.withAllTickets();
        Check.state("enter", () -> x.enter(3, 9, 0));
        Check.state("lost", () -> x.lost(0, 0, 0));
        Check.argument("there is no 301", () -> x.fee(301, 0));
        Check.is("the 300th is one like all", 300, x.inside(2));
        Check.yes("it may leave", x.leave(300, 0));
    }

    private static void ticketStates() {
        ParkOffice x = Check.hourly();
        x.enter(0, 1, 0);
        Check.fine("INSIDE", () -> x.fee(1, 0));
        x.lost(1, 0, 0);
        Check.state("REPLACED", () -> x.fee(1, 0));
        Check.yes("INSIDE, so it leaves", x.leave(2, 0));
        Check.state("GONE", () -> x.fee(2, 0));
        x.enter(0, 1, 0);
        Check.state("GONE it stays", () -> x.fee(2, 0));
        Check.state("REPLACED it stays", () -> x.fee(1, 0));
    }

    private static void ticketHas() {
        ParkOffice x = Check.hourly();
        x.enter(0, 1, 0);
        x.enter(3, 2, 30);
        Check.is("its zone and beginning", 200, x.fee(1, 61));
        Check.is("the other's", 400, x.fee(2, 90));
        TicketTest.pay(x, 2, 90);
        Check.is("payments are its own: not of the first", 200, x.fee(1, 91));
        Check.is("but of the second", 400, x.fee(2, 150));
    }

    private static void feeLessPayments() {
        ParkOffice x = Check.hourly();
        x.enter(0, 1, 0);
        Check.is("no minutes", 0, x.fee(1, 0));
        TicketTest.pay(x, 1, 1);
        Check.is("paid up to 60", 0, x.fee(1, 60));
        Check.is("not 61", 100, x.fee(1, 61));
        TicketTest.pay(x, 1, 181);
        Check.is("all four hours", 0, x.fee(1, 240));
        Check.is("not five", 100, x.fee(1, 241));
        Check.is("long behind", 100 * 3334 - 400, x.fee(1, 200_000));
    }

    private static void fifteenMinutes() {
        ParkOffice x = Check.hourly();
        x.enter(0, 1, 0);
        TicketTest.pay(x, 1, 59);
        Check.is("14 minutes", 0, x.fee(1, 73));
        Check.is("15 minutes", 0, x.fee(1, 74));
        Check.is("16 minutes", 100, x.fee(1, 75));
        TicketTest.pay(x, 1, 119);
        Check.is("15 minutes behind the last one", 0, x.fee(1, 134));
        Check.is("16 minutes behind the last one", 100, x.fee(1, 135));
        ParkOffice y = Check.hourly();
        y.enter(0, 1, 0);
        y.enter(0, 2, 0);
        TicketTest.pay(y, 1, 60);
        Check.is("another ticket's do not count", 100, y.fee(2, 60));
        Check.is("none was paid for it", 200, y.fee(2, 75));
    }

    private static void paymentsOfZero() {
        ParkOffice x = Check.hourly();
        x.enter(0, 1, 0);
        x.payBegin(1, 0, 0);
        Check.is("0 is paid", 0, x.payEnd(0));
        Check.is("a minute later", 100, x.fee(1, 1));
        TicketTest.pay(x, 1, 50);
        TicketTest.pay(x, 1, 60);
        Check.is("0 was paid at 60: 15 minutes from 50 on", 0, x.fee(1, 65));
        Check.is("not from 60 on", 100, x.fee(1, 66));
    }

    private static void payBeginsMinute() {
        ParkOffice x = Check.hourly();
        x.enter(0, 1, 0);
        x.payBegin(1, 0, 50);
        x.coin(0, 100);
        x.enter(1, 2, 58);
        x.payEnd(0);
        Check.is("15 behind payBegin's", 0, x.fee(1, 65));
        Check.is("not behind the latest one's at payEnd", 100, x.fee(1, 66));
    }

    private static void feeUnderContract() {
        ParkOffice x = Check.hourly();
        x.contract(0, 0, 1);
        x.plate(0, 1);
        x.enter(0, 1, 0);
        Check.is("a minute", 0, x.fee(1, 1));
        x.dropPlate(1);
        Check.is("also when it was dropped", 0, x.fee(1, 100));
        Check.is("nothing to pay", 0, x.payBegin(1, 0, 100_000));
        x.payEnd(0);
        Check.is("up to the last minute", 0, x.fee(1, 200_000));
        Check.yes("it leaves", x.leave(1, 200_000));
    }

    private static void lostCharge() {
        ParkOffice x = Check.hourlyShut();
        x.product(9, 50, 60, 0);
        x.hours(9, 0, 1);
        x.free(0, 60);
        x.open();
        int first = x.lost(0, 0, 0);
        Check.is("at once", 7100, x.fee(first, 0));
        Check.is("4320 minutes later", 7100, x.fee(first, 4320));
        Check.is("4321 minutes later", 7100, x.fee(first, 4321));
        // From 5820 on: the FREE hour, 70 hours up to the week's end, and hour 0, which costs 50.
        int later = x.lost(0, 0, 5820);
        Check.is("from its minute on: over the week's end", 7050, x.fee(later, 5821));
        Check.is("for ever", 7050, x.fee(later, 190_000));
        int last = x.lost(0, 0, 200_000);
        Check.is("beyond the last minute: it has an hour 0 too", 7050, x.fee(last, 200_000));
        TicketTest.pay(x, first, 200_000);
        Check.yes("less its payments it is 0", x.leave(first, 200_000));
    }

    // ---- contracts and reservations ----

    private static void numberK() {
        Calls.argumentsOf("k");
        for (int k : new int[] {1, 9}) {
            ParkOffice x = Check.hourly();
            x.contract(0, 0, k);
            for (int plate = 1; plate <= 12; plate++) {
                x.plate(0, plate);
                x.enter(0, plate, 0);
            }
            for (int ticket = 1; ticket <= 12; ticket++) {
                Check.is("k " + k + ", plate " + ticket, ticket <= k ? 0 : 100, x.fee(ticket, 1));
            }
        }
    }

    private static void oneContract() {
        ParkOffice x = Check.hourly();
        x.contract(0, 0, 1);
        x.contract(1, 0, 1);
        x.plate(0, 1);
        Check.state("a second one", () -> x.plate(1, 1));
        Check.yes("dropped", x.dropPlate(1));
        Check.no("from one only", x.dropPlate(1));
        Check.fine("now the second one may", () -> x.plate(1, 1));
        Check.state("and the first one may not", () -> x.plate(0, 1));
    }

    private static void atMostTwelve() {
        ParkOffice x = Check.hourly();
        x.contract(0, 0, 1);
        for (int plate = 1; plate <= 12; plate++) {
            int told = plate;
            Check.fine("plate " + plate, () -> x.plate(0, told));
        }
        Check.state("plate 13", () -> x.plate(0, 13));
        x.contract(1, 0, 1);
        for (int plate = 21; plate <= 32; plate++) {
            int told = plate;
            Check.fine("each contract has 12: " + plate, () -> x.plate(1, told));
        }
        Check.state("and no more", () -> x.plate(1, 33));
    }

    private static void entersItsZone() {
        ParkOffice x = Check.hourly();
        x.contract(0, 1, 9);
        x.plate(0, 1);
        x.plate(0, 2);
        x.plate(0, 3);
        Check.is("by lane 1", 0, x.fee(x.enter(1, 1, 0), 60));
        Check.is("by lane 5", 0, x.fee(x.enter(5, 2, 60), 120));
        Check.is("another zone", 100, x.fee(x.enter(0, 3, 120), 180));
        Check.is("another plate", 200, x.fee(x.enter(1, 4, 180), 240));
    }

    private static void fewerThanK() {
        ParkOffice x = Check.hourly();
        x.contract(0, 0, 2);
        for (int plate = 1; plate <= 5; plate++) {
            x.plate(0, plate);
        }
        x.enter(1, 5, 0);
        x.enter(0, 1, 0);
        x.enter(0, 2, 0);
        x.enter(0, 3, 0);
        Check.is("one inside elsewhere does not count", 0, x.fee(3, 1));
        Check.is("two are inside", 100, x.fee(4, 1));
        x.leave(2, 1);
        Check.is("one has left, but this one came before", 100, x.fee(4, 2));
        Check.is("the next is let in", 0, x.fee(x.enter(0, 4, 2), 3));
    }

    private static void droppedCounts() {
        ParkOffice x = Check.hourly();
        x.contract(0, 0, 1);
        x.plate(0, 1);
        x.plate(0, 2);
        x.plate(0, 3);
        x.enter(0, 1, 0);
        x.dropPlate(1);
        Check.is("it counts", 100, x.fee(x.enter(0, 2, 0), 1));
        x.lost(1, 0, 1);
        Check.state("also with a new ticket", () -> x.contract(0, 0, 1));
        x.leave(3, 1);
        Check.is("till it leaves", 0, x.fee(x.enter(0, 3, 1), 2));
    }

    private static void toBehindFrom() {
        ParkOffice x = Check.hourly();
        Check.argument("at it", () -> x.reserve(0, 0, 10, 10));
        Check.argument("before it", () -> x.reserve(0, 0, 10, 9));
        Check.argument("both the last minute", () -> x.reserve(0, 0, 200_000, 200_000));
        Check.yes("a minute behind it", x.reserve(0, 0, 10, 11));
        Check.yes("the last minute", x.reserve(1, 0, 199_999, 200_000));
        Check.yes("all minutes", x.reserve(2, 0, 0, 200_000));
    }

    private static void running() {
        ParkOffice x = Check.hourlyShut();
        x.places(0, 1);
        x.open();
        x.reserve(0, 0, 10, 20);
        Check.is("a minute before from", 1, x.enter(0, 1, 9));
        x.leave(1, 9);
        Check.is("from", 0, x.enter(0, 1, 10));
        Check.is("a minute before to", 0, x.enter(0, 1, 19));
        Check.is("to", 2, x.enter(0, 1, 20));
        ParkOffice y = Check.hourlyShut();
        y.places(0, 1);
        y.open();
        y.reserve(0, 0, 199_999, 200_000);
        Check.is("the last minute but one", 0, y.enter(0, 1, 199_999));
        Check.is("the last minute is not one", 1, y.enter(0, 1, 200_000));
    }

    // ---- machines ----

    private static void machineNumbers() {
        Calls.argumentsOf("machine");
        ParkOffice x = Check.hourly();
        for (int machine = 0; machine < 3; machine++) {
            x.enter(0, 1 + machine, 0);
            x.payBegin(1 + machine, machine, 0);
            Check.is("machine " + machine, 5, x.coin(machine, 5));
        }
        Check.is("each has what was put in there", 5, x.payBack(0));
    }

    private static void mostCoins() {
        ParkOffice x = Check.hourly();
        for (int machine = 0; machine < 3; machine++) {
            for (int value : new int[] {5, 10, 20, 50, 100, 200}) {
                int at = machine;
                Check.is("500 of " + value, 500, x.fill(machine, value, 500));
                Check.state("by fill", () -> x.fill(at, value, 1));
            }
        }
        x.enter(0, 1, 0);
        x.payBegin(1, 0, 0);
        Check.state("by coin", () -> x.coin(0, 5));
        x.payBack(0);
        x.fill(0, 5, -1);
        x.payBegin(1, 0, 0);
        Check.is("the 500th", 5, x.coin(0, 5));
    }

    // ---- what is refused ----

    private static ParkOffice withCarAt(int minute) {
        ParkOffice x = Check.hourly();
        x.enter(0, 1, minute);
        return x;
    }

    /** 99 is too early for every call whose minutes must go on, 100 is not. */
    private static void latestIs100(String what, ParkOffice x) {
        Check.argument(what + ": enter", () -> x.enter(1, 7, 99));
        Check.argument(what + ": fee", () -> x.fee(1, 99));
        Check.argument(what + ": leave", () -> x.leave(1, 99));
        Check.argument(what + ": lost", () -> x.lost(0, 0, 99));
        Check.argument(what + ": payBegin", () -> x.payBegin(1, 2, 99));
        Check.argument(what + ": reserve", () -> x.reserve(9, 0, 99, 200));
        Check.fine(what + ": the same minute", () -> x.enter(1, 7, 100));
    }

    private static void latestMinute() {
        latestIs100("enter", withCarAt(100));
        ParkOffice refused = withCarAt(10);
        Check.is("inside already", 0, refused.enter(0, 1, 100));
        latestIs100("enter that answers 0", refused);
        ParkOffice asked = withCarAt(10);
        asked.fee(1, 100);
        latestIs100("fee", asked);
        ParkOffice left = withCarAt(10);
        Check.no("it owes", left.leave(1, 100));
        latestIs100("leave that answers false", left);
        ParkOffice gone = withCarAt(100);
        gone.enter(0, 2, 100);
        Check.yes("it does not", gone.leave(2, 100));
        latestIs100("leave", gone);
        ParkOffice lost = withCarAt(10);
        lost.lost(0, 0, 100);
        latestIs100("lost", lost);
        ParkOffice paying = withCarAt(10);
        paying.payBegin(1, 0, 100);
        latestIs100("payBegin", paying);
        ParkOffice ended = withCarAt(10);
        ended.payBegin(1, 0, 100);
        ended.payEnd(0);
        latestIs100("payEnd leaves it", ended);
    }

    private static void noSuchMinutes() {
        ParkOffice x = withCarAt(100);
        x.reserve(0, 0, 1000, 2000);
        x.least(0, 3000, 4000);
        x.best(0, 5000, 6000, 0);
        x.takings(7000, 8000);
        latestIs100("they did not move it", x);
        Check.fine("least may be earlier", () -> x.least(0, 0, 99));
        Check.fine("best may be earlier", () -> x.best(0, 0, 99, 0));
        Check.fine("takings may be earlier", () -> x.takings(0, 99));
    }

    private static void firstWins() {
        Calls.argumentWins();
        ParkOffice x = TicketEdges.withAllTickets();
        Check.argument("300 tickets: enter", () -> x.enter(8, 3, 0));
        Check.argument("300 tickets: lost", () -> x.lost(0, 4, 0));
        ParkOffice y = withCarAt(10);
        y.payBegin(1, 0, 10);
        Check.argument("the machine is taken: payBegin too early", () -> y.payBegin(1, 0, 9));
        Check.argument("being paid: leave too early", () -> y.leave(1, 9));
        Check.argument("being paid: lost too early", () -> y.lost(1, 0, 9));
        Check.argument("being paid: fill of no coin", () -> y.fill(0, 3, 501));
        Check.argument("an unknown ticket at a machine that is taken", () -> y.payBegin(2, 0, 10));
        y.reserve(0, 0, 10, 20);
        Check.argument("a reservation that is there, to before from", () -> y.reserve(0, 0, 10, 9));
    }

    private static void numbersOutOfBounds() {
        for (String kind : new String[] {"zone", "lane", "plate", "product", "contract", "reservation", "machine",
            "coin", "price", "minute"}) {
            Calls.argumentsOf(kind);
        }
    }

    private static void tooEarly() {
        latestIs100("latest 100", withCarAt(100));
        ParkOffice x = withCarAt(200_000);
        Check.argument("behind the last minute there is none", () -> x.fee(1, 199_999));
        Check.fine("but that one", () -> x.fee(1, 200_000));
    }

    private static void unknownTickets() {
        Calls.argumentsOf("ticket");
        ParkOffice x = withCarAt(0);
        for (int ticket : new int[] {0, 2, 300, 301, -1, Integer.MIN_VALUE, Integer.MAX_VALUE}) {
            Check.argument("fee of " + ticket, () -> x.fee(ticket, 0));
            Check.argument("leave with " + ticket, () -> x.leave(ticket, 0));
            Check.argument("payBegin of " + ticket, () -> x.payBegin(ticket, 0, 0));
        }
    }

    private static void mustNotBeOpen() {
        ParkOffice x = Check.hourly();
        Check.state("places", () -> x.places(0, 5));
        Check.state("product", () -> x.product(0, 5, 15, 0));
        Check.state("hours", () -> x.hours(0, 0, 168));
        Check.state("free", () -> x.free(0, 5));
        Check.state("open", () -> x.open());
        eitherWay("open", x);
    }

    private static void mustBeOpen() {
        ParkOffice x = Check.hourlyShut();
        Check.state("enter", () -> x.enter(0, 1, 0));
        Check.state("lost", () -> x.lost(0, 0, 0));
        Check.state("reserve", () -> x.reserve(0, 0, 0, 1));
        Check.state("least", () -> x.least(0, 0, 1));
        Check.state("best", () -> x.best(0, 0, 1, 0));
        eitherWay("not open", x);
    }

    private static void eitherWay(String what, ParkOffice x) {
        Check.fine(what + ": contract", () -> x.contract(0, 0, 1));
        Check.fine(what + ": plate", () -> x.plate(0, 1));
        Check.fine(what + ": dropPlate", () -> x.dropPlate(1));
        Check.fine(what + ": cancelReserve", () -> x.cancelReserve(0));
        Check.fine(what + ": changeCoins", () -> x.changeCoins(0, 5));
        Check.fine(what + ": fill", () -> x.fill(0, 5, 1));
        Check.fine(what + ": box", () -> x.box(0, 5));
        Check.fine(what + ": occupied", () -> x.occupied(0));
        Check.fine(what + ": inside", () -> x.inside(1));
        Check.fine(what + ": journal", () -> x.journal(0, 0));
        Check.fine(what + ": takings", () -> x.takings(0, 0));
    }
}
