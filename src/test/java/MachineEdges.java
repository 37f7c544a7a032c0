/** Boundary cases of promises 16 to 22, 27 and 28, by the document's sentences. */
final class MachineEdges {
    private static final String ARGUMENT = "IllegalArgument.";
    private static final String NOTHING_PAID = "IllegalState: nothing is being paid there.";
    private static final int[] COINS = {200, 100, 50, 20, 10, 5};

    private MachineEdges() {
    }

    static void run() {
        beginning();
        Edge.promise(17, "A coin more: what has been put in.", MachineEdges::coin);
        Edge.promise(17, ARGUMENT, () -> Calls.argumentsOf(17));
        Edge.promise(17, "IllegalState: nothing is being paid there", MachineEdges::coinForNothing);
        Edge.promise(17, "the BOX has 500 of it", MachineEdges::coinIntoFullBox);
        Edge.promise(17, "or 200 coins were put in.", MachineEdges::twoHundredCoins);
        ending();
        Edge.promise(19, "Paying is stopped (the machine is free then)", MachineEdges::freeAfterPayBack);
        Edge.promise(19, "what comes out, the coins put in.", MachineEdges::payBack);
        Edge.promise(19, ARGUMENT, () -> Calls.argumentsOf(19));
        Edge.promise(19, NOTHING_PAID, MachineEdges::payBackOfNothing);
        boxes();
        whatWasPaid();
    }

    private static void beginning() {
        Edge.promise(16, "Paying begins at a machine: the FEE then.", MachineEdges::payBegin);
        Edge.promise(16, ARGUMENT, MachineEdges::payBeginArguments);
        Edge.promise(16, "IllegalState: it is not open", MachineEdges::payBeginNotOpen);
        Edge.promise(16, "the machine is taken", MachineEdges::machineTaken);
        Edge.promise(16, "the ticket is not INSIDE", MachineEdges::payBeginNotInside);
        Edge.promise(16, "or is being paid elsewhere.", MachineEdges::paidElsewhere);
    }

    private static void ending() {
        Edge.promise(18, "Paying ends (the machine is free then)", MachineEdges::freeAfterPayEnd);
        Edge.promise(18, "the change, if the coins put in reach the FEE of payBegin", MachineEdges::reachTheFee);
        Edge.promise(18, "and the rest can be given from the BOX (these coins in it)", MachineEdges::restFromBox);
        Edge.promise(18, "with the fewest coins", MachineEdges::fewestCoins);
        Edge.promise(18, "of several ways with the most of 200, then of 100, and so on", MachineEdges::severalWays);
        Edge.promise(18, "the FEE is a PAYMENT of the ticket, at payBegin's minute.", MachineEdges::paymentMade);
        Edge.promise(18, "Otherwise NONE, and the coins put in come out.", MachineEdges::otherwiseNone);
        Edge.promise(18, ARGUMENT, () -> Calls.argumentsOf(18));
        Edge.promise(18, NOTHING_PAID, MachineEdges::payEndOfNothing);
    }

    private static void boxes() {
        Edge.promise(20, "Coins of a value that came out at the last payEnd or payBack of a machine",
                MachineEdges::cameOutLast);
        Edge.promise(20, "0 if there was none.", MachineEdges::noneCameOut);
        Edge.promise(20, ARGUMENT, () -> Calls.argumentsOf(20));
        Edge.promise(21, "n coins of a value into a BOX, or out (n below 0): how many it has.", MachineEdges::fill);
        Edge.promise(21, ARGUMENT, () -> Calls.argumentsOf(21));
        Edge.promise(21, "IllegalState: it would have more than 500", MachineEdges::fillTooMany);
        Edge.promise(21, "or less than 0", MachineEdges::fillTooFew);
        Edge.promise(21, "or something is being paid there.", MachineEdges::fillWhilePaying);
        Edge.promise(22, "Coins of a value in a BOX", MachineEdges::box);
        Edge.promise(22, "(also those put in).", MachineEdges::boxWithCoinsPutIn);
        Edge.promise(22, ARGUMENT, () -> Calls.argumentsOf(22));
    }

    private static void whatWasPaid() {
        Edge.promise(27, "PAYMENT i, of those above 0, in order", MachineEdges::journal);
        Edge.promise(27, "what = 0 its ticket, 1 its minute, 2 how much", MachineEdges::journalRow);
        Edge.promise(27, "NONE if there is none such.", MachineEdges::journalNone);
        Edge.promise(27, "IllegalArgument: another what.", MachineEdges::journalArguments);
        Edge.promise(28, "The sum of PAYMENTS from one minute up to another, both with it.", MachineEdges::takings);
        Edge.promise(28, "IllegalArgument: to is before from.", MachineEdges::takingsArguments);
    }

    /** An open office with plate 1 inside zone 0 since minute 0, with ticket 1; it costs 100 an hour. */
    private static ParkOffice withCar() {
        ParkOffice x = Check.hourly();
        x.enter(0, 1, 0);
        return x;
    }

    /** An office that is paid a fee at machine 0 for ticket 1; its box has these coins of 200, 100, ... */
    private static ParkOffice paying(int fee, int... box) {
        ParkOffice x = Check.hourlyShut();
        x.product(0, fee, 60, 0);
        x.open();
        x.enter(0, 1, 0);
        for (int kind = 0; kind < box.length; kind++) {
            x.fill(0, COINS[kind], box[kind]);
        }
        Check.is("the fee", fee, x.payBegin(1, 0, 1));
        return x;
    }

    private static void outCame(String what, ParkOffice x, int... due) {
        for (int kind = 0; kind < COINS.length; kind++) {
            Check.is(what + ": coins of " + COINS[kind], due[kind], x.changeCoins(0, COINS[kind]));
        }
    }

    // ---- promise 16 ----

    private static void payBegin() {
        ParkOffice x = withCar();
        Check.is("no minutes", 0, x.payBegin(1, 0, 0));
        x.payBack(0);
        Check.is("a minute", 100, x.payBegin(1, 1, 1));
        x.payBack(1);
        Check.is("an hour and a minute", 200, x.payBegin(1, 2, 61));
        x.coin(2, 200);
        x.payEnd(2);
        Check.is("15 minutes behind it", 0, x.payBegin(1, 0, 76));
        x.payBack(0);
        Check.is("at the last minute", 100 * 3332, x.payBegin(1, 0, 200_000));
        ParkOffice y = Check.hourly();
        Check.is("a LOST one", 7200, y.payBegin(y.lost(0, 0, 0), 0, 0));
    }

    private static void payBeginArguments() {
        Calls.argumentsOf(16);
        ParkOffice x = withCar();
        x.fee(1, 10);
        Check.argument("a minute before the latest", () -> x.payBegin(1, 0, 9));
        Check.fine("the latest", () -> x.payBegin(1, 0, 10));
    }

    private static void payBeginNotOpen() {
        // Without an opening there is no ticket: the unknown one comes first.
        ParkOffice x = Check.hourlyShut();
        Check.argument("ticket 1", () -> x.payBegin(1, 0, 0));
    }

    private static void machineTaken() {
        ParkOffice x = withCar();
        x.enter(0, 2, 0);
        x.payBegin(1, 0, 0);
        Check.state("it is", () -> x.payBegin(2, 0, 0));
        Check.fine("another one is not", () -> x.payBegin(2, 1, 0));
        Check.is("the first goes on there", 5, x.coin(0, 5));
    }

    private static void payBeginNotInside() {
        ParkOffice x = withCar();
        x.enter(0, 2, 0);
        x.leave(1, 0);
        x.lost(2, 0, 0);
        Check.state("GONE", () -> x.payBegin(1, 0, 0));
        Check.state("REPLACED", () -> x.payBegin(2, 0, 0));
        Check.fine("INSIDE", () -> x.payBegin(3, 0, 0));
    }

    private static void paidElsewhere() {
        ParkOffice x = withCar();
        x.payBegin(1, 2, 0);
        Check.state("at machine 2", () -> x.payBegin(1, 0, 0));
        Check.state("at this very one", () -> x.payBegin(1, 2, 0));
        x.payEnd(2);
        Check.fine("no more", () -> x.payBegin(1, 0, 0));
        x.payBack(0);
        Check.fine("no more", () -> x.payBegin(1, 1, 0));
    }

    // ---- promise 17 ----

    private static void coin() {
        ParkOffice x = withCar();
        x.fill(0, 100, 3);
        x.payBegin(1, 0, 0);
        int sum = 0;
        for (int value : COINS) {
            sum += value;
            Check.is("a coin of " + value, sum, x.coin(0, value));
        }
        x.payBack(0);
        x.payBegin(1, 0, 0);
        Check.is("the next one counts from 0 on", 5, x.coin(0, 5));
        x.payEnd(0);
        x.payBegin(1, 0, 0);
        Check.is("also behind payEnd", 10, x.coin(0, 10));
    }

    private static void coinForNothing() {
        ParkOffice x = withCar();
        Check.state("not begun", () -> x.coin(0, 5));
        x.payBegin(1, 0, 0);
        Check.state("at another machine", () -> x.coin(1, 5));
        x.payEnd(0);
        Check.state("ended", () -> x.coin(0, 5));
        x.payBegin(1, 0, 0);
        x.payBack(0);
        Check.state("stopped", () -> x.coin(0, 5));
        Check.is("none was kept", 0, x.box(0, 5));
    }

    private static void coinIntoFullBox() {
        ParkOffice x = withCar();
        for (int value : COINS) {
            x.fill(0, value, 499);
        }
        x.payBegin(1, 0, 0);
        int sum = 0;
        for (int value : COINS) {
            sum += value;
            Check.is("the 500th of " + value, sum, x.coin(0, value));
            Check.state("the 501st of " + value, () -> x.coin(0, value));
            Check.is("it has 500", 500, x.box(0, value));
        }
        Check.is("what came out", sum, x.payBack(0));
    }

    private static void twoHundredCoins() {
        ParkOffice x = withCar();
        x.payBegin(1, 0, 0);
        for (int i = 1; i <= 200; i++) {
            Check.is("coin " + i, 5 * i, x.coin(0, 5));
        }
        Check.state("another one", () -> x.coin(0, 5));
        Check.state("of another value", () -> x.coin(0, 200));
        Check.is("none of these went in", 200, x.box(0, 5));
        Check.is("what comes out", 1000, x.payBack(0));
        x.payBegin(1, 0, 0);
        Check.is("counted anew", 200, x.coin(0, 200));
    }

    // ---- promise 18 ----

    private static void freeAfterPayEnd() {
        ParkOffice x = withCar();
        x.enter(0, 2, 0);
        x.payBegin(1, 0, 10);
        Check.is("too little was put in", -1, x.payEnd(0));
        Check.fine("free for another one", () -> x.payBegin(2, 0, 10));
        x.coin(0, 100);
        Check.is("paid", 0, x.payEnd(0));
        Check.fine("free again", () -> x.payBegin(1, 0, 10));
    }

    private static void reachTheFee() {
        ParkOffice x = paying(205);
        x.coin(0, 200);
        Check.is("5 are missing", -1, x.payEnd(0));
        ParkOffice y = paying(205);
        y.coin(0, 200);
        y.coin(0, 5);
        Check.is("just the fee", 0, y.payEnd(0));
        ParkOffice z = paying(205);
        z.coin(0, 200);
        z.coin(0, 5);
        z.coin(0, 5);
        Check.is("5 more", 5, z.payEnd(0));
        ParkOffice w = withCar();
        w.payBegin(1, 0, 0);
        Check.is("nothing due, nothing put in", 0, w.payEnd(0));
        w.payBegin(1, 0, 60);
        w.fee(1, 61);
        w.coin(0, 100);
        Check.is("the fee of payBegin, not of now", 0, w.payEnd(0));
    }

    private static void restFromBox() {
        ParkOffice x = paying(150, 0, 0, 1);
        x.coin(0, 200);
        Check.is("by the only 50 in it", 50, x.payEnd(0));
        Check.is("it is gone", 0, x.box(0, 50));
        ParkOffice y = paying(150, 0, 0, 0, 2);
        y.coin(0, 200);
        Check.is("40 in it are not 50", -1, y.payEnd(0));
        ParkOffice z = paying(150, 0, 0, 0, 2);
        z.coin(0, 200);
        z.coin(0, 10);
        Check.is("60 from two 20s and a 10: no", -1, z.payEnd(0));
        ParkOffice w = paying(160, 0, 0, 0, 2);
        w.coin(0, 200);
        w.coin(0, 20);
        w.coin(0, 10);
        Check.is("70 from three 20s and the 10 put in", 70, w.payEnd(0));
        outCame("these coins in it", w, 0, 0, 0, 3, 1, 0);
        ParkOffice v = paying(150);
        v.fill(1, 50, 500);
        v.coin(0, 200);
        Check.is("another machine's box does not help", -1, v.payEnd(0));
    }

    private static void fewestCoins() {
        ParkOffice x = paying(140, 0, 0, 1, 3, 3, 10);
        x.coin(0, 200);
        Check.is("60", 60, x.payEnd(0));
        outCame("a 50 and a 10", x, 0, 0, 1, 0, 1, 0);
        ParkOffice y = paying(140, 0, 0, 1, 3, 0, 1);
        y.coin(0, 200);
        Check.is("60", 60, y.payEnd(0));
        outCame("three 20s: the 50 would be of no use", y, 0, 0, 0, 3, 0, 0);
        ParkOffice z = paying(20, 0, 1, 1, 4, 0, 1);
        z.coin(0, 200);
        Check.is("180", 180, z.payEnd(0));
        outCame("a 100 and four 20s: with the 50 it can't be given", z, 0, 1, 0, 4, 0, 0);
        ParkOffice w = paying(0, 0, 5, 5, 5, 5, 5);
        w.coin(0, 100);
        w.coin(0, 100);
        w.coin(0, 200);
        Check.is("all of it comes out", 400, w.payEnd(0));
        outCame("a 200 and two 100s: not four 100s", w, 1, 2, 0, 0, 0, 0);
        ParkOffice v = paying(0, 1);
        v.coin(0, 100);
        v.coin(0, 100);
        Check.is("nothing due: the change", 200, v.payEnd(0));
        outCame("one 200 for two 100s", v, 1, 0, 0, 0, 0, 0);
    }

    private static void severalWays() {
        ParkOffice x = paying(140, 0, 0, 1, 3, 0, 2);
        x.coin(0, 200);
        Check.is("60", 60, x.payEnd(0));
        outCame("three coins either way: with a 50", x, 0, 0, 1, 0, 0, 2);
        ParkOffice y = paying(120, 0, 0, 1, 4, 0, 2);
        y.coin(0, 200);
        Check.is("80", 80, y.payEnd(0));
        outCame("four coins either way: with a 50", y, 0, 0, 1, 1, 0, 2);
        ParkOffice z = paying(140, 1, 1, 1, 3, 0, 2);
        z.coin(0, 200);
        z.coin(0, 200);
        Check.is("260", 260, z.payEnd(0));
        outCame("a 200 first, then a 50", z, 1, 0, 1, 0, 0, 2);
        ParkOffice w = paying(140, 0, 1, 1, 3, 0, 2);
        w.coin(0, 200);
        w.coin(0, 100);
        Check.is("160", 160, w.payEnd(0));
        outCame("a 100 first, then a 50", w, 0, 1, 1, 0, 0, 2);
    }

    private static void paymentMade() {
        ParkOffice x = withCar();
        x.payBegin(1, 0, 10);
        x.fee(1, 20);
        x.coin(0, 200);
        x.coin(0, 100);
        Check.is("the change", 200, x.payEnd(0));
        Check.is("the fee, not what was put in", 100, x.journal(0, 2));
        Check.is("its minute", 10, x.journal(0, 1));
        Check.is("its ticket", 1, x.journal(0, 0));
        x.payBegin(1, 0, 115);
        x.fee(1, 118);
        x.coin(0, 100);
        x.payEnd(0);
        Check.is("15 minutes behind payBegin's", 0, x.fee(1, 130));
        Check.is("16 minutes behind payBegin's, not payEnd's", 100, x.fee(1, 131));
    }

    private static void otherwiseNone() {
        ParkOffice x = paying(205, 0, 3, 0, 0, 0, 0);
        x.coin(0, 50);
        x.coin(0, 50);
        x.coin(0, 100);
        Check.is("too little", ParkOffice.NONE, x.payEnd(0));
        outCame("these very coins", x, 0, 1, 2, 0, 0, 0);
        Check.is("the box has what it had", 3, x.box(0, 100));
        Check.is("the box has what it had", 0, x.box(0, 50));
        Check.is("no payment", -1, x.journal(0, 0));
        Check.is("the fee is due still", 205, x.fee(1, 1));
        ParkOffice y = paying(205, 0, 3, 0, 0, 0, 0);
        y.coin(0, 200);
        y.coin(0, 200);
        Check.is("195 can't be given", ParkOffice.NONE, y.payEnd(0));
        outCame("these very coins", y, 2, 0, 0, 0, 0, 0);
        Check.is("no payment", -1, y.journal(0, 0));
        Check.is("the fee is due still", 205, y.fee(1, 1));
        ParkOffice z = paying(5);
        Check.is("nothing was put in", ParkOffice.NONE, z.payEnd(0));
        outCame("nothing", z, 0, 0, 0, 0, 0, 0);
    }

    private static void payEndOfNothing() {
        ParkOffice x = withCar();
        Check.state("not begun", () -> x.payEnd(0));
        x.payBegin(1, 0, 0);
        Check.state("at another machine", () -> x.payEnd(1));
        x.payEnd(0);
        Check.state("ended", () -> x.payEnd(0));
        x.payBegin(1, 0, 0);
        x.payBack(0);
        Check.state("stopped", () -> x.payEnd(0));
        Check.state("before the opening", () -> new ParkOffice().payEnd(0));
    }

    // ---- promise 19 ----

    private static void freeAfterPayBack() {
        ParkOffice x = withCar();
        x.enter(0, 2, 0);
        x.payBegin(1, 0, 0);
        x.payBack(0);
        Check.fine("free for another one", () -> x.payBegin(2, 0, 0));
        Check.fine("the ticket is free too", () -> x.payBegin(1, 1, 0));
    }

    private static void payBack() {
        ParkOffice x = paying(100, 7, 7, 7, 7, 7, 7);
        Check.is("none", 0, x.payBack(0));
        outCame("none", x, 0, 0, 0, 0, 0, 0);
        x.payBegin(1, 0, 1);
        x.coin(0, 100);
        x.coin(0, 100);
        x.coin(0, 5);
        Check.is("all, though the fee was reached", 205, x.payBack(0));
        outCame("these very coins", x, 0, 2, 0, 0, 0, 1);
        Check.is("the box has what it had", 7, x.box(0, 100));
        Check.is("the box has what it had", 7, x.box(0, 200));
        Check.is("no payment", -1, x.journal(0, 0));
        Check.is("the fee is due still", 100, x.fee(1, 1));
    }

    private static void payBackOfNothing() {
        ParkOffice x = withCar();
        Check.state("not begun", () -> x.payBack(0));
        x.payBegin(1, 0, 0);
        Check.state("at another machine", () -> x.payBack(2));
        x.payBack(0);
        Check.state("stopped", () -> x.payBack(0));
        x.payBegin(1, 0, 0);
        x.payEnd(0);
        Check.state("ended", () -> x.payBack(0));
        Check.state("before the opening", () -> new ParkOffice().payBack(0));
    }

    // ---- promises 20 to 22 ----

    private static void cameOutLast() {
        ParkOffice x = paying(100, 0, 0, 2, 0, 0, 0);
        x.coin(0, 200);
        x.payEnd(0);
        outCame("at payEnd", x, 0, 0, 2, 0, 0, 0);
        x.payBegin(1, 0, 61);
        x.coin(0, 20);
        outCame("while paying, still that", x, 0, 0, 2, 0, 0, 0);
        x.fill(1, 50, 1);
        x.payBack(0);
        outCame("at payBack", x, 0, 0, 0, 1, 0, 0);
        x.payBegin(1, 1, 61);
        x.coin(1, 10);
        x.payBack(1);
        outCame("not at another machine", x, 0, 0, 0, 1, 0, 0);
        x.payBegin(1, 0, 61);
        x.coin(0, 5);
        x.payEnd(0);
        outCame("at a payEnd that answers NONE", x, 0, 0, 0, 0, 0, 1);
        x.payBegin(1, 0, 61);
        x.payBack(0);
        outCame("nothing came out last", x, 0, 0, 0, 0, 0, 0);
    }

    private static void noneCameOut() {
        ParkOffice x = new ParkOffice();
        outCame("a new one", x, 0, 0, 0, 0, 0, 0);
        x.fill(0, 50, 5);
        x.fill(0, 50, -5);
        outCame("what was taken out of the box is no change", x, 0, 0, 0, 0, 0, 0);
        ParkOffice y = paying(100, 1, 1, 1, 1, 1, 1);
        y.coin(0, 50);
        outCame("paying has only begun", y, 0, 0, 0, 0, 0, 0);
    }

    private static void fill() {
        ParkOffice x = new ParkOffice();
        Check.is("none", 0, x.fill(2, 5, 0));
        Check.is("one", 1, x.fill(2, 5, 1));
        Check.is("all that go in", 500, x.fill(2, 5, 499));
        Check.is("none more", 500, x.fill(2, 5, 0));
        Check.is("one out", 499, x.fill(2, 5, -1));
        Check.is("all out", 0, x.fill(2, 5, -499));
        Check.is("500 at once", 500, x.fill(2, 200, 500));
        Check.is("500 out at once", 0, x.fill(2, 200, -500));
        ParkOffice y = Check.hourly();
        Check.is("also behind the opening", 7, y.fill(0, 10, 7));
    }

    private static void fillTooMany() {
        ParkOffice x = new ParkOffice();
        Check.state("501", () -> x.fill(0, 5, 501));
        x.fill(0, 5, 500);
        Check.state("one more", () -> x.fill(0, 5, 1));
        Check.state("a sum that wraps around", () -> x.fill(0, 5, Integer.MAX_VALUE));
        Check.is("still 500", 500, x.box(0, 5));
        Check.is("another value", 500, x.fill(0, 10, 500));
        Check.is("another machine", 500, x.fill(1, 5, 500));
    }

    private static void fillTooFew() {
        ParkOffice x = new ParkOffice();
        Check.state("one of none", () -> x.fill(0, 5, -1));
        x.fill(0, 5, 3);
        Check.state("four of three", () -> x.fill(0, 5, -4));
        Check.state("the least number of all", () -> x.fill(0, 5, Integer.MIN_VALUE));
        Check.state("the least number of all, of none", () -> x.fill(0, 10, Integer.MIN_VALUE));
        Check.is("still three", 3, x.box(0, 5));
        Check.is("all three", 0, x.fill(0, 5, -3));
    }

    private static void fillWhilePaying() {
        ParkOffice x = withCar();
        x.fill(0, 5, 3);
        x.payBegin(1, 0, 0);
        Check.state("in", () -> x.fill(0, 5, 1));
        Check.state("out", () -> x.fill(0, 5, -1));
        Check.state("none", () -> x.fill(0, 5, 0));
        Check.is("at another machine", 1, x.fill(1, 5, 1));
        x.payEnd(0);
        Check.is("behind payEnd", 4, x.fill(0, 5, 1));
        x.payBegin(1, 0, 0);
        x.payBack(0);
        Check.is("behind payBack", 5, x.fill(0, 5, 1));
    }

    private static void box() {
        ParkOffice x = new ParkOffice();
        x.fill(1, 50, 500);
        Check.is("full", 500, x.box(1, 50));
        Check.is("another value", 0, x.box(1, 20));
        Check.is("the machine before", 0, x.box(0, 50));
        Check.is("the machine behind", 0, x.box(2, 50));
        x.fill(1, 50, -500);
        Check.is("empty", 0, x.box(1, 50));
    }

    private static void boxWithCoinsPutIn() {
        ParkOffice x = paying(100, 0, 2, 1, 0, 0, 0);
        Check.is("before", 2, x.box(0, 100));
        x.coin(0, 100);
        Check.is("with it", 3, x.box(0, 100));
        x.coin(0, 50);
        Check.is("with it", 2, x.box(0, 50));
        x.payEnd(0);
        Check.is("it stays in", 3, x.box(0, 100));
        Check.is("it came out as change", 1, x.box(0, 50));
    }

    // ---- promises 27 and 28 ----

    private static void row(String what, ParkOffice x, int i, int ticket, int minute, int amount) {
        Check.is(what + ": ticket", ticket, x.journal(i, 0));
        Check.is(what + ": minute", minute, x.journal(i, 1));
        Check.is(what + ": how much", amount, x.journal(i, 2));
    }

    private static void journal() {
        ParkOffice x = withCar();
        x.enter(1, 2, 0);
        x.payBegin(1, 0, 0);
        Check.is("0 is paid", 0, x.payEnd(0));
        row("that is none above 0", x, 0, -1, -1, -1);
        x.payBegin(1, 0, 10);
        x.payBegin(2, 1, 20);
        x.coin(1, 200);
        x.payEnd(1);
        row("one", x, 0, 2, 20, 200);
        x.coin(0, 100);
        x.payEnd(0);
        row("the first stays the first", x, 0, 2, 20, 200);
        row("what was paid second", x, 1, 1, 10, 100);
        row("no third", x, 2, -1, -1, -1);
    }

    /** As many payments as there are calls for, and the last of them. */
    private static void journalRow() {
        ParkOffice x = withCar();
        int many = 165;
        for (int i = 0; i < many; i++) {
            x.payBegin(1, 0, 60 * i + 1);
            x.coin(0, 100);
            x.payEnd(0);
        }
        row("the first", x, 0, 1, 1, 100);
        row("the last", x, many - 1, 1, 60 * many - 59, 100);
        Check.is("no more", -1, x.journal(many, 0));
        ParkOffice y = withCar();
        TicketTest.pay(y, 1, 10);
        y.lost(1, 0, 10);
        row("its ticket, though that is REPLACED", y, 0, 1, 10, 100);
    }

    private static void journalNone() {
        ParkOffice x = withCar();
        row("nothing was paid", x, 0, -1, -1, -1);
        x.payBegin(1, 0, 10);
        row("it has only begun", x, 0, -1, -1, -1);
        x.coin(0, 100);
        x.payEnd(0);
        for (int i : new int[] {-1, 1, 170, 171, 512, Integer.MAX_VALUE, Integer.MIN_VALUE}) {
            row("number " + i, x, i, ParkOffice.NONE, ParkOffice.NONE, ParkOffice.NONE);
        }
        Check.is("before the opening", ParkOffice.NONE, new ParkOffice().journal(0, 0));
    }

    private static void journalArguments() {
        Calls.argumentsOf(27);
        ParkOffice x = withCar();
        TicketTest.pay(x, 1, 10);
        for (int what : new int[] {-1, 3, Integer.MIN_VALUE, Integer.MAX_VALUE}) {
            Check.argument("of a payment that is there", () -> x.journal(0, what));
            Check.argument("of none such", () -> x.journal(-1, what));
        }
    }

    private static void takings() {
        ParkOffice x = withCar();
        Check.is("none", 0, x.takings(0, 200_000));
        x.enter(3, 2, 0);
        x.payBegin(1, 0, 10);
        x.fee(1, 20);
        x.coin(0, 200);
        x.coin(0, 100);
        x.payEnd(0);
        TicketTest.pay(x, 2, 30);
        Check.is("from that minute to itself", 100, x.takings(10, 10));
        Check.is("both with it", 500, x.takings(10, 30));
        Check.is("from a minute later on", 400, x.takings(11, 30));
        Check.is("up to a minute earlier", 100, x.takings(10, 29));
        Check.is("between them", 0, x.takings(11, 29));
        Check.is("all minutes", 500, x.takings(0, 200_000));
        Check.is("minutes to come", 0, x.takings(31, 200_000));
        ParkOffice y = Check.hourly();
        y.enter(0, 1, 199_999);
        TicketTest.pay(y, 1, 200_000);
        Check.is("the last minute", 100, y.takings(200_000, 200_000));
        Check.is("before the opening", 0, new ParkOffice().takings(0, 0));
    }

    private static void takingsArguments() {
        Calls.argumentsOf(28);
        ParkOffice x = withCar();
        x.fee(1, 100);
        Check.argument("a minute before", () -> x.takings(10, 9));
        Check.fine("the same minute", () -> x.takings(10, 10));
        Check.argument("the last before the first", () -> x.takings(200_000, 0));
    }
}
