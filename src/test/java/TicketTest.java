/** Promises 7 to 10, 23 and 24: cars come in, owe, leave, and lose their tickets. */
public final class TicketTest {
    public static void main(String[] args) {
        enter();
        enterWrong();
        enterFull();
        threeHundredTickets();
        fee();
        feeWrong();
        feeAfterPaying();
        leave();
        leaveWrong();
        minutesGoOn();
        lostWithPlate();
        lostWithPayments();
        lostWithContract();
        lostWithoutPlate();
        lostWrong();
        asking();
        Check.finish();
    }

    /** Pays just what is due at a minute, at machine 2. */
    static void pay(ParkOffice x, int ticket, int minute) {
        int rest = x.payBegin(ticket, 2, minute);
        for (int value : new int[] {200, 100, 50, 20, 10, 5}) {
            for (; rest >= value; rest -= value) {
                x.coin(2, value);
            }
        }
        Check.is("pay: no change", 0, x.payEnd(2));
    }

    private static void enter() {
        ParkOffice x = Check.hourly();
        Check.is("7: the first ticket", 1, x.enter(0, 1, 0));
        Check.is("7: the next", 2, x.enter(5, 1_000_000, 0));
        Check.is("7: lane 7", 3, x.enter(7, 5, 0));
        Check.is("7: lane 5 leads to zone 1", 1, x.occupied(1));
        Check.is("7: lane 7 leads to zone 3", 1, x.occupied(3));
        Check.is("7: inside in the same zone", 0, x.enter(4, 1, 3));
        Check.is("7: inside in another zone", 0, x.enter(2, 1, 3));
        Check.is("7: no ticket was lost by that", 4, x.enter(2, 2, 3));
    }

    private static void enterWrong() {
        ParkOffice x = Check.hourly();
        Check.argument("7: lane -1", () -> x.enter(-1, 1, 0));
        Check.argument("7: lane 8", () -> x.enter(8, 1, 0));
        Check.argument("7: plate 0", () -> x.enter(0, 0, 0));
        Check.argument("7: plate -1", () -> x.enter(0, -1, 0));
        Check.argument("7: plate 1,000,001", () -> x.enter(0, 1_000_001, 0));
        Check.argument("7: minute -1", () -> x.enter(0, 1, -1));
        Check.argument("7: minute 200,001", () -> x.enter(0, 1, 200_001));
        Check.is("7: nothing happened", 0, x.occupied(0));
        Check.is("7: the last minute", 1, x.enter(0, 1, 200_000));
        ParkOffice y = Check.hourlyShut();
        Check.state("7: not open", () -> y.enter(0, 1, 0));
        Check.argument("7: the argument wins", () -> y.enter(0, 0, 0));
    }

    private static void enterFull() {
        ParkOffice x = Check.hourlyShut();
        x.places(0, 2);
        x.open();
        x.enter(0, 1, 0);
        x.enter(0, 2, 0);
        Check.is("7: full", 0, x.enter(0, 3, 0));
        Check.is("7: another zone is not", 3, x.enter(1, 3, 0));
        x.lost(1, 0, 0);
        Check.is("7: a replaced ticket takes no place", 2, x.occupied(0));
        x.leave(2, 0);
        x.lost(0, 0, 0);
        Check.is("7: nor does a lost one without a plate", 6, x.enter(0, 4, 0));
        Check.is("7: full again", 0, x.enter(0, 5, 0));
    }

    private static void threeHundredTickets() {
        ParkOffice x = Check.hourly();
        x.enter(0, 1, 0);
        for (int i = 2; i < 300; i++) {
            x.lost(0, 1, 0);
        }
        Check.is("7: ticket 300", 300, x.enter(0, 2, 5));
        Check.state("7: no more", () -> x.enter(0, 3, 6));
        Check.state("7: not even where the answer is 0", () -> x.enter(0, 2, 6));
        Check.state("10: no more", () -> x.lost(0, 0, 6));
        Check.state("10: not even for a plate inside", () -> x.lost(1, 0, 6));
        Check.argument("7: the argument wins", () -> x.enter(0, 3, 4));
        Check.argument("10: the argument wins", () -> x.lost(0, 4, 6));
        Check.is("10: ticket 1 stays", 1, x.inside(1));
        Check.is("8: the latest minute is still 5", 100, x.fee(300, 6));
    }

    private static void fee() {
        ParkOffice x = Check.hourly();
        int first = x.enter(0, 1, 10);
        int second = x.enter(2, 2, 10);
        Check.is("8: no time, no fee", 0, x.fee(first, 10));
        Check.is("8: a minute", 100, x.fee(first, 11));
        Check.is("8: another zone", 300, x.fee(second, 11));
        Check.is("8: an hour", 100, x.fee(first, 70));
        Check.is("8: and a minute", 200, x.fee(first, 71));
        Check.is("8: three days are 72 hours", 7200, x.fee(first, 4330));
        Check.is("8: and a minute of the next three", 7300, x.fee(first, 4331));
        Check.is("8: all the minutes", 100 * 3334, x.fee(first, 200_000));
    }

    private static void feeWrong() {
        ParkOffice x = Check.hourly();
        int ticket = x.enter(0, 1, 10);
        x.enter(0, 2, 20);
        Check.argument("8: ticket 0", () -> x.fee(0, 30));
        Check.argument("8: ticket -1", () -> x.fee(-1, 30));
        Check.argument("8: ticket 3", () -> x.fee(3, 30));
        Check.argument("8: too early", () -> x.fee(ticket, 19));
        Check.argument("8: too late", () -> x.fee(ticket, 200_001));
        Check.fine("8: the latest minute", () -> x.fee(ticket, 20));
        x.lost(1, 0, 20);
        Check.state("8: replaced", () -> x.fee(ticket, 20));
        Check.argument("8: the argument wins", () -> x.fee(ticket, 19));
        Check.yes("9: no time, no fee", x.leave(x.enter(1, 9, 20), 20));
        Check.state("8: gone", () -> x.fee(4, 20));
    }

    private static void feeAfterPaying() {
        ParkOffice x = Check.hourly();
        int ticket = x.enter(0, 1, 0);
        pay(x, ticket, 50);
        Check.is("8: what was paid for lasts", 0, x.fee(ticket, 60));
        Check.is("8: 15 minutes behind", 0, x.fee(ticket, 65));
        Check.is("8: 16 minutes behind", 100, x.fee(ticket, 66));
        x.payBegin(ticket, 0, 66);
        x.coin(0, 50);
        x.payEnd(0);
        Check.is("8: what failed is no payment", 100, x.fee(ticket, 66));
        pay(x, ticket, 70);
        pay(x, ticket, 80);
        Check.is("8: a payment of 0 does not move the 15 minutes", 0, x.fee(ticket, 120));
        Check.is("8: both payments count", 100, x.fee(ticket, 121));
        pay(x, ticket, 121);
        Check.is("8: from payBegin's minute on", 0, x.fee(ticket, 136));
        x.payBegin(ticket, 0, 170);
        x.fee(ticket, 190);
        x.payEnd(0);
        pay(x, ticket, 190);
        Check.is("8: paid up to 240", 0, x.fee(ticket, 240));
        Check.is("8: and no further", 100, x.fee(ticket, 241));
    }

    private static void leave() {
        ParkOffice x = Check.hourly();
        int ticket = x.enter(0, 1, 0);
        Check.no("9: it owes", x.leave(ticket, 1));
        Check.is("9: so it is inside", ticket, x.inside(1));
        Check.is("9: and takes its place", 1, x.occupied(0));
        pay(x, ticket, 50);
        Check.yes("9: paid", x.leave(ticket, 65));
        Check.is("9: outside", 0, x.inside(1));
        Check.is("9: its place is free", 0, x.occupied(0));
        Check.state("9: gone", () -> x.leave(ticket, 65));
        Check.is("9: it may come again", 2, x.enter(0, 1, 65));
        Check.state("9: the old ticket stays gone", () -> x.fee(ticket, 65));
    }

    private static void leaveWrong() {
        ParkOffice x = Check.hourly();
        int ticket = x.enter(0, 1, 10);
        Check.argument("9: ticket 0", () -> x.leave(0, 10));
        Check.argument("9: ticket 2", () -> x.leave(2, 10));
        Check.argument("9: too early", () -> x.leave(ticket, 9));
        Check.argument("9: too late", () -> x.leave(ticket, 200_001));
        x.payBegin(ticket, 1, 10);
        Check.state("9: being paid", () -> x.leave(ticket, 10));
        Check.argument("9: the argument wins", () -> x.leave(ticket, 9));
        Check.fine("8: a fee may be asked for meanwhile", () -> x.fee(ticket, 10));
        x.payBack(1);
        x.lost(1, 0, 10);
        Check.state("9: replaced", () -> x.leave(ticket, 10));
    }

    private static void minutesGoOn() {
        ParkOffice x = Check.hourlyShut();
        x.places(0, 1);
        x.open();
        x.enter(0, 1, 10);
        Check.is("Terms: a call that answers 0 counts", 0, x.enter(0, 2, 20));
        Check.argument("Terms: so this is too early", () -> x.enter(1, 3, 19));
        x.leave(1, 30);
        Check.argument("Terms: behind a leave that was none", () -> x.enter(1, 3, 29));
        x.fee(1, 35);
        Check.argument("Terms: behind fee", () -> x.enter(1, 3, 34));
        x.lost(0, 0, 40);
        Check.argument("Terms: behind lost", () -> x.fee(1, 39));
        x.payBegin(1, 0, 50);
        Check.argument("Terms: behind payBegin", () -> x.lost(0, 0, 49));
        Check.argument("Terms: payBegin itself", () -> x.payBegin(2, 1, 49));
        Check.state("Terms: a call that throws does not count", () -> x.leave(1, 900));
        x.reserve(0, 0, 1000, 2000);
        x.least(0, 3000, 3100);
        x.best(0, 3000, 3100, 0);
        x.takings(4000, 4100);
        Check.is("Terms: nor do these", 3, x.enter(1, 3, 50));
        Check.fine("Terms: they may be earlier", () -> x.least(0, 0, 0));
        Check.fine("Terms: they may be earlier", () -> x.best(0, 0, 0, 0));
        Check.fine("Terms: they may be earlier", () -> x.takings(0, 0));
    }

    private static void lostWithPlate() {
        ParkOffice x = Check.hourly();
        int old = x.enter(0, 1, 0);
        int made = x.lost(1, 3, 90);
        Check.is("10: the next number", 2, made);
        Check.state("10: the old one is replaced", () -> x.fee(old, 90));
        Check.is("10: its zone and beginning", 200, x.fee(made, 90));
        Check.is("10: it is inside with the new one", made, x.inside(1));
        Check.is("10: its place", 1, x.occupied(0));
        Check.is("10: not the zone told", 0, x.occupied(3));
        Check.is("10: again", 3, x.lost(1, 3, 100));
        Check.state("10: that one is replaced too", () -> x.fee(made, 100));
        Check.is("10: still from the beginning on", 300, x.fee(3, 121));
        Check.is("10: it goes on growing", 7300, x.fee(3, 4321));
    }

    private static void lostWithPayments() {
        ParkOffice x = Check.hourly();
        int old = x.enter(0, 1, 0);
        pay(x, old, 58);
        int made = x.lost(1, 0, 59);
        Check.is("10: the 15 minutes come along", 0, x.fee(made, 73));
        Check.is("10: and the payments", 100, x.fee(made, 74));
        pay(x, made, 74);
        Check.is("10: the old payment is the old ticket's", old, x.journal(0, 0));
        Check.is("10: the new one the new ticket's", made, x.journal(1, 0));
        Check.yes("10: it leaves", x.leave(made, 89));
        Check.is("10: outside", 0, x.inside(1));
    }

    private static void lostWithContract() {
        ParkOffice x = Check.hourly();
        x.contract(0, 0, 1);
        x.plate(0, 1);
        x.plate(0, 2);
        x.enter(0, 1, 0);
        int made = x.lost(1, 0, 100);
        Check.is("10: under the contract", 0, x.fee(made, 100));
        Check.is("10: it counts for it", 100, x.fee(x.enter(0, 2, 100), 101));
        Check.state("10: also for a contract told anew", () -> x.contract(0, 0, 2));
        Check.yes("10: it leaves", x.leave(made, 5000));
        Check.fine("10: and counts no more", () -> x.contract(0, 0, 2));
    }

    private static void lostWithoutPlate() {
        ParkOffice x = Check.hourlyShut();
        x.free(1, 20);
        x.product(9, 1000, 720, 1);
        x.open();
        Check.is("10: the plate was not read", 1, x.lost(0, 1, 100));
        Check.is("10: at once all of three days", 6000, x.fee(1, 100));
        Check.is("10: for ever", 6000, x.fee(1, 100_000));
        x.enter(2, 7, 100_000);
        pay(x, 2, 100_000);
        Check.yes("9: plate 7 leaves", x.leave(2, 100_000));
        int made = x.lost(7, 0, 100_000);
        Check.is("10: the plate is not inside: the zone told", 7200, x.fee(made, 100_000));
        Check.is("10: no plate", 0, x.inside(7));
        Check.is("10: no place", 0, x.occupied(0));
        Check.is("10: the plate may enter", made + 1, x.enter(0, 7, 100_000));
        Check.no("9: it owes", x.leave(made, 100_000));
        pay(x, made, 100_000);
        Check.is("10: nothing is left to pay", 0, x.fee(made, 200_000));
        Check.yes("9: it leaves", x.leave(made, 200_000));
        Check.is("9: the plate that came in stays", made + 1, x.inside(7));
        int last = x.lost(0, 0, 200_000);
        Check.is("10: the three days may go beyond the last minute", 7200, x.fee(last, 200_000));
        x.contract(0, 0, 1);
        x.plate(0, 8);
        Check.is("10: no contract for a plate outside", 7200, x.fee(x.lost(8, 0, 200_000), 200_000));
    }

    private static void lostWrong() {
        ParkOffice x = Check.hourly();
        int ticket = x.enter(0, 1, 10);
        Check.argument("10: plate -1", () -> x.lost(-1, 0, 10));
        Check.argument("10: plate 1,000,001", () -> x.lost(1_000_001, 0, 10));
        Check.argument("10: zone -1", () -> x.lost(1, -1, 10));
        Check.argument("10: zone 4", () -> x.lost(1, 4, 10));
        Check.argument("10: too early", () -> x.lost(1, 0, 9));
        Check.argument("10: too late", () -> x.lost(1, 0, 200_001));
        x.payBegin(ticket, 0, 10);
        Check.state("10: being paid", () -> x.lost(1, 0, 10));
        Check.is("10: nothing happened", ticket, x.inside(1));
        Check.is("10: another one is not", 2, x.lost(2, 0, 10));
        x.payEnd(0);
        Check.is("10: no more being paid", 3, x.lost(1, 0, 10));
        ParkOffice y = Check.hourlyShut();
        Check.state("10: not open", () -> y.lost(0, 0, 0));
        Check.argument("10: the argument wins", () -> y.lost(0, 4, 0));
    }

    private static void asking() {
        ParkOffice x = Check.hourly();
        Check.argument("23: zone -1", () -> x.occupied(-1));
        Check.argument("23: zone 4", () -> x.occupied(4));
        Check.argument("24: plate 0", () -> x.inside(0));
        Check.argument("24: plate 1,000,001", () -> x.inside(1_000_001));
        x.enter(0, 1, 0);
        x.enter(4, 2, 0);
        x.enter(1, 3, 0);
        Check.is("23: two", 2, x.occupied(0));
        Check.is("23: one", 1, x.occupied(1));
        Check.is("23: none", 0, x.occupied(2));
        Check.is("24: ticket 2", 2, x.inside(2));
        Check.is("24: none", 0, x.inside(4));
        x.lost(0, 1, 0);
        Check.is("23: a lost one has no plate", 1, x.occupied(1));
        ParkOffice y = new ParkOffice();
        Check.is("23: also before the opening", 0, y.occupied(3));
        Check.is("24: also before the opening", 0, y.inside(1_000_000));
    }
}
