/** Promises 16 to 22, 27 and 28: paying, change, boxes, and what was paid. */
public final class MachineTest {
    private static final int[] COINS = {200, 100, 50, 20, 10, 5};

    public static void main(String[] args) {
        payBegin();
        payBeginWrong();
        coin();
        coinLimits();
        payEnd();
        payEndWithoutChange();
        payEndWrong();
        payBack();
        fill();
        boxAndChangeWrong();
        changeByHand();
        changeAgainstAllWays();
        mostChange();
        journal();
        takings();
        Check.finish();
    }

    /** An open office with plate 1 inside since minute 0, with ticket 1; zone 0 costs 100 an hour. */
    private static ParkOffice withCar() {
        ParkOffice x = Check.hourly();
        x.enter(0, 1, 0);
        return x;
    }

    private static void payBegin() {
        ParkOffice x = withCar();
        Check.is("16: the fee", 200, x.payBegin(1, 2, 90));
        Check.state("16: the machine is taken", () -> x.payBegin(x.enter(0, 2, 90), 2, 90));
        Check.state("16: being paid elsewhere", () -> x.payBegin(1, 0, 90));
        Check.state("16: being paid there", () -> x.payBegin(1, 2, 90));
        Check.is("16: another at another machine", 0, x.payBegin(2, 0, 90));
        x.payBack(2);
        Check.is("16: again", 300, x.payBegin(1, 1, 121));
    }

    private static void payBeginWrong() {
        ParkOffice x = withCar();
        Check.argument("16: ticket 0", () -> x.payBegin(0, 0, 10));
        Check.argument("16: ticket 2", () -> x.payBegin(2, 0, 10));
        Check.argument("16: machine -1", () -> x.payBegin(1, -1, 10));
        Check.argument("16: machine 3", () -> x.payBegin(1, 3, 10));
        Check.argument("16: minute -1", () -> x.payBegin(1, 0, -1));
        Check.argument("16: minute 200,001", () -> x.payBegin(1, 0, 200_001));
        x.lost(1, 0, 10);
        Check.state("16: replaced", () -> x.payBegin(1, 0, 10));
        Check.argument("16: too early wins", () -> x.payBegin(1, 0, 9));
        x.enter(0, 2, 10);
        x.leave(3, 10);
        Check.state("16: gone", () -> x.payBegin(3, 0, 10));
        Check.state("17: nothing began", () -> x.coin(0, 5));
    }

    private static void coin() {
        ParkOffice x = withCar();
        Check.state("17: nothing is being paid", () -> x.coin(0, 5));
        x.payBegin(1, 0, 10);
        int sum = 0;
        for (int value : COINS) {
            sum += value;
            Check.is("17: what has been put in", sum, x.coin(0, value));
            Check.is("22: also those put in", 1, x.box(0, value));
        }
        for (int value : new int[] {-5, 0, 1, 2, 25, 500, Integer.MIN_VALUE}) {
            Check.argument("17: no coin", () -> x.coin(0, value));
        }
        Check.argument("17: machine -1", () -> x.coin(-1, 5));
        Check.argument("17: machine 3", () -> x.coin(3, 5));
        Check.state("17: not at another machine", () -> x.coin(1, 5));
        Check.argument("17: the argument wins", () -> x.coin(1, 1));
        Check.is("17: more than the fee", 585, x.coin(0, 200));
        x.payBack(0);
        Check.state("17: stopped", () -> x.coin(0, 5));
        x.payBegin(1, 0, 10);
        Check.is("17: from 0 on again", 20, x.coin(0, 20));
    }

    private static void coinLimits() {
        ParkOffice x = withCar();
        x.fill(0, 50, 499);
        x.payBegin(1, 0, 10);
        Check.is("17: the 500th of it", 50, x.coin(0, 50));
        Check.state("17: the box is full", () -> x.coin(0, 50));
        Check.is("17: another coin goes in", 70, x.coin(0, 20));
        for (int i = 2; i < 200; i++) {
            x.coin(0, i % 2 == 0 ? 5 : 10);
        }
        Check.state("17: 200 coins were put in", () -> x.coin(0, 200));
        Check.is("22: nothing went in", 0, x.box(0, 200));
        Check.is("19: two hundred coins", 70 + 99 * 15, x.payBack(0));
        x.payBegin(1, 0, 10);
        Check.is("17: counted anew", 5, x.coin(0, 5));
    }

    private static void payEnd() {
        ParkOffice x = withCar();
        x.fill(0, 20, 3);
        x.fill(0, 50, 1);
        x.payBegin(1, 0, 20);
        x.coin(0, 100);
        x.coin(0, 50);
        x.coin(0, 20);
        Check.is("18: the change", 70, x.payEnd(0));
        Check.is("20: a 50", 1, x.changeCoins(0, 50));
        Check.is("20: a 20", 1, x.changeCoins(0, 20));
        Check.is("20: no 100", 0, x.changeCoins(0, 100));
        Check.is("22: a 50 is left", 1, x.box(0, 50));
        Check.is("22: three 20s are left", 3, x.box(0, 20));
        Check.is("22: the 100 stays", 1, x.box(0, 100));
        Check.is("18: it was paid", 0, x.fee(1, 60));
        Check.is("18: only the fee was", 100, x.fee(1, 61));
        Check.is("18: the machine is free", 100, x.payBegin(1, 0, 61));
        Check.is("20: still the last one's", 1, x.changeCoins(0, 50));
        x.coin(0, 100);
        Check.is("18: no change", 0, x.payEnd(0));
        Check.is("20: nothing came out", 0, x.changeCoins(0, 50));
        Check.yes("9: it leaves", x.leave(1, 76));
    }

    private static void payEndWithoutChange() {
        ParkOffice x = withCar();
        x.fill(0, 50, 4);
        x.payBegin(1, 0, 20);
        x.coin(0, 50);
        x.coin(0, 20);
        x.coin(0, 20);
        x.coin(0, 5);
        Check.is("18: too little", -1, x.payEnd(0));
        Check.is("20: they come out", 2, x.changeCoins(0, 20));
        Check.is("20: they come out", 1, x.changeCoins(0, 50));
        Check.is("22: the box is as before", 4, x.box(0, 50));
        Check.is("22: the box is as before", 0, x.box(0, 20));
        Check.state("18: nothing is being paid", () -> x.payEnd(0));
        x.payBegin(1, 0, 20);
        x.coin(0, 100);
        x.coin(0, 20);
        x.coin(0, 10);
        x.fill(1, 5, 10);
        Check.is("18: 30 can be given from these coins", 30, x.payEnd(0));
        x.payBegin(1, 0, 61);
        x.coin(0, 200);
        x.fee(1, 61);
        Check.is("18: 100 in 50s, or the 100", 100, x.payEnd(0));
        Check.is("20: the 100", 1, x.changeCoins(0, 100));
        x.fill(0, 50, -1);
        x.payBegin(1, 0, 121);
        x.coin(0, 200);
        Check.is("18: 100 in 50s", 100, x.payEnd(0));
        Check.is("20: two of them", 2, x.changeCoins(0, 50));
        x.fill(0, 50, -1);
        x.payBegin(1, 0, 181);
        x.coin(0, 200);
        Check.is("18: 100 can't be given", -1, x.payEnd(0));
        Check.is("20: the 200 comes out", 1, x.changeCoins(0, 200));
        Check.is("20: no 100", 0, x.changeCoins(0, 100));
        Check.is("18: it was not paid", 100, x.fee(1, 181));
    }

    private static void payEndWrong() {
        ParkOffice x = withCar();
        Check.argument("18: machine -1", () -> x.payEnd(-1));
        Check.argument("18: machine 3", () -> x.payEnd(3));
        Check.state("18: nothing is being paid", () -> x.payEnd(2));
        x.payBegin(1, 1, 10);
        Check.state("18: not at that machine", () -> x.payEnd(2));
        Check.is("18: nothing put in, something due", -1, x.payEnd(1));
        Check.is("16: it may be paid elsewhere now", 100, x.payBegin(1, 2, 10));
    }

    private static void payBack() {
        ParkOffice x = withCar();
        Check.argument("19: machine -1", () -> x.payBack(-1));
        Check.argument("19: machine 3", () -> x.payBack(3));
        Check.state("19: nothing is being paid", () -> x.payBack(0));
        x.fill(0, 200, 7);
        x.payBegin(1, 0, 10);
        Check.is("19: nothing was put in", 0, x.payBack(0));
        x.payBegin(1, 0, 10);
        x.coin(0, 100);
        x.coin(0, 50);
        x.coin(0, 50);
        Check.is("19: what comes out", 200, x.payBack(0));
        Check.is("20: the very coins", 1, x.changeCoins(0, 100));
        Check.is("20: the very coins", 2, x.changeCoins(0, 50));
        Check.is("20: not one for the three", 0, x.changeCoins(0, 200));
        Check.is("20: not at another machine", 0, x.changeCoins(1, 50));
        Check.is("22: out of the box", 0, x.box(0, 50));
        Check.is("19: no payment", 100, x.fee(1, 10));
        Check.is("27: no payment", -1, x.journal(0, 0));
        Check.state("19: it was stopped", () -> x.payBack(0));
    }

    private static void fill() {
        ParkOffice x = new ParkOffice();
        Check.is("21: in", 500, x.fill(0, 5, 500));
        Check.state("21: 501", () -> x.fill(0, 5, 1));
        Check.is("21: none", 500, x.fill(0, 5, 0));
        Check.is("21: out", 100, x.fill(0, 5, -400));
        Check.state("21: less than 0", () -> x.fill(0, 5, -101));
        Check.is("21: all out", 0, x.fill(0, 5, -100));
        Check.state("21: a great number", () -> x.fill(0, 5, Integer.MAX_VALUE));
        Check.state("21: a small number", () -> x.fill(0, 5, Integer.MIN_VALUE));
        x.fill(0, 5, 100);
        Check.state("21: a great number", () -> x.fill(0, 5, Integer.MAX_VALUE));
        Check.state("21: a small number", () -> x.fill(0, 5, Integer.MIN_VALUE));
        Check.is("22: still 100", 100, x.box(0, 5));
        Check.is("22: another coin", 0, x.box(0, 10));
        Check.is("22: another machine", 0, x.box(1, 5));
        Check.argument("21: machine -1", () -> x.fill(-1, 5, 1));
        Check.argument("21: machine 3", () -> x.fill(3, 5, 1));
        Check.argument("21: no coin", () -> x.fill(0, 15, 1));
        Check.argument("21: the argument wins", () -> x.fill(0, 1, 501));
        ParkOffice y = withCar();
        y.payBegin(1, 1, 0);
        Check.state("21: something is being paid there", () -> y.fill(1, 5, 1));
        Check.state("21: not even none", () -> y.fill(1, 5, 0));
        Check.is("21: not here", 1, y.fill(0, 5, 1));
        y.payEnd(1);
        Check.is("21: no more", 1, y.fill(1, 5, 1));
    }

    private static void boxAndChangeWrong() {
        ParkOffice x = new ParkOffice();
        Check.argument("20: machine -1", () -> x.changeCoins(-1, 5));
        Check.argument("20: machine 3", () -> x.changeCoins(3, 5));
        Check.argument("20: no coin", () -> x.changeCoins(0, 0));
        Check.argument("22: machine -1", () -> x.box(-1, 5));
        Check.argument("22: machine 3", () -> x.box(3, 5));
        Check.argument("22: no coin", () -> x.box(0, 1));
    }

    private static void changeByHand() {
        same("18: 60 as 50 and 10", new int[] {0, 0, 1, 0, 1, 0}, change(60, 0, 0, 1, 3, 1, 0));
        same("18: 60 as three 20s", new int[] {0, 0, 0, 3, 0, 0}, change(60, 0, 0, 1, 3, 0, 1));
        same("18: as many coins, more of 50", new int[] {0, 0, 1, 0, 0, 2}, change(60, 0, 0, 1, 3, 0, 2));
        same("18: 80 as four 20s", new int[] {0, 0, 0, 4, 0, 0}, change(80, 0, 0, 1, 4, 0, 1));
        same("18: four coins too, more of 50", new int[] {0, 0, 1, 1, 0, 2}, change(80, 0, 0, 1, 4, 0, 5));
        same("18: 160 without 10s", new int[] {0, 1, 0, 3, 0, 0}, change(160, 0, 1, 1, 3, 0, 0));
        same("18: no way", null, change(60, 5, 5, 5, 2, 0, 1));
        same("18: nothing to give", new int[6], change(0, 1, 1, 1, 1, 1, 1));
    }

    private static void changeAgainstAllWays() {
        java.util.Random random = new java.util.Random(7);
        for (int i = 0; i < 3000; i++) {
            int most = i < 2500 ? 6 : 34;
            int[] stock = new int[6];
            int sumOfStock = 0;
            for (int kind = 0; kind < 6; kind++) {
                stock[kind] = random.nextInt(3) == 0 ? 0 : random.nextInt(most);
                sumOfStock += stock[kind] * COINS[kind];
            }
            int sum = 5 * random.nextInt(sumOfStock / 5 + 1);
            same("18: " + sum + " from " + java.util.Arrays.toString(stock), leastWay(sum, stock),
                    change(sum, stock));
        }
    }

    private static void same(String what, int[] due, int[] got) {
        Check.yes(what + ": due is " + java.util.Arrays.toString(due) + ", not " + java.util.Arrays.toString(got),
                java.util.Arrays.equals(due, got));
    }

    /**
     * What comes out for a sum from a box with just these coins of 200, 100, 50, 20, 10, 5; null if the
     * sum can't be given. All the coins are put in, for a fee that leaves the sum.
     */
    private static int[] change(int sum, int... stock) {
        int putIn = 0;
        for (int kind = 0; kind < 6; kind++) {
            putIn += stock[kind] * COINS[kind];
        }
        ParkOffice x = Check.hourlyShut();
        x.product(0, putIn - sum, 60, 0);
        x.open();
        x.enter(0, 1, 0);
        x.payBegin(1, 0, 1);
        for (int kind = 0; kind < 6; kind++) {
            for (int i = 0; i < stock[kind]; i++) {
                x.coin(0, COINS[kind]);
            }
        }
        int answer = x.payEnd(0);
        int[] out = new int[6];
        for (int kind = 0; kind < 6; kind++) {
            out[kind] = x.changeCoins(0, COINS[kind]);
            Check.is("22: what came out is gone", stock[kind] - out[kind], x.box(0, COINS[kind]));
            if (answer == -1) {
                Check.is("18: what was put in comes out", stock[kind], out[kind]);
            }
        }
        Check.is("18: the change, or NONE", answer == -1 ? -1 : sum, answer);
        return answer == -1 ? null : out;
    }

    private static int[] leastWay(int sum, int[] stock) {
        int[][] fewest = new int[7][sum + 1];
        java.util.Arrays.fill(fewest[6], 1, sum + 1, 1_000_000);
        for (int kind = 5; kind >= 0; kind--) {
            for (int amount = 0; amount <= sum; amount++) {
                fewest[kind][amount] = 1_000_000;
                for (int n = 0; n <= stock[kind] && n * COINS[kind] <= amount; n++) {
                    fewest[kind][amount] =
                            Math.min(fewest[kind][amount], n + fewest[kind + 1][amount - n * COINS[kind]]);
                }
            }
        }
        if (fewest[0][sum] >= 1_000_000) {
            return null;
        }
        int[] way = new int[6];
        int rest = sum;
        for (int kind = 0; kind < 6; kind++) {
            int n = Math.min(stock[kind], rest / COINS[kind]);
            while (n + fewest[kind + 1][rest - n * COINS[kind]] != fewest[kind][rest]) {
                n--;
            }
            way[kind] = n;
            rest -= n * COINS[kind];
        }
        return way;
    }

    private static void mostChange() {
        ParkOffice x = withCar();
        for (int value : COINS) {
            x.fill(0, value, value == 200 ? 300 : 500);
        }
        x.payBegin(1, 0, 0);
        for (int i = 0; i < 200; i++) {
            x.coin(0, 200);
        }
        Check.is("18: nothing due, all of it back", 40_000, x.payEnd(0));
        Check.is("20: 200 of 200", 200, x.changeCoins(0, 200));
        x.fill(0, 200, -300);
        x.payBegin(1, 0, 0);
        x.fee(1, 0);
        for (int i = 0; i < 199; i++) {
            x.coin(0, 200);
        }
        x.payBack(0);
        x.fill(0, 100, -1);
        x.payBegin(1, 0, 0);
        x.coin(0, 100);
        Check.is("18: the 500th coin", 100, x.payEnd(0));
    }

    private static void journal() {
        ParkOffice x = withCar();
        x.enter(1, 2, 0);
        x.payBegin(1, 0, 10);
        x.payBegin(2, 1, 20);
        x.coin(1, 200);
        x.payEnd(1);
        x.coin(0, 100);
        x.payEnd(0);
        x.payBegin(1, 0, 20);
        x.payEnd(0);
        TicketTest.pay(x, 2, 61);
        row("27: what was paid first", x, 0, 2, 20, 200);
        row("27: what began first", x, 1, 1, 10, 100);
        row("27: a payment of 0 is none of them", x, 2, 2, 61, 200);
        row("27: none such", x, 3, -1, -1, -1);
        row("27: none such", x, -1, -1, -1, -1);
        row("27: none such", x, Integer.MAX_VALUE, -1, -1, -1);
        row("27: none such", x, Integer.MIN_VALUE, -1, -1, -1);
        Check.argument("27: what -1", () -> x.journal(0, -1));
        Check.argument("27: what 3", () -> x.journal(0, 3));
        Check.argument("27: what 3, of none such", () -> x.journal(-1, 3));
    }

    private static void row(String what, ParkOffice x, int i, int ticket, int minute, int amount) {
        Check.is(what + ": ticket", ticket, x.journal(i, 0));
        Check.is(what + ": minute", minute, x.journal(i, 1));
        Check.is(what + ": how much", amount, x.journal(i, 2));
    }

    private static void takings() {
        ParkOffice x = withCar();
        x.enter(3, 2, 0);
        x.payBegin(1, 0, 10);
        x.fee(1, 30);
        x.coin(0, 100);
        x.payEnd(0);
        TicketTest.pay(x, 2, 40);
        Check.is("28: all", 500, x.takings(0, 200_000));
        Check.is("28: payBegin's minute, both with it", 100, x.takings(10, 10));
        Check.is("28: up to it", 100, x.takings(0, 10));
        Check.is("28: from it on", 500, x.takings(10, 40));
        Check.is("28: behind it", 400, x.takings(11, 40));
        Check.is("28: before it", 0, x.takings(11, 39));
        Check.argument("28: to before from", () -> x.takings(11, 10));
        Check.argument("28: from -1", () -> x.takings(-1, 10));
        Check.argument("28: to 200,001", () -> x.takings(0, 200_001));
        Check.is("28: before the opening", 0, new ParkOffice().takings(0, 0));
    }
}
