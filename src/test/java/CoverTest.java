/** Promises 25 and 26, and CHARGE: covers worked out by hand from the document's words. */
public final class CoverTest {
    public static void main(String[] args) {
        wrong();
        empty();
        leastPrice();
        fewestProducts();
        leastNumbers();
        freeFirst();
        freeOrNumber();
        latestMinuteInHours();
        notBeforeTheStay();
        endsLater();
        hoursOverTheWeek();
        neverBeginning();
        longest();
        manyProducts();
        chargeInPieces();
        asksInTurn();
        Check.finish();
    }

    private static void row(String what, ParkOffice x, int zone, int from, int to, int price, int... products) {
        Check.is("25: " + what, price, x.least(zone, from, to));
        for (int i = 0; i < products.length; i++) {
            Check.is("26: " + what + ", product " + i, products[i], x.best(zone, from, to, i));
        }
        Check.is("26: " + what + ", no more", -1, x.best(zone, from, to, products.length));
    }

    private static void wrong() {
        ParkOffice x = Check.hourly();
        Check.argument("25: zone -1", () -> x.least(-1, 0, 1));
        Check.argument("25: zone 4", () -> x.least(4, 0, 1));
        Check.argument("25: from -1", () -> x.least(0, -1, 1));
        Check.argument("25: to 200,001", () -> x.least(0, 200_000, 200_001));
        Check.argument("25: to before from", () -> x.least(0, 10, 9));
        Check.argument("25: 4321 minutes", () -> x.least(0, 10, 4331));
        Check.argument("26: zone -1", () -> x.best(-1, 0, 1, 0));
        Check.argument("26: zone 4", () -> x.best(4, 0, 1, 0));
        Check.argument("26: from -1", () -> x.best(0, -1, 1, 0));
        Check.argument("26: to 200,001", () -> x.best(0, 200_000, 200_001, 0));
        Check.argument("26: to before from", () -> x.best(0, 10, 9, 0));
        Check.argument("26: 4321 minutes", () -> x.best(0, 10, 4331, 0));
        Check.argument("25: far apart", () -> x.least(0, Integer.MIN_VALUE, Integer.MAX_VALUE));
        for (int none : new int[] {-1, Integer.MIN_VALUE, 1, Integer.MAX_VALUE}) {
            Check.is("26: none such", -1, x.best(0, 0, 60, none));
        }
        ParkOffice y = Check.hourlyShut();
        Check.state("25: not open", () -> y.least(0, 0, 1));
        Check.state("26: not open", () -> y.best(0, 0, 1, 0));
        Check.argument("25: the argument wins", () -> y.least(0, 1, 0));
        Check.argument("26: the argument wins", () -> y.best(0, 1, 0, 0));
    }

    private static int[] hoursOf(int id, int many) {
        int[] row = new int[many];
        java.util.Arrays.fill(row, id);
        return row;
    }

    private static void empty() {
        ParkOffice x = Check.hourly();
        row("no minutes", x, 0, 0, 0, 0);
        row("no minutes", x, 3, 200_000, 200_000, 0);
        row("a minute", x, 0, 199_999, 200_000, 100, 0);
        row("an hour", x, 2, 30, 90, 300, 2);
        row("and a minute", x, 2, 30, 91, 600, 2, 2);
    }

    private static ParkOffice with(int[]... products) {
        ParkOffice x = Check.hourlyShut();
        for (int[] p : products) {
            x.product(p[0], p[1], p[2], 0);
            if (p.length > 3) {
                x.hours(p[0], p[3], p[4]);
            }
        }
        x.open();
        return x;
    }

    private static void leastPrice() {
        ParkOffice x = with(new int[] {5, 160, 120}, new int[] {6, 210, 200});
        row("an hour", x, 0, 0, 60, 100, 0);
        row("two hours", x, 0, 0, 61, 160, 5);
        row("dearer, but longer", x, 0, 0, 121, 210, 6);
        row("four products would do, two are cheaper", x, 0, 0, 240, 310, 0, 6);
    }

    private static void fewestProducts() {
        ParkOffice x = with(new int[] {5, 200, 120}, new int[] {4, 50, 20});
        row("one for 200, not two for 100", x, 0, 0, 120, 200, 5);
        row("60 for 100, not twice 20 for 50", x, 0, 0, 40, 100, 0);
        row("20 for 50", x, 0, 0, 20, 50, 4);
        row("80: 60 and 20", x, 0, 0, 80, 150, 0, 4);
    }

    private static void leastNumbers() {
        ParkOffice x = with(new int[] {8, 100, 60}, new int[] {7, 100, 60});
        row("the lesser number each time", x, 0, 0, 180, 300, 0, 0, 0);
        ParkOffice y = with(new int[] {0, 50, 30}, new int[] {5, 80, 50}, new int[] {4, 80, 50});
        row("0 first, then 4", y, 0, 0, 80, 130, 0, 4);
        ParkOffice z = with(new int[] {0, 100, 30, 1, 0}, new int[] {9, 100, 60}, new int[] {10, 100, 60});
        row("9 where 0 may not begin, then 0", z, 0, 0, 90, 200, 9, 0);
    }

    private static void freeFirst() {
        ParkOffice x = Check.hourlyShut();
        x.free(0, 20);
        x.product(9, 30, 15, 0);
        x.open();
        row("only the free one", x, 0, 5, 25, 0, 24);
        row("then another", x, 0, 5, 26, 30, 24, 9);
        row("never twice", x, 0, 5, 45, 60, 24, 9, 9);
        row("the free one, then an hour", x, 0, 5, 85, 100, 24, 0);
        row("the free one is one product more", x, 0, 5, 65, 90, 24, 9, 9, 9);
    }

    private static void freeOrNumber() {
        ParkOffice x = Check.hourlyShut();
        x.free(0, 60);
        x.product(23, 0, 60, 0);
        x.product(22, 0, 30, 0);
        x.open();
        row("23 is less than the free one", x, 0, 0, 60, 0, 23);
        row("22 is less, and as good", x, 0, 0, 30, 0, 22);
        row("but fewer come first", x, 0, 0, 45, 0, 23);
        row("22 goes before 23", x, 0, 0, 90, 0, 22, 23);
        row("the free one only if it is needed", x, 0, 0, 120, 0, 23, 23);
        ParkOffice y = Check.hourlyShut();
        y.free(0, 61);
        y.product(23, 0, 60, 0);
        y.open();
        row("it is longer", y, 0, 0, 61, 0, 24);
        row("it is longer, but the second does as well", y, 0, 0, 120, 0, 23, 23);
        row("24 is the last of all numbers", y, 0, 0, 121, 0, 24, 23);
    }

    private static void latestMinuteInHours() {
        // 5 may begin in hour 0 alone, at minute 59 at the latest: then it ends at 359.
        ParkOffice x = with(new int[] {5, 100, 300, 0, 1});
        row("it begins at once", x, 0, 0, 300, 100, 5);
        row("an hour first, then from minute 59 on", x, 0, 0, 359, 200, 0, 5);
        row("that is too short for 360", x, 0, 0, 360, 200, 5, 0);
        row("behind 5, then an hour", x, 0, 0, 361, 300, 0, 5, 0);
    }

    private static void notBeforeTheStay() {
        ParkOffice x = with(new int[] {5, 100, 300, 0, 1});
        row("minute 59 is the first", x, 0, 59, 359, 100, 5);
        row("minute 59 may come second", x, 0, 59, 360, 200, 5, 0);
        row("minute 59 is over", x, 0, 60, 360, 500, 0, 0, 0, 0, 0);
        row("a week later it comes again", x, 0, 10_080 - 60, 10_080 + 300, 200, 0, 5);
    }

    private static void endsLater() {
        // 6 costs nothing, but begins at minute 59 at the latest, so nothing free goes beyond 74.
        ParkOffice x = with(new int[] {6, 0, 15, 0, 1});
        row("up to 74", x, 0, 0, 74, 0, 6, 6, 6, 6, 6);
        row("no second one from minute 59 on", x, 0, 0, 75, 100, 6, 0);
        row("100 minutes", x, 0, 0, 100, 100, 6, 6, 6, 0);
    }

    private static void hoursOverTheWeek() {
        ParkOffice x = with(new int[] {5, 100, 300, 160, 2});
        for (int week = 0; week < 19; week++) {
            int from = week * 10_080 + 10_050;
            if (from + 450 <= 200_000) {
                row("hours 160 .. 2: up to minute 119", x, 0, from, from + 449, 200, 5, 5);
                row("hours 160 .. 2: no further", x, 0, from, from + 450, 300, 5, 5, 0);
            }
        }
        ParkOffice y = with(new int[] {5, 100, 300, 167, 168});
        row("up to hour 167", y, 0, 10_020, 10_379, 200, 0, 5);
        row("not in hour 0", y, 0, 0, 61, 200, 0, 0);
        ParkOffice z = with(new int[] {5, 100, 300, 166, 0}, new int[] {6, 100, 300, 168, 1});
        row("hours 166 .. 0: its latest minute", z, 0, 10_020, 10_379, 200, 0, 5);
        row("hours 168 .. 1: its latest minute", z, 0, 0, 359, 200, 0, 6);
        ParkOffice w = with(new int[] {5, 0, 60, 3, 5});
        row("the last minute before its hours", w, 0, 179, 180, 100, 0);
        row("it may not begin there", w, 0, 179, 239, 100, 0);
        row("it follows", w, 0, 179, 240, 100, 0, 5);
    }

    private static void neverBeginning() {
        ParkOffice x = with(new int[] {5, 0, 4320, 168, 0});
        row("at the beginning of a week", x, 0, 0, 60, 100, 0);
        row("over the end of a week", x, 0, 10_000, 10_200, 400, 0, 0, 0, 0);
    }

    private static void longest() {
        ParkOffice x = with(new int[] {0, 20_000, 15});
        Check.is("25: the dearest stay", 288 * 20_000, x.least(0, 195_680, 200_000));
        Check.is("26: its last product", 0, x.best(0, 195_680, 200_000, 287));
        Check.is("26: no more", -1, x.best(0, 195_680, 200_000, 288));
        x.enter(0, 1, 0);
        Check.is("8: the dearest ticket", 46 * 288 * 20_000 + 86 * 20_000, x.fee(1, 200_000));
        ParkOffice y = with(new int[] {23, 7000, 4320});
        row("all in one", y, 0, 0, 4320, 7000, 23);
        row("all but a minute", y, 0, 0, 4319, 7000, 23);
    }

    private static void manyProducts() {
        // Each hour has a product of its own, all of one length: 20 hours, and the rest of the week.
        ParkOffice x = new ParkOffice();
        for (int id = 0; id < 20; id++) {
            x.product(id, 5 * id, 90, 0);
            x.hours(id, id, id + 1);
        }
        x.product(20, 500, 90, 0);
        x.hours(20, 20, 0);
        for (int zone = 1; zone < 4; zone++) {
            x.product(20 + zone, 5, 15, zone);
        }
        Check.is("6: open", -1, x.open());
        // 3 from 180 to 270, then 4 from 270 to 360; or 3 again from 239 to 329, then 5 from 329 to 419.
        row("three hours from hour 3 on", x, 0, 180, 329, 30, 3, 3);
        row("a minute more", x, 0, 180, 330, 35, 3, 4);
        row("up to minute 419", x, 0, 180, 419, 55, 3, 3, 5);
    }

    private static void chargeInPieces() {
        ParkOffice x = Check.hourlyShut();
        x.free(0, 60);
        x.product(9, 500, 1000, 2);
        x.open();
        x.enter(0, 1, 30);
        x.enter(2, 2, 30);
        Check.is("8: the first hour is free", 0, x.fee(1, 90));
        Check.is("8: three days", 7100, x.fee(1, 30 + 4320));
        Check.is("8: the free one comes again", 7100, x.fee(1, 30 + 4380));
        Check.is("8: and then no more", 7200, x.fee(1, 30 + 4381));
        Check.is("8: what is left of 9 is gone with the three days", 2500 + 500, x.fee(2, 30 + 4620));
        Check.is("8: three times three days, and an hour", 3 * 7100, x.fee(1, 30 + 3 * 4320 + 60));
        Check.is("8: and half an hour more", 3 * 7100 + 100, x.fee(1, 30 + 3 * 4320 + 90));
    }

    private static void asksInTurn() {
        ParkOffice x = Check.hourly();
        row("all three days", x, 0, 0, 4320, 7200, hoursOf(0, 72));
        row("a minute of the next minute", x, 0, 1, 2, 100, 0);
        row("zone 0 from minute 1 on", x, 0, 1, 61, 100, 0);
        row("zone 1 from minute 0 on", x, 1, 0, 60, 200, 1);
        for (int i = 0; i < 50; i++) {
            int zone = i % 4;
            int length = 60 * (i % 7) + 1;
            Check.is("25: in turn", 100 * (zone + 1) * (i % 7 + 1), x.least(zone, 10 * i, 10 * i + length));
            Check.is("26: in turn", 3 - zone, x.best(3 - zone, 0, length, i % 7));
        }
    }
}
