/** Boundary cases of covers and of the CHARGE (in 'Terms'), and of promises 25 and 26. */
final class CoverEdges {
    private CoverEdges() {
    }

    static void run() {
        covers();
        bestCover();
        Edge.terms("CHARGE of a stay from a to b: for each 4320 minutes from a on", CoverEdges::chargeInPieces);
        Edge.terms("and the rest (if it is not 0), the price of the BEST cover, in sum.", CoverEdges::chargeOfRest);
        Edge.promise(25, "The price of the BEST cover of a stay of at most 4320 minutes.", CoverEdges::least);
        Edge.promise(25, "IllegalArgument: also if to is before from", CoverEdges::leastBackwards);
        Edge.promise(25, "or more than 4320 behind it", CoverEdges::leastTooLong);
        Edge.promise(25, "(these minutes need not be after the latest one).", CoverEdges::leastEarly);
        Edge.promise(25, "IllegalState: it is not open.", CoverEdges::leastNotOpen);
        Edge.promise(26, "The i-th product of the BEST cover (from 0 on)", CoverEdges::best);
        Edge.promise(26, "NONE if there is none such.", CoverEdges::bestNone);
        Edge.promise(26, "IllegalArgument, IllegalState, as with least.", CoverEdges::bestRefused);
    }

    private static void covers() {
        Edge.terms("A COVER of a stay from a to b is a row of products of its zone", CoverEdges::ofItsZone);
        Edge.terms("the first begins at a (it must be allowed to", CoverEdges::firstAllowed);
        Edge.terms("or it is the FREE one, which may be first only", CoverEdges::freeFirstOnly);
        Edge.terms("and begins at any a)", CoverEdges::freeAtAny);
        Edge.terms("each other at the latest minute, not after the end of the one before", CoverEdges::latestMinute);
        Edge.terms("not before a", CoverEdges::notBeforeStay);
        Edge.terms("in its HOURS (there must be one)", CoverEdges::mustBeOne);
        Edge.terms("each ends later than the one before", CoverEdges::endsLater);
        Edge.terms("the last one ends at b or later", CoverEdges::endsAtLeast);
        Edge.terms("and no other does.", CoverEdges::noOtherDoes);
        Edge.terms("Its price is their sum.", CoverEdges::priceIsSum);
        Edge.terms("A stay of 0 minutes has the empty one.", CoverEdges::emptyCover);
    }

    private static void bestCover() {
        Edge.terms("The BEST cover is the one with the least price", CoverEdges::leastPrice);
        Edge.terms("of several that with the fewest products", CoverEdges::fewestProducts);
        Edge.terms("of these that whose first product has the least number", CoverEdges::leastNumber);
        Edge.terms("(the FREE one is 24)", CoverEdges::freeIsLast);
        Edge.terms("then the second, and so on.", CoverEdges::thenTheSecond);
    }

    /** Zone 0 has 100 an hour as product 0 and, if told, {id, price, length} or {id, price, length, from, to}. */
    private static ParkOffice with(int[]... products) {
        return withFree(0, products);
    }

    private static ParkOffice withFree(int minutes, int[]... products) {
        ParkOffice x = Check.hourlyShut();
        x.free(0, minutes);
        for (int[] p : products) {
            x.product(p[0], p[1], p[2], 0);
            if (p.length > 3) {
                x.hours(p[0], p[3], p[4]);
            }
        }
        Check.is("open", -1, x.open());
        return x;
    }

    private static int[] told(int... product) {
        return product;
    }

    private static void row(String what, ParkOffice x, int from, int to, int price, int... products) {
        Check.is(what + ": price", price, x.least(0, from, to));
        for (int i = 0; i < products.length; i++) {
            Check.is(what + ": product " + i, products[i], x.best(0, from, to, i));
        }
        Check.is(what + ": no more", -1, x.best(0, from, to, products.length));
    }

    // ---- covers ----

    private static void ofItsZone() {
        ParkOffice x = Check.hourlyShut();
        x.product(20, 0, 4320, 1);
        x.free(1, 120);
        x.open();
        row("zone 1's are cheaper", x, 0, 60, 100, 0);
        Check.is("zone 2 has its own", 2, x.best(2, 0, 60, 0));
        Check.is("zone 3 has its own", 400, x.least(3, 0, 60));
    }

    private static void firstAllowed() {
        ParkOffice x = with(told(5, 5, 60, 3, 5));
        row("a minute before its hours", x, 179, 180, 100, 0);
        row("their first minute", x, 180, 181, 5, 5);
        row("their last minute", x, 299, 300, 5, 5);
        row("a minute behind them", x, 300, 301, 100, 0);
        row("a minute before them, for an hour", x, 179, 239, 100, 0);
        ParkOffice z = with(told(0, 5, 60, 3, 5), told(9, 100, 60));
        row("a minute before the hours of the first product told", z, 179, 239, 100, 9);
        row("in them", z, 180, 240, 5, 0);
        ParkOffice y = with(told(5, 5, 120, 167, 168));
        row("not from the minute before: a week's end", y, 10_080, 10_081, 100, 0);
        row("the week's last minute", y, 10_079, 10_199, 5, 5);
    }

    private static void freeFirstOnly() {
        ParkOffice x = withFree(20, told(5, 30, 15));
        row("it is enough", x, 0, 20, 0, 24);
        row("once", x, 0, 21, 30, 24, 5);
        row("not a second time", x, 0, 36, 60, 24, 5, 5);
        ParkOffice y = withFree(120);
        row("not even two hours later", y, 0, 240, 200, 24, 0, 0);
    }

    private static void freeAtAny() {
        ParkOffice x = withFree(1);
        for (int at : new int[] {0, 1, 59, 60, 10_079, 10_080, 199_999}) {
            row("at " + at, x, at, at + 1, 0, 24);
        }
    }

    private static void latestMinute() {
        // 5 may begin in hour 0 alone: at 59 at the latest, and then ends at 359.
        ParkOffice x = with(told(5, 100, 300, 0, 1));
        row("from 59 on to 359", x, 0, 359, 200, 0, 5);
        row("a minute more is too much for that", x, 0, 360, 200, 5, 0);
        // 6 may begin in hour 1 alone: behind 0's end at 60, at once.
        ParkOffice y = with(told(6, 5, 60, 1, 2));
        row("the very end of the one before", y, 0, 120, 105, 0, 6);
        row("which is in its hours: 61, not 60", y, 1, 121, 105, 0, 6);
        // 6 may begin up to minute 119; behind 179 it still begins there, and ends at 179: no later.
        row("from 119 on, up to 179", y, 60, 179, 10, 6, 6);
        row("no further", y, 60, 180, 105, 6, 0);
        ParkOffice z = with(told(5, 100, 300, 160, 0));
        row("round the week: from minute 10,079 on", z, 10_020, 10_379, 200, 0, 5);
        row("and no further", z, 10_020, 10_380, 200, 5, 0);
    }

    private static void notBeforeStay() {
        ParkOffice x = with(told(5, 100, 300, 0, 1));
        row("59 is the stay's first minute", x, 59, 359, 100, 5);
        row("59 is before the stay", x, 60, 359, 500, 0, 0, 0, 0, 0);
        row("a week later: 59 of the week before is before it", x, 10_080 + 60, 10_080 + 359, 500, 0, 0, 0, 0, 0);
        ParkOffice y = with(told(5, 100, 300, 0, 1));
        row("a stay that reaches the next week's hour 0", y, 10_020, 10_439, 300, 0, 0, 5);
    }

    private static void mustBeOne() {
        ParkOffice x = with(told(5, 0, 4320, 168, 0));
        row("no hour at all: never", x, 0, 61, 200, 0, 0);
        row("nor over the week's end", x, 10_079, 10_081, 100, 0);
        ParkOffice y = with(told(6, 0, 60, 5, 6));
        row("its hours come behind the stay", y, 0, 299, 500, 0, 0, 0, 0, 0);
        row("its hours are reached at the last minute", y, 0, 301, 500, 0, 0, 0, 0, 0, 6);
        row("its hours have not come yet", y, 0, 300, 500, 0, 0, 0, 0, 0);
    }

    private static void endsLater() {
        // 6 costs nothing, but begins at 59 at the latest: it ends at 74, however often it is taken.
        ParkOffice x = with(told(6, 0, 15, 0, 1));
        row("up to 74", x, 0, 74, 0, 6, 6, 6, 6, 6);
        row("no further", x, 0, 75, 100, 6, 0);
        // 7 begins at 59 at the latest and ends at 119: as 0 does behind 59, so it can't follow it.
        ParkOffice y = with(told(7, 0, 60, 0, 1));
        row("behind 119 it ends at 119, no later", y, 59, 120, 100, 7, 0);
    }

    private static void endsAtLeast() {
        ParkOffice x = with(told(5, 150, 90));
        row("just at b", x, 0, 60, 100, 0);
        row("behind b", x, 0, 59, 100, 0);
        row("a minute before b is not enough", x, 0, 61, 150, 5);
        row("the last one goes beyond the last minute", x, 199_999, 200_000, 100, 0);
    }

    private static void noOtherDoes() {
        ParkOffice x = with(told(5, 0, 15), told(6, 0, 60));
        row("one is enough: no row of two", x, 0, 60, 0, 6);
        row("one is enough: the least number", x, 0, 15, 0, 5);
        row("5 first, then 6: both needed", x, 0, 61, 0, 5, 6);
    }

    private static void priceIsSum() {
        ParkOffice x = with(told(0, 20_000, 15));
        Check.is("one of the dearest", 20_000, x.least(0, 0, 15));
        Check.is("two of them", 40_000, x.least(0, 0, 16));
        Check.is("288 of them", 288 * 20_000, x.least(0, 0, 4320));
        ParkOffice y = withFree(30, told(5, 70, 30));
        row("the FREE one costs nothing", y, 0, 120, 170, 24, 0, 5);
    }

    private static void emptyCover() {
        ParkOffice x = withFree(20, told(5, 0, 15));
        row("at the first minute", x, 0, 0, 0);
        row("at some minute", x, 100, 100, 0);
        row("at the last minute", x, 200_000, 200_000, 0);
    }

    // ---- the best one ----

    private static void leastPrice() {
        ParkOffice x = with(told(5, 195, 120), told(6, 205, 120), told(7, 25, 15));
        row("195 for one, not 200 for two", x, 0, 120, 195, 5);
        row("more products, but 5 less", x, 0, 45, 75, 7, 7, 7);
        row("100 for one, not for four", x, 0, 60, 100, 0);
    }

    private static void fewestProducts() {
        ParkOffice x = with(told(5, 200, 120), told(6, 0, 15), told(7, 0, 4320, 2, 3));
        row("both cost nothing: one, not many", x, 120, 4440, 0, 7);
        ParkOffice y = with(told(5, 200, 120));
        row("200 for one, not for two of the least number", y, 0, 120, 200, 5);
        row("300 for two, not for three", y, 0, 180, 300, 0, 5);
    }

    private static void leastNumber() {
        ParkOffice x = with(told(23, 100, 60), told(7, 100, 60));
        row("0 before 7 and 23", x, 0, 60, 100, 0);
        ParkOffice y = with(told(0, 105, 60), told(23, 100, 60), told(22, 100, 60));
        row("22 before 23", y, 0, 60, 100, 22);
        ParkOffice z = with(told(23, 50, 30), told(5, 150, 90));
        row("5 and 23, or 23 and 5, or 0 and 0", z, 0, 120, 200, 0, 0);
        row("0 and 5, or 5 and 0", z, 0, 150, 250, 0, 5);
    }

    private static void freeIsLast() {
        ParkOffice x = withFree(60, told(23, 0, 60));
        row("23 before the FREE one", x, 0, 60, 0, 23);
        row("as many of them: 23 twice", x, 0, 120, 0, 23, 23);
        ParkOffice y = withFree(61, told(23, 0, 60));
        row("the FREE one, if 23 is too short", y, 0, 61, 0, 24);
        row("fewer with the FREE one", y, 0, 121, 0, 24, 23);
        Check.is("FREE", 24, ParkOffice.FREE);
    }

    private static void thenTheSecond() {
        ParkOffice x = with(told(9, 100, 60), told(8, 100, 60), told(0, 105, 60));
        row("8 each time", x, 0, 180, 300, 8, 8, 8);
        // 8 may not begin in hour 1, so there 9 does.
        ParkOffice y = with(told(9, 100, 60), told(8, 100, 60, 2, 1), told(0, 105, 60));
        row("8, then 8 from 59 on would end at 119: 9", y, 0, 180, 300, 8, 9, 8);
        // The second may be the least that leaves as few products behind it.
        ParkOffice z = with(told(0, 50, 30), told(4, 80, 50), told(5, 80, 50));
        row("0, then 4, not 5", z, 0, 80, 130, 0, 4);
        row("0, then 4, then 4", z, 0, 130, 210, 0, 4, 4);
    }

    // ---- the charge ----

    private static void chargeInPieces() {
        ParkOffice x = withFree(60);
        x.enter(0, 1, 30);
        Check.is("just 4320: one piece", 7100, x.fee(1, 4350));
        Check.is("a minute of the next, which begins with the FREE one too", 7100, x.fee(1, 4351));
        Check.is("its 60th minute", 7100, x.fee(1, 4410));
        Check.is("its 61st", 7200, x.fee(1, 4411));
        Check.is("just 8640: two pieces", 14_200, x.fee(1, 8670));
        Check.is("up to the last minute", 46 * 7100 + 2000, x.fee(1, 200_000));
        ParkOffice y = with(told(5, 500, 1000));
        y.enter(0, 1, 0);
        Check.is("five of them", 2500, y.fee(1, 4320));
        Check.is("what is left of the fifth is gone: an hour", 2600, y.fee(1, 4321));
        ParkOffice z = with(told(5, 50, 60, 100, 101));
        z.enter(0, 1, 6000);
        Check.is("each piece in its own hours", 50 + 71 * 100 + 72 * 100, z.fee(1, 6000 + 8640));
    }

    private static void chargeOfRest() {
        ParkOffice x = with(told(5, 20, 15));
        x.enter(0, 1, 0);
        Check.is("no minutes: nothing", 0, x.fee(1, 0));
        Check.is("a minute", 20, x.fee(1, 1));
        Check.is("all but a minute of a piece", 72 * 80, x.fee(1, 4319));
        Check.is("a piece, and no rest", 72 * 80, x.fee(1, 4320));
        Check.is("a piece, and a minute", 72 * 80 + 20, x.fee(1, 4321));
        Check.is("a piece, and all but a minute", 2 * 72 * 80, x.fee(1, 8639));
        Check.is("two pieces, and no rest", 2 * 72 * 80, x.fee(1, 8640));
        Check.is("two pieces, and 16 minutes", 2 * 72 * 80 + 40, x.fee(1, 8656));
    }

    // ---- promises 25 and 26 ----

    private static void least() {
        ParkOffice x = with(told(23, 7000, 4320));
        Check.is("no minutes", 0, x.least(0, 5, 5));
        Check.is("a minute", 100, x.least(0, 5, 6));
        Check.is("4320 minutes", 7000, x.least(0, 5, 4325));
        Check.is("4320 minutes up to the last", 7000, x.least(0, 195_680, 200_000));
        Check.is("4320 minutes by the hour", 200 * 72, x.least(1, 0, 4320));
        // One asked behind another, next to it in beginning, length or zone, has its own answer.
        Check.is("behind 4320 minutes: a minute later, none", 0, x.least(1, 1, 1));
        Check.is("a minute later, one", 200, x.least(1, 1, 2));
        Check.is("a minute later, two", 200, x.least(1, 1, 3));
        Check.is("all but one", 200 * 72, x.least(1, 0, 4319));
        Check.is("the zone behind", 300 * 72, x.least(2, 0, 4320));
        Check.is("the same again", 200 * 72, x.least(1, 0, 4320));
    }

    private static void leastBackwards() {
        Calls.argumentsOf(25);
        ParkOffice x = Check.hourly();
        Check.argument("a minute before", () -> x.least(0, 10, 9));
        Check.fine("the same", () -> x.least(0, 10, 10));
        Check.argument("the first before the last", () -> x.least(0, 200_000, 0));
    }

    private static void leastTooLong() {
        ParkOffice x = Check.hourly();
        Check.argument("4321", () -> x.least(0, 0, 4321));
        Check.fine("4320", () -> x.least(0, 0, 4320));
        Check.argument("4321 up to the last minute", () -> x.least(0, 195_679, 200_000));
        Check.argument("all minutes", () -> x.least(0, 0, 200_000));
        Check.argument("a difference that wraps around",
                () -> x.least(0, Integer.MIN_VALUE, Integer.MAX_VALUE));
    }

    private static void leastEarly() {
        ParkOffice x = Check.hourly();
        x.enter(0, 1, 200_000);
        Check.is("long before", 100, x.least(0, 0, 60));
        Check.is("with it", 100, x.least(0, 199_940, 200_000));
        ParkOffice y = Check.hourly();
        y.least(0, 190_000, 190_060);
        Check.is("nor do they become the latest", 1, y.enter(0, 1, 0));
    }

    private static void leastNotOpen() {
        ParkOffice x = Check.hourlyShut();
        Check.state("it is not", () -> x.least(0, 0, 60));
        Check.state("nor for no minutes", () -> x.least(0, 0, 0));
        x.open();
        Check.is("it is", 100, x.least(0, 0, 60));
    }

    private static void best() {
        ParkOffice x = withFree(20, told(5, 20, 15));
        Check.is("the first", 24, x.best(0, 0, 50, 0));
        Check.is("the second", 5, x.best(0, 0, 50, 1));
        Check.is("the last", 5, x.best(0, 0, 50, 2));
        Check.is("the last of many", 5, x.best(0, 0, 4320, 287));
        ParkOffice y = with(told(0, 20, 15));
        Check.is("288 in all: the last", 0, y.best(0, 195_680, 200_000, 287));
        Check.is("288 in all: no more", -1, y.best(0, 195_680, 200_000, 288));
    }

    private static void bestNone() {
        ParkOffice x = Check.hourly();
        for (int i : new int[] {-1, 1, 4320, Integer.MAX_VALUE, Integer.MIN_VALUE}) {
            Check.is("an hour has one: " + i, ParkOffice.NONE, x.best(0, 0, 60, i));
            Check.is("no minutes have none: " + i, ParkOffice.NONE, x.best(0, 60, 60, i));
        }
        Check.is("no minutes have none: 0", ParkOffice.NONE, x.best(0, 60, 60, 0));
        Check.is("behind the last", ParkOffice.NONE, x.best(0, 0, 4320, 72));
        Check.is("and behind that", ParkOffice.NONE, x.best(0, 0, 4320, 73));
        Check.is("far behind", ParkOffice.NONE, x.best(0, 0, 4320, Integer.MAX_VALUE));
        Check.is("the last", 0, x.best(0, 0, 4320, 71));
    }

    private static void bestRefused() {
        Calls.argumentsOf(26);
        ParkOffice x = Check.hourly();
        for (int i : new int[] {-1, 0, 1}) {
            Check.argument("to before from", () -> x.best(0, 10, 9, i));
            Check.argument("4321 minutes", () -> x.best(0, 0, 4321, i));
        }
        x.enter(0, 1, 200_000);
        Check.is("long before the latest", 0, x.best(0, 0, 60, 0));
        ParkOffice y = Check.hourlyShut();
        Check.state("not open", () -> y.best(0, 0, 60, 0));
        Check.state("not open, and none such", () -> y.best(0, 0, 0, -1));
        y.open();
        y.best(0, 190_000, 190_060, 0);
        Check.is("its minutes are not the latest", 1, y.enter(0, 1, 0));
    }
}
