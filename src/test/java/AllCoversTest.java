import java.util.ArrayList;
import java.util.List;
import java.util.Random;

/**
 * COVER and BEST word by word: for random tariffs and short stays every row of products that is a cover
 * is written out, and the best of them compared with what least and best answer. Model and the
 * program both go back from a stay's end; this goes forward from its beginning, and keeps every row.
 */
public final class AllCoversTest {
    private static final int FREE = 24;
    private static final int TARIFFS = 400;
    private static final int STAYS = 12;
    private static final int LONGEST = 240;
    // The hours of the tariffs and stays lie round the end of the week, where hour 167 meets hour 0.
    private static final int[] HOURS = {0, 1, 2, 3, 165, 166, 167, 168};

    private final Random random;
    private final int[][] told = new int[24][];
    private int freeMinutes = 0;
    private int a = 0;
    private int b = 0;
    private int leastPrice = 0;
    private List<Integer> bestRow = null;
    private static long rows = 0;

    private AllCoversTest(int seed) {
        random = new Random(seed);
    }

    public static void main(String[] args) {
        for (int seed = 0; seed < TARIFFS; seed++) {
            Check.about("tariff " + seed + ": ");
            new AllCoversTest(seed).go();
        }
        Check.about("");
        Check.yes("rows were looked at: " + rows, rows > 500_000);
        Check.finish();
    }

    private void go() {
        ParkOffice x = new ParkOffice();
        tellTariff(x);
        Check.is("open", ParkOffice.NONE, x.open());
        int begin = 0;
        for (int i = 0; i < STAYS; i++) {
            begin += random.nextInt(3) == 0 ? 10_080 - begin % 10_080 - random.nextInt(LONGEST) : random.nextInt(50);
            stay(x, begin, begin + 1 + random.nextInt(LONGEST));
        }
    }

    /** Zone 0 has three products at most with hours of their own, and one of all hours. */
    private void tellTariff(ParkOffice x) {
        for (int zone = 1; zone < 4; zone++) {
            x.product(20 + zone, 0, 4320, zone);
        }
        int many = 1 + random.nextInt(3);
        for (int i = 0; i < many; i++) {
            tell(x, random.nextInt(20), HOURS[random.nextInt(8)], HOURS[random.nextInt(8)]);
        }
        tell(x, 20, 0, 168);
        freeMinutes = random.nextBoolean() ? 0 : 1 + random.nextInt(60);
        x.free(0, freeMinutes);
    }

    private void tell(ParkOffice x, int id, int from, int to) {
        // Few prices and lengths, so that covers are often equal in price and number.
        int price = 50 * random.nextInt(4);
        int length = random.nextBoolean() ? 20 + 10 * random.nextInt(5) : 20 + random.nextInt(50);
        told[id] = new int[] {price, length, from, to};
        x.product(id, price, length, 0);
        x.hours(id, from, to);
    }

    private void stay(ParkOffice x, int from, int to) {
        a = from;
        b = to;
        bestRow = null;
        begin();
        String words = "from " + from + " to " + to + ", due is " + bestRow + " for " + leastPrice;
        Check.is("25: " + words, leastPrice, x.least(0, from, to));
        for (int i = 0; i <= bestRow.size(); i++) {
            int due = i < bestRow.size() ? bestRow.get(i) : ParkOffice.NONE;
            Check.is("26: product " + i + " " + words, due, x.best(0, from, to, i));
        }
    }

    private boolean mayBegin(int id, int minute) {
        int h = minute / 60 % 168;
        int from = told[id][2];
        int to = told[id][3];
        return from < to ? from <= h && h < to : h >= from || h < to;
    }

    private void begin() {
        List<Integer> row = new ArrayList<>();
        if (freeMinutes > 0) {
            goOn(row, FREE, 0, a + freeMinutes);
        }
        for (int id = 0; id < 24; id++) {
            if (told[id] != null && mayBegin(id, a)) {
                goOn(row, id, told[id][0], a + told[id][1]);
            }
        }
    }

    private void goOn(List<Integer> row, int id, int price, int end) {
        row.add(id);
        if (end >= b) {
            rows++;
            keepIfBest(row, price);
        } else {
            for (int next = 0; next < 24; next++) {
                int nextEnd = told[next] == null ? end : endBehind(next, end);
                if (nextEnd > end) {
                    goOn(row, next, price + told[next][0], nextEnd);
                }
            }
        }
        row.remove(row.size() - 1);
    }

    private int endBehind(int id, int end) {
        for (int minute = end; minute >= a; minute--) {
            if (mayBegin(id, minute)) {
                return minute + told[id][1];
            }
        }
        return end;
    }

    private void keepIfBest(List<Integer> row, int price) {
        if (bestRow == null || price < leastPrice || price == leastPrice && isBetter(row)) {
            leastPrice = price;
            bestRow = new ArrayList<>(row);
        }
    }

    private boolean isBetter(List<Integer> row) {
        for (int i = 0; row.size() == bestRow.size() && i < row.size(); i++) {
            if (!row.get(i).equals(bestRow.get(i))) {
                return row.get(i) < bestRow.get(i);
            }
        }
        return row.size() < bestRow.size();
    }
}
