import java.util.Arrays;
import java.util.Random;

/** Long runs of random calls on the office and on the model: the answers must be the same. */
public final class RandomRunsTest {
    private static final int RUNS = 300;
    private static final int CALLS = 512;
    private static final int[] VALUES = {5, 10, 20, 50, 100, 200};
    private static final int[] LENGTHS = {15, 20, 30, 45, 60, 60, 90, 120, 180, 240, 480, 720, 1440, 4320};
    private static final int[] UNLIKELY =
            {-1, 0, 4, 8, 20, 24, 30, 41, 169, 1_000_001, Integer.MAX_VALUE, Integer.MIN_VALUE};
    private static final int ARGUMENT = 1_000_000_001;
    private static final int STATE = 1_000_000_002;

    private final Random random;
    private final ParkOffice office = new ParkOffice();
    private final Model model = new Model();
    private final StringBuilder told = new StringBuilder();
    private int minute = 0;
    private int tickets = 0;
    private int calls = 0;
    private boolean same = true;

    private RandomRunsTest(long seed) {
        random = new Random(seed);
    }

    public static void main(String[] args) {
        for (int seed = 0; seed < RUNS; seed++) {
            RandomRunsTest run = new RandomRunsTest(seed);
            run.setUp();
            while (run.same && run.calls < CALLS) {
                run.step();
            }
            Check.yes("run " + seed + ":\n" + run.told, run.same);
        }
        Check.finish();
    }

    private int upTo(int most) {
        return random.nextInt(most + 1);
    }

    private boolean oneIn(int n) {
        return random.nextInt(n) == 0;
    }

    private int of(int[] row) {
        return row[random.nextInt(row.length)];
    }

    /** Mostly the number, seldom one that is likely to be wrong. */
    private int number(int value) {
        if (!oneIn(60)) {
            return value;
        }
        return oneIn(8) ? value + 1 : of(UNLIKELY);
    }

    private void setUp() {
        int style = random.nextInt(4);
        for (int zone = 0; zone < 4; zone++) {
            if (!oneIn(3)) {
                call(0, number(zone), number(1 + upTo(oneIn(3) ? 39 : 3)));
            }
            if (oneIn(2)) {
                call(3, number(zone), number(upTo(120)));
            }
        }
        int many = 4 + upTo(style == 0 ? 4 : 19);
        for (int i = 0; i < many; i++) {
            int id = upTo(23);
            int length = oneIn(3) ? 15 + upTo(oneIn(3) ? 4305 : 100) : of(LENGTHS);
            int price = style == 1 ? 5 * upTo(3) : oneIn(9) ? 5 * upTo(4000) : 5 * upTo(10 + length / 20);
            call(1, number(id), number(price), number(length), number(upTo(3)));
            if (oneIn(2)) {
                int from = upTo(168);
                int to = oneIn(2) ? upTo(168) : Math.min(168, from + 1 + upTo(30));
                call(2, number(oneIn(9) ? upTo(23) : id), number(from), number(to));
            }
            if (oneIn(6)) {
                call(4);
            }
        }
        for (int zone = 0; zone < 4; zone++) {
            call(1, zone == 0 && oneIn(2) ? 23 : zone * 5, 5 * upTo(40), of(LENGTHS), zone);
        }
        call(4);
        if (oneIn(4)) {
            minute = upTo(150_000);
        }
        for (int machine = 0; machine < 3; machine++) {
            for (int value : VALUES) {
                if (oneIn(2)) {
                    call(19, machine, value, number(oneIn(6) ? 495 + upTo(6) : upTo(6)));
                }
            }
        }
    }

    private void step() {
        if (oneIn(3)) {
            minute = Math.min(200_000, minute + (oneIn(12) ? upTo(3000) : upTo(25)));
        }
        int at = oneIn(30) ? minute - 1 - upTo(5) : minute;
        int ticket = oneIn(25) ? upTo(tickets + 2) : Math.max(1, tickets - upTo(6));
        int plate = 1 + upTo(14);
        int machine = upTo(2);
        int value = of(VALUES);
        int zone = upTo(3);
        int kind = random.nextInt(100);
        if (kind < 16) {
            call(5, number(upTo(7)), number(plate), at);
        } else if (kind < 24) {
            call(6, number(ticket), at);
        } else if (kind < 31) {
            call(7, number(ticket), at);
        } else if (kind < 34) {
            call(8, number(oneIn(4) ? 0 : plate), number(zone), at);
        } else if (kind < 36) {
            int id = upTo(3);
            call(9, number(id), number(oneIn(3) ? zone : id), number(1 + upTo(1)));
        } else if (kind < 40) {
            call(10, number(upTo(3)), number(plate));
        } else if (kind < 42) {
            call(11, number(plate));
        } else if (kind < 47) {
            int from = at + upTo(60) - (oneIn(9) ? 61 : 0);
            call(12, number(upTo(29)), number(upTo(1) + upTo(1)), from, from + upTo(oneIn(3) ? 2000 : 200));
        } else if (kind < 49) {
            call(13, number(upTo(29)));
        } else if (kind < 57) {
            payment(ticket, machine, at);
        } else if (kind < 60) {
            call(14, number(ticket), number(machine), at);
        } else if (kind < 63) {
            call(15, number(machine), number(value));
        } else if (kind < 65) {
            call(oneIn(2) ? 16 : 17, number(machine));
        } else if (kind < 69) {
            call(18, number(machine), number(value));
        } else if (kind < 72) {
            call(19, number(machine), number(value), number(upTo(8) - 3));
        } else if (kind < 75) {
            call(20, number(machine), number(value));
        } else if (kind < 77) {
            call(21, number(zone));
        } else if (kind < 79) {
            call(22, number(plate));
        } else if (kind < 94) {
            stay(zone);
        } else if (kind < 97) {
            call(25, number(upTo(5)), number(upTo(2)));
        } else {
            int from = Math.max(0, minute - upTo(200));
            call(26, number(from), number(from + upTo(200)));
        }
    }

    private void payment(int ticket, int machine, int at) {
        int due = call(14, number(ticket), machine, at);
        int sum = 0;
        for (int i = 0; i < 40 && sum < due && due < ARGUMENT; i++) {
            int value = due - sum > 1000 ? 200 : of(VALUES);
            int answer = call(15, machine, value);
            sum = answer < ARGUMENT ? answer : sum;
        }
        if (oneIn(3)) {
            call(15, machine, of(VALUES));
        }
        if (oneIn(4)) {
            return;
        }
        call(oneIn(6) ? 17 : 16, machine);
        for (int value : VALUES) {
            call(18, machine, value);
        }
    }

    private void stay(int zone) {
        int from = oneIn(3) ? upTo(200_000) : minute;
        int length = oneIn(40) ? 4310 + upTo(15) : oneIn(3) ? upTo(1500) : upTo(300);
        int to = number(from + length);
        call(23, number(zone), number(from), to);
        for (int i = 0; i <= upTo(6); i++) {
            call(24, zone, from, to, number(i));
        }
    }

    private int call(int which, int... args) {
        if (!same || calls >= CALLS) {
            return 0;
        }
        calls++;
        int[] a = Arrays.copyOf(args, 4);
        int due = answer(which, a, true);
        int got = answer(which, a, false);
        told.append(which).append(Arrays.toString(args)).append(" -> ").append(got).append('\n');
        if (due != got) {
            told.append("due is ").append(due).append('\n');
            same = false;
        }
        if ((which == 5 || which == 8) && got < ARGUMENT) {
            tickets = Math.max(tickets, got);
        }
        return got;
    }

    private int answer(int which, int[] a, boolean ofModel) {
        try {
            return ofModel ? asksModel(which, a) : asksOffice(which, a);
        } catch (IllegalArgumentException e) {
            return ARGUMENT;
        } catch (IllegalStateException e) {
            return STATE;
        }
    }

    private static int bit(boolean yes) {
        return yes ? 1 : 0;
    }

    private int asksOffice(int which, int[] a) {
        switch (which) {
            case 0:
                office.places(a[0], a[1]);
                return 0;
            case 1:
                office.product(a[0], a[1], a[2], a[3]);
                return 0;
            case 2:
                office.hours(a[0], a[1], a[2]);
                return 0;
            case 3:
                office.free(a[0], a[1]);
                return 0;
            case 4:
                return office.open();
            case 5:
                return office.enter(a[0], a[1], a[2]);
            case 6:
                return office.fee(a[0], a[1]);
            case 7:
                return bit(office.leave(a[0], a[1]));
            case 8:
                return office.lost(a[0], a[1], a[2]);
            case 9:
                office.contract(a[0], a[1], a[2]);
                return 0;
            case 10:
                office.plate(a[0], a[1]);
                return 0;
            case 11:
                return bit(office.dropPlate(a[0]));
            case 12:
                return bit(office.reserve(a[0], a[1], a[2], a[3]));
            case 13:
                return bit(office.cancelReserve(a[0]));
            case 14:
                return office.payBegin(a[0], a[1], a[2]);
            case 15:
                return office.coin(a[0], a[1]);
            case 16:
                return office.payEnd(a[0]);
            case 17:
                return office.payBack(a[0]);
            case 18:
                return office.changeCoins(a[0], a[1]);
            case 19:
                return office.fill(a[0], a[1], a[2]);
            case 20:
                return office.box(a[0], a[1]);
            case 21:
                return office.occupied(a[0]);
            case 22:
                return office.inside(a[0]);
            case 23:
                return office.least(a[0], a[1], a[2]);
            case 24:
                return office.best(a[0], a[1], a[2], a[3]);
            case 25:
                return office.journal(a[0], a[1]);
            case 26:
                return office.takings(a[0], a[1]);
            default:
                return 0;
        }
    }

    private int asksModel(int which, int[] a) {
        switch (which) {
            case 0:
                model.places(a[0], a[1]);
                return 0;
            case 1:
                model.product(a[0], a[1], a[2], a[3]);
                return 0;
            case 2:
                model.hours(a[0], a[1], a[2]);
                return 0;
            case 3:
                model.free(a[0], a[1]);
                return 0;
            case 4:
                return model.open();
            case 5:
                return model.enter(a[0], a[1], a[2]);
            case 6:
                return model.fee(a[0], a[1]);
            case 7:
                return bit(model.leave(a[0], a[1]));
            case 8:
                return model.lost(a[0], a[1], a[2]);
            case 9:
                model.contract(a[0], a[1], a[2]);
                return 0;
            case 10:
                model.plate(a[0], a[1]);
                return 0;
            case 11:
                return bit(model.dropPlate(a[0]));
            case 12:
                return bit(model.reserve(a[0], a[1], a[2], a[3]));
            case 13:
                return bit(model.cancelReserve(a[0]));
            case 14:
                return model.payBegin(a[0], a[1], a[2]);
            case 15:
                return model.coin(a[0], a[1]);
            case 16:
                return model.payEnd(a[0]);
            case 17:
                return model.payBack(a[0]);
            case 18:
                return model.changeCoins(a[0], a[1]);
            case 19:
                return model.fill(a[0], a[1], a[2]);
            case 20:
                return model.box(a[0], a[1]);
            case 21:
                return model.occupied(a[0]);
            case 22:
                return model.inside(a[0]);
            case 23:
                return model.least(a[0], a[1], a[2]);
            case 24:
                return model.best(a[0], a[1], a[2], a[3]);
            case 25:
                return model.journal(a[0], a[1]);
            case 26:
                return model.takings(a[0], a[1]);
            default:
                return 0;
        }
    }
}
