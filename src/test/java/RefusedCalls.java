import java.util.ArrayList;
import java.util.Arrays;
import java.util.List;

/**
 * A call that throws changes nothing: a day at the office is gone through again and again, each time with
 * one call more that is refused at some step; all answers must be those of the day without it.
 */
final class RefusedCalls {
    private static final List<Step> DAY = new ArrayList<>();
    private static final List<Asked> ASKED = new ArrayList<>();

    static {
        morning();
        noon();
        evening();
        wrongArguments();
        wrongStates();
    }

    private RefusedCalls() {
    }

    interface Step {
        int on(ParkOffice x);
    }

    interface Silent {
        void on(ParkOffice x);
    }

    record Asked(String name, Silent call) {
    }

    static void changeNothing() {
        int[] due = new int[DAY.size()];
        ParkOffice plain = new ParkOffice();
        for (int i = 0; i < due.length; i++) {
            due[i] = DAY.get(i).on(plain);
        }
        for (Asked asked : ASKED) {
            int refused = 0;
            for (int step = 0; step <= due.length; step++) {
                refused += refusedAt(asked, step, due) ? 1 : 0;
            }
            Check.yes(asked.name + " is refused at some step", refused > 0);
        }
    }

    /** Whether the call is refused before this step; if so, the rest of the day is compared. */
    private static boolean refusedAt(Asked asked, int step, int[] due) {
        ParkOffice x = new ParkOffice();
        for (int i = 0; i < step; i++) {
            DAY.get(i).on(x);
        }
        try {
            asked.call.on(x);
            return false;
        } catch (IllegalArgumentException | IllegalStateException e) {
            int[] got = due.clone();
            for (int i = step; i < due.length; i++) {
                got[i] = answer(x, i);
            }
            Check.yes(asked.name + " before step " + step + ": " + Arrays.toString(got), Arrays.equals(due, got));
            return true;
        }
    }

    private static int answer(ParkOffice x, int step) {
        try {
            return DAY.get(step).on(x);
        } catch (RuntimeException e) {
            return Integer.MIN_VALUE;
        }
    }

    private static void does(Silent... calls) {
        for (Silent call : calls) {
            DAY.add(x -> {
                call.on(x);
                return 0;
            });
        }
    }

    private static void answers(Step... steps) {
        DAY.addAll(List.of(steps));
    }

    private static int one(boolean yes) {
        return yes ? 1 : 0;
    }

    private static void morning() {
        does(x -> x.places(0, 3), x -> x.product(0, 100, 60, 0), x -> x.product(1, 200, 60, 1),
                x -> x.product(2, 300, 60, 2), x -> x.product(9, 55, 30, 0), x -> x.hours(9, 0, 2),
                x -> x.free(1, 20));
        answers(x -> x.open());
        does(x -> x.product(3, 400, 60, 3));
        answers(x -> x.open(), x -> x.fill(0, 50, 3), x -> x.fill(1, 5, 499));
        does(x -> x.contract(0, 0, 1), x -> x.contract(1, 1, 2), x -> x.plate(0, 1), x -> x.plate(0, 2),
                x -> x.plate(0, 8), x -> x.plate(1, 3));
        answers(x -> x.enter(0, 1, 5), x -> x.enter(5, 4, 5), x -> x.fee(2, 30));
        answers(x -> one(x.reserve(0, 0, 40, 60)), x -> one(x.reserve(1, 0, 50, 70)),
                x -> one(x.reserve(2, 0, 55, 58)), x -> one(x.reserve(3, 0, 56, 57)), x -> x.enter(0, 2, 50));
    }

    private static void noon() {
        answers(x -> x.payBegin(2, 0, 52), x -> x.coin(0, 200), x -> x.coin(0, 100), x -> x.box(0, 100),
                x -> x.payEnd(0), x -> x.changeCoins(0, 100), x -> x.changeCoins(0, 50), x -> x.journal(0, 2));
        answers(x -> one(x.leave(2, 59)), x -> x.inside(4), x -> x.enter(0, 2, 70), x -> x.fee(3, 100));
        answers(x -> x.lost(1, 3, 100), x -> x.inside(1), x -> x.fee(4, 101), x -> one(x.dropPlate(1)));
        answers(x -> x.payBegin(3, 1, 101), x -> x.coin(1, 5), x -> x.coin(1, 50), x -> x.payBegin(4, 2, 102),
                x -> x.payBack(1), x -> x.changeCoins(1, 50), x -> x.box(1, 5), x -> x.payEnd(2));
    }

    private static void evening() {
        answers(x -> x.lost(0, 2, 110), x -> x.fee(5, 120), x -> one(x.leave(4, 120)), x -> x.enter(0, 1, 120),
                x -> x.enter(0, 8, 120), x -> x.occupied(0), x -> x.occupied(1), x -> x.fee(6, 150),
                x -> one(x.leave(7, 150)), x -> one(x.cancelReserve(0)), x -> one(x.cancelReserve(1)),
                x -> one(x.cancelReserve(2)), x -> one(x.reserve(0, 3, 150, 160)));
        answers(x -> x.payBegin(6, 0, 150), x -> x.coin(0, 200), x -> x.payEnd(0), x -> x.changeCoins(0, 50),
                x -> x.takings(0, 200_000), x -> x.journal(1, 1), x -> x.journal(2, 0));
        does(x -> x.plate(0, 9), x -> x.plate(1, 10), x -> x.contract(0, 2, 1));
        answers(x -> x.enter(2, 9, 160), x -> x.enter(1, 3, 160), x -> x.fee(8, 170), x -> x.fee(9, 190),
                x -> one(x.dropPlate(2)), x -> x.least(0, 30, 150), x -> x.best(0, 30, 150, 1));
        for (int machine = 0; machine < 3; machine++) {
            for (int value : new int[] {5, 10, 20, 50, 100, 200}) {
                int at = machine;
                answers(x -> x.box(at, value), x -> x.changeCoins(at, value));
            }
        }
    }

    private static void wrongArguments() {
        for (Calls.Row row : Calls.ROWS) {
            for (int index = 0; index < row.args().length; index++) {
                for (int wrong : row.args()[index].wrong()) {
                    int[] a = row.with(index, wrong);
                    ASKED.add(new Asked(row.told(a), x -> row.on().call(x, a)));
                }
            }
        }
    }

    private static void asked(String name, Silent call) {
        ASKED.add(new Asked(name, call));
    }

    // Late minutes: if such a call moved the latest one, all later ones would be too early.
    private static void wrongStates() {
        asked("places", x -> x.places(0, 7));
        asked("product", x -> x.product(0, 5, 15, 0));
        asked("hours", x -> x.hours(9, 5, 6));
        asked("hours of none", x -> x.hours(20, 5, 6));
        asked("free", x -> x.free(1, 120));
        asked("open", x -> x.open());
        asked("enter", x -> x.enter(0, 77, 200_000));
        asked("lost, not open", x -> x.lost(0, 0, 200_000));
        asked("lost, being paid", x -> x.lost(4, 0, 200_000));
        asked("fee of one that is gone", x -> x.fee(2, 200_000));
        asked("leave, gone or being paid", x -> x.leave(2, 200_000));
        asked("leave, being paid", x -> x.leave(3, 200_000));
        asked("contract, its zone", x -> x.contract(0, 3, 1));
        asked("contract, its k", x -> x.contract(0, 0, 9));
        asked("plate of no contract", x -> x.plate(5, 1));
        asked("plate of another one", x -> x.plate(1, 2));
        asked("reserve", x -> x.reserve(0, 0, 1000, 2000));
        asked("payBegin, taken or elsewhere", x -> x.payBegin(2, 0, 200_000));
        asked("payBegin, replaced", x -> x.payBegin(1, 1, 200_000));
        asked("coin", x -> x.coin(0, 10));
        asked("coin into a full box", x -> x.coin(1, 5));
        asked("payEnd", x -> x.payEnd(1));
        asked("payBack", x -> x.payBack(0));
        asked("fill", x -> x.fill(0, 50, 498));
        asked("fill, out", x -> x.fill(0, 50, -4));
        asked("fill, full", x -> x.fill(1, 5, 2));
        asked("least", x -> x.least(0, 0, 60));
        asked("best", x -> x.best(0, 0, 60, 0));
    }
}
