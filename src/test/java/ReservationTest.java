/** Promises 14 and 15: reservations take places while they are running. */
public final class ReservationTest {
    public static void main(String[] args) {
        reserve();
        reserveWrong();
        noMoreThanPlaces();
        cancel();
        placesTaken();
        Check.finish();
    }

    private static ParkOffice withPlaces(int many) {
        ParkOffice x = Check.hourlyShut();
        x.places(0, many);
        x.open();
        return x;
    }

    private static void reserve() {
        ParkOffice x = withPlaces(1);
        Check.yes("14: made", x.reserve(0, 0, 10, 20));
        Check.state("14: there is such a one", () -> x.reserve(0, 0, 50, 60));
        Check.state("14: in any zone", () -> x.reserve(0, 1, 50, 60));
        Check.no("14: the place is taken", x.reserve(29, 0, 10, 20));
        Check.yes("14: what was not made is not there", x.reserve(29, 0, 20, 21));
        Check.yes("14: the last minute", x.reserve(1, 0, 199_999, 200_000));
        Check.is("7: before all of them", 1, x.enter(0, 1, 9));
        x.leave(1, 9);
        Check.yes("14: plates inside do not matter", x.reserve(2, 0, 9, 10));
        x.enter(0, 1, 21);
        Check.state("14: it is over, but still there", () -> x.reserve(0, 0, 50, 60));
    }

    private static void reserveWrong() {
        ParkOffice x = Check.hourly();
        x.enter(0, 1, 100);
        Check.argument("14: id -1", () -> x.reserve(-1, 0, 100, 200));
        Check.argument("14: id 30", () -> x.reserve(30, 0, 100, 200));
        Check.argument("14: zone -1", () -> x.reserve(0, -1, 100, 200));
        Check.argument("14: zone 4", () -> x.reserve(0, 4, 100, 200));
        Check.argument("14: before the latest minute", () -> x.reserve(0, 0, 99, 200));
        Check.argument("14: from -1", () -> x.reserve(0, 0, -1, 200));
        Check.argument("14: to is from", () -> x.reserve(0, 0, 100, 100));
        Check.argument("14: to before from", () -> x.reserve(0, 0, 100, 99));
        Check.argument("14: to 200,001", () -> x.reserve(0, 0, 100, 200_001));
        Check.argument("14: from 200,001", () -> x.reserve(0, 0, 200_001, 200_002));
        Check.no("15: none was made", x.cancelReserve(0));
        Check.yes("14: from the latest minute on", x.reserve(0, 0, 100, 101));
        Check.argument("14: the argument wins", () -> x.reserve(0, 0, 100, 100));
        ParkOffice y = Check.hourlyShut();
        Check.state("14: not open", () -> y.reserve(0, 0, 0, 1));
        Check.argument("14: not open, but the argument wins", () -> y.reserve(0, 0, 1, 1));
    }

    private static void noMoreThanPlaces() {
        ParkOffice x = withPlaces(2);
        x.reserve(0, 0, 10, 20);
        x.reserve(1, 0, 30, 40);
        x.reserve(2, 0, 35, 50);
        Check.no("14: two at 35", x.reserve(3, 0, 15, 36));
        Check.yes("14: not yet at 34", x.reserve(3, 0, 15, 35));
        Check.no("14: two at 15", x.reserve(4, 0, 0, 16));
        Check.yes("14: to is not one of them", x.reserve(4, 0, 0, 15));
        Check.no("14: two from 35 on", x.reserve(5, 0, 39, 45));
        Check.yes("14: from 40 on one", x.reserve(5, 0, 40, 45));
        Check.no("14: two in the midst", x.reserve(6, 0, 0, 1000));
        Check.no("14: also from the same minute on", x.reserve(6, 0, 35, 36));
        Check.yes("14: another zone", x.reserve(6, 1, 0, 1000));
        ParkOffice y = Check.hourly();
        for (int id = 0; id < 20; id++) {
            Check.yes("14: twenty", y.reserve(id, 2, 0, 10));
        }
        Check.no("14: not 21", y.reserve(20, 2, 9, 10));
    }

    private static void cancel() {
        ParkOffice x = withPlaces(1);
        Check.argument("15: id -1", () -> x.cancelReserve(-1));
        Check.argument("15: id 30", () -> x.cancelReserve(30));
        Check.no("15: there was none", x.cancelReserve(29));
        x.reserve(29, 0, 0, 100);
        Check.is("15: it takes the place", 0, x.enter(0, 1, 0));
        Check.yes("15: there was one", x.cancelReserve(29));
        Check.no("15: now there is none", x.cancelReserve(29));
        Check.is("15: the place is free", 1, x.enter(0, 1, 0));
        Check.yes("15: its minutes are free", x.reserve(29, 0, 0, 100));
        x.fee(1, 500);
        Check.yes("15: also one that is over", x.cancelReserve(29));
    }

    private static void placesTaken() {
        ParkOffice x = withPlaces(3);
        x.enter(0, 1, 0);
        x.reserve(0, 0, 10, 20);
        x.reserve(1, 0, 10, 15);
        x.reserve(2, 1, 0, 100);
        x.reserve(3, 1, 0, 100);
        Check.is("7: not running yet", 2, x.enter(0, 2, 9));
        x.lost(2, 0, 9);
        Check.is("7: running from 10 on", 0, x.enter(0, 3, 10));
        Check.is("7: up to 14", 0, x.enter(0, 3, 14));
        Check.is("7: one is running still", 0, x.enter(0, 3, 15));
        Check.is("7: up to 19", 0, x.enter(0, 3, 19));
        Check.is("7: 20 is not one of its minutes", 4, x.enter(0, 3, 20));
        ParkOffice y = withPlaces(2);
        y.enter(0, 1, 0);
        y.enter(0, 2, 0);
        Check.yes("14: more than are free now", y.reserve(0, 0, 0, 100));
        y.leave(1, 0);
        Check.is("7: fewer places than plates", 0, y.enter(0, 3, 0));
        y.leave(2, 0);
        Check.is("7: one", 3, y.enter(0, 3, 0));
    }
}
