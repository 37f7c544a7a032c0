/** Promises 11 to 13: contracts that let some of their plates in at once. */
public final class ContractTest {
    public static void main(String[] args) {
        contract();
        contractWrong();
        contractAnew();
        plate();
        twelvePlates();
        letIn();
        dropped();
        Check.finish();
    }

    private static void contract() {
        ParkOffice x = Check.hourlyShut();
        x.contract(19, 3, 9);
        for (int plate = 1; plate <= 10; plate++) {
            x.plate(19, plate);
        }
        x.open();
        for (int plate = 1; plate <= 10; plate++) {
            x.enter(3, plate, 0);
        }
        for (int ticket = 1; ticket <= 9; ticket++) {
            Check.is("11: nine at once", 0, x.fee(ticket, 1));
        }
        Check.is("11: not ten", 400, x.fee(10, 1));
    }

    private static void contractWrong() {
        ParkOffice x = Check.hourly();
        Check.argument("11: id -1", () -> x.contract(-1, 0, 1));
        Check.argument("11: id 20", () -> x.contract(20, 0, 1));
        Check.argument("11: zone -1", () -> x.contract(0, -1, 1));
        Check.argument("11: zone 4", () -> x.contract(0, 4, 1));
        Check.argument("11: k 0", () -> x.contract(0, 0, 0));
        Check.argument("11: k 10", () -> x.contract(0, 0, 10));
        Check.state("11: none was told by that", () -> x.plate(0, 1));
        x.contract(0, 0, 1);
        x.plate(0, 1);
        x.enter(0, 1, 0);
        Check.state("11: a plate is inside under it", () -> x.contract(0, 1, 1));
        Check.argument("11: the argument wins", () -> x.contract(0, 0, 10));
        x.dropPlate(1);
        Check.state("11: also if it was dropped meanwhile", () -> x.contract(0, 1, 1));
        Check.fine("11: another contract", () -> x.contract(1, 1, 1));
        x.leave(1, 5);
        Check.fine("11: it left", () -> x.contract(0, 1, 1));
    }

    private static void contractAnew() {
        ParkOffice x = Check.hourly();
        x.contract(0, 0, 1);
        x.plate(0, 1);
        x.plate(0, 2);
        x.plate(0, 3);
        x.enter(1, 3, 0);
        Check.fine("11: inside, but not under it", () -> x.contract(0, 1, 2));
        Check.is("11: its plates stay, the zone is new", 0, x.fee(x.enter(1, 1, 0), 1));
        Check.is("11: and so is k", 0, x.fee(x.enter(5, 2, 1), 2));
        Check.is("11: what was inside before owes", 200, x.fee(1, 2));
        x.leave(2, 2);
        Check.is("11: the old zone counts no more", 100, x.fee(x.enter(0, 1, 2), 3));
    }

    private static void plate() {
        ParkOffice x = Check.hourly();
        x.contract(0, 0, 1);
        x.contract(1, 0, 1);
        Check.argument("12: contract -1", () -> x.plate(-1, 1));
        Check.argument("12: contract 20", () -> x.plate(20, 1));
        Check.argument("12: plate 0", () -> x.plate(0, 0));
        Check.argument("12: plate 1,000,001", () -> x.plate(0, 1_000_001));
        Check.state("12: no such contract", () -> x.plate(2, 1));
        Check.argument("12: the argument wins", () -> x.plate(2, 0));
        Check.fine("12: the greatest plate", () -> x.plate(0, 1_000_000));
        Check.fine("12: it does already", () -> x.plate(0, 1_000_000));
        Check.state("12: it belongs to another one", () -> x.plate(1, 1_000_000));
        Check.yes("13: it belonged once, not twice", x.dropPlate(1_000_000));
        Check.no("13: to none now", x.dropPlate(1_000_000));
        Check.fine("12: now it may", () -> x.plate(1, 1_000_000));
        x.enter(0, 5, 0);
        x.plate(0, 5);
        Check.is("12: not for a plate that is inside already", 100, x.fee(1, 10));
    }

    private static void twelvePlates() {
        ParkOffice x = Check.hourly();
        x.contract(0, 0, 9);
        x.contract(1, 0, 9);
        for (int plate = 1; plate <= 12; plate++) {
            x.plate(0, plate);
        }
        Check.state("12: it has 12 plates", () -> x.plate(0, 13));
        Check.fine("12: nothing happens if it is one of them", () -> x.plate(0, 12));
        Check.fine("12: another contract takes it", () -> x.plate(1, 13));
        Check.yes("13: one less", x.dropPlate(3));
        Check.fine("12: one more", () -> x.plate(0, 14));
        Check.state("12: twelve again", () -> x.plate(0, 15));
        for (int plate = 1; plate <= 14; plate++) {
            if (plate != 3) {
                Check.yes("13: the others stayed", x.dropPlate(plate));
            }
        }
    }

    private static void letIn() {
        ParkOffice x = Check.hourlyShut();
        x.places(0, 3);
        x.open();
        x.contract(0, 0, 2);
        for (int plate = 1; plate <= 5; plate++) {
            x.plate(0, plate);
        }
        Check.is("11: another zone than its own", 200, x.fee(x.enter(1, 5, 0), 1));
        int first = x.enter(0, 1, 1);
        int second = x.enter(4, 2, 1);
        int third = x.enter(0, 3, 1);
        Check.is("11: the first", 0, x.fee(first, 100));
        Check.is("11: the second", 0, x.fee(second, 100));
        Check.is("11: k are inside", 200, x.fee(third, 100));
        Check.is("7: full, also for a contract", 0, x.enter(0, 4, 100));
        Check.yes("9: always 0", x.leave(first, 50_000));
        Check.is("11: who owes, goes on owing", 100 * 834, x.fee(third, 50_001));
        Check.is("11: fewer than k again", 0, x.fee(x.enter(0, 4, 50_001), 60_000));
        Check.is("16: nothing to pay", 0, x.payBegin(second, 0, 60_000));
    }

    private static void dropped() {
        ParkOffice x = Check.hourly();
        Check.argument("13: plate 0", () -> x.dropPlate(0));
        Check.argument("13: plate 1,000,001", () -> x.dropPlate(1_000_001));
        Check.no("13: never belonged", x.dropPlate(1));
        x.contract(0, 0, 1);
        x.contract(1, 0, 1);
        x.plate(0, 1);
        x.plate(0, 2);
        x.enter(0, 1, 0);
        Check.yes("13: dropped", x.dropPlate(1));
        Check.is("13: it was let in under it", 0, x.fee(1, 100));
        Check.is("13: it counts till it leaves", 100, x.fee(x.enter(0, 2, 100), 101));
        x.plate(1, 1);
        Check.fine("13: it is not inside under its new one", () -> x.contract(1, 0, 1));
        Check.state("13: but under its old one", () -> x.contract(0, 0, 1));
        x.leave(1, 101);
        x.plate(0, 3);
        Check.is("13: now it does not", 0, x.fee(x.enter(0, 3, 101), 200));
        Check.is("13: its new one lets it in", 0, x.fee(x.enter(0, 1, 200), 300));
        x.dropPlate(2);
        x.enter(0, 5, 300);
        Check.is("13: one that owed goes on owing", 400, x.fee(2, 300));
    }
}
