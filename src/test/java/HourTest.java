/** Promise 16, hour: the six steps of an hour, rounds and lockers. */
public final class HourTest {
    public static void main(String[] args) {
        limits();
        trailersCome();
        customs();
        lockersEmpty();
        sorting();
        fullRow();
        departures();
        patience();
        loading();
        roundOrder();
        roundWay();
        longRound();
        windows();
        backToDepot();
        returnsLost();
        lockerChoice();
        cashIsPaid();
        vansOfOneHour();
        Check.end();
    }

    private static void limits() {
        Ropewalk x = new Ropewalk();
        Check.refused("16 none", Check.ARGUMENT, () -> x.hour(0));
        Check.refused("16 above", Check.ARGUMENT, () -> x.hour(25));
        Check.refused("16 below", Check.ARGUMENT, () -> x.hour(-1));
        for (int i = 0; i < 24; i++) {
            x.hour(24);
        }
        x.hour(23);
        Check.refused("16 the clock above 600", Check.STATE, () -> x.hour(2));
        Check.refused("16 argument first", Check.ARGUMENT, () -> x.hour(25));
        Check.due("16 changes nothing", x.clock(), 599);
        Check.due("16 up to 600", x.hour(1), 0);
        Check.refused("16 at 600", Check.STATE, () -> x.hour(1));
        Check.due("16 clock", x.clock(), 600);
    }

    private static Ropewalk oneLane(boolean crosses) {
        Ropewalk x = new Ropewalk();
        x.lane(0, 1, 3, crosses);
        x.plan(0, 1, 0, 0);
        x.plan(0, 1, 1, 0);
        x.address(0, 0);
        x.address(1, 4);
        return x;
    }

    private static void trailersCome() {
        Ropewalk x = oneLane(false);
        x.sorts(1, 0);
        x.parcel(0, 0, 0, 1, 1, false);
        x.parcel(0, 1, 0, 1, 1, true);
        x.hour(1);
        Check.due("16 left at once", x.onLane(0), 2);
        x.parcel(0, 2, 0, 1, 1, true);
        x.hour(2);
        Check.due("16 two trailers", x.onLane(0), 3);
        x.parcel(0, 3, 1, 1, 1, true);
        x.hour(1);
        Check.due("16 the first one came", x.onLane(0), 1);
        Check.due("16 unsorted", x.where(1), Ropewalk.UNSORTED);
        Check.due("16 at its depot", x.at(1), 1);
        Check.due("16 in the order of loading", x.place(1), 1);
        Check.due("16 the other behind", x.place(0), 2);
        Check.due("16 scanned CAME", x.scan(x.scans() - 1, 3), Ropewalk.CAME);
        Check.due("16 scanned where it came", x.scan(x.scans() - 1, 1), 1);
        x.sorts(1, 5);
        x.hour(2);
        Check.due("16 the second one came and was sorted then", x.where(2), Ropewalk.READY);
    }

    private static void customs() {
        Ropewalk x = oneLane(true);
        for (int i = 0; i < 3; i++) {
            x.parcel(0, i, 0, 1, 1, false);
        }
        x.worth(0, 1, 0);
        x.worth(1, 1, 0);
        x.duty(1);
        x.hour(4);
        Check.due("16 HELD by customs", x.where(0), Ropewalk.HELD);
        Check.due("16 HELD at the depot", x.at(0), 1);
        Check.due("16 its duty was paid", x.where(1), Ropewalk.READY);
        Check.due("16 without value", x.where(2), Ropewalk.READY);
        Check.due("16 scanned CAME though HELD", x.way(0, 1), 1);
        Check.due("16 in the stock", x.stock(1), 3);
    }

    /** A parcel whose receiver is never at home, put into the locker 0 at the hour 32. */
    private static Ropewalk stored() {
        Ropewalk x = new Ropewalk();
        x.address(0, 0);
        x.address(0, 1);
        x.away(1, 0, 24);
        x.van(0, 9, 8);
        x.locker(0, 1, 0, 0);
        x.parcel(0, 0, 0, 1, 1, false);
        x.hour(24);
        x.hour(8);
        Check.due("16 in the locker", x.where(0), Ropewalk.LOCKER);
        Check.due("16 scanned STORED", x.scan(x.scans() - 1, 3), Ropewalk.STORED);
        return x;
    }

    private static void lockersEmpty() {
        Ropewalk x = stored();
        x.hour(24);
        x.hour(23);
        Check.due("16 there for 47 hours", x.where(0), Ropewalk.LOCKER);
        Check.due("16 no return", x.part(0, 3), 0);
        x.sorts(0, 0);
        x.hour(1);
        Check.due("16 there for 48 hours", x.where(0), Ropewalk.UNSORTED);
        Check.due("16 a return", x.part(0, 3), 1);
        Check.due("16 no failures", x.part(0, 2), 0);
        Check.due("16 no code", x.part(0, 6), 0);
        Check.due("16 its compartment is free", x.free(0, 1), 1);
        Check.due("16 scanned BACK", x.scan(x.scans() - 1, 3), Ropewalk.BACK);
        Ropewalk y = stored();
        y.hour(24);
        y.hour(23);
        Check.due("16 sorted and handed in the same hour", y.hour(1), 1);
    }

    private static void sorting() {
        Ropewalk x = oneLane(false);
        x.address(2, 0);
        x.sorts(0, 2);
        x.parcel(0, 0, 0, 2, 1, false);
        x.parcel(0, 1, 0, 0, 1, false);
        x.parcel(0, 2, 0, 1, 1, false);
        x.parcel(0, 3, 0, 2, 1, true);
        x.hour(1);
        Check.due("16 sorted in vain counts", x.place(0), 3);
        Check.due("16 the others move up", x.place(1), 0);
        Check.due("16 the other in vain", x.where(3), Ropewalk.UNSORTED);
        x.hour(1);
        Check.due("16 behind all others", x.place(3), 2);
        Check.due("16 READY", x.where(1), Ropewalk.READY);
        Check.due("16 not scanned in vain", x.scans(), 5);
        x.sorts(0, 40);
        x.hour(1);
        Check.due("16 once an hour in vain", x.scans(), 7);
    }

    private static void fullRow() {
        Ropewalk x = oneLane(false);
        x.sorts(0, 40);
        x.timetable(0, 20, 100, 1, 1, 0);
        for (int i = 0; i < 22; i++) {
            x.parcel(0, i, 0, 1, 1, false);
        }
        x.hour(1);
        Check.due("16 twenty in a row", x.count(Ropewalk.ROW), 20);
        Check.due("16 the last one of it", x.place(19), 19);
        Check.due("16 no room for others", x.where(20), Ropewalk.UNSORTED);
    }

    private static void departures() {
        Ropewalk x = oneLane(false);
        x.timetable(0, 10, 5, 4, 2, 2);
        x.parcel(0, 0, 0, 1, 1, false);
        x.hour(4);
        Check.due("16 not ahead of the first one", x.waits(0), Ropewalk.NONE);
        x.hour(1);
        Check.due("16 waits for a load", x.waits(0), 0);
        x.hour(1);
        Check.due("16 still waits", x.waits(0), 1);
        x.hour(1);
        Check.due("16 leaves after its patience", x.onLane(0), 1);
        Check.due("16 waits no more", x.waits(0), Ropewalk.NONE);
        x.hour(1);
        Check.due("16 none due", x.waits(0), Ropewalk.NONE);
        x.parcel(0, 1, 0, 1, 1, false);
        x.parcel(0, 2, 0, 1, 1, false);
        x.hour(1);
        Check.due("16 the least load leaves at once", x.onLane(0), 3);
        Check.due("16 none waits", x.waits(0), Ropewalk.NONE);
    }

    private static void patience() {
        Ropewalk x = oneLane(false);
        x.timetable(0, 10, 2, 3, 1, 3);
        x.hour(4);
        Check.due("16 waits with an empty row", x.waits(0), 2);
        x.hour(1);
        Check.due("16 not beyond its patience, though one is due", x.waits(0), Ropewalk.NONE);
        x.hour(3);
        Check.due("16 the next one", x.waits(0), 0);
        x.timetable(0, 10, 2, 3, 1, 0);
        x.parcel(0, 0, 0, 1, 1, false);
        x.hour(1);
        Check.due("16 leaves later than its patience", x.onLane(0), 1);
        x.hour(2);
        Check.due("16 no patience, nothing in the row", x.waits(0), Ropewalk.NONE);
    }

    private static void loading() {
        Ropewalk x = oneLane(false);
        x.timetable(0, 2, 2, 1, 2, 24);
        x.parcel(0, 0, 0, 1, 1, false);
        x.parcel(0, 1, 0, 1, 1, false);
        x.hour(1);
        x.parcel(0, 2, 0, 1, 1, true);
        x.hour(1);
        Check.due("16 express ones first", x.where(2), Ropewalk.LANE);
        Check.due("16 then in order", x.where(0), Ropewalk.LANE);
        Check.due("16 no more than its room", x.where(1), Ropewalk.ROW);
        Check.due("16 scanned LEFT", x.scan(x.scans() - 1, 3), Ropewalk.LEFT);
        Check.due("16 in the order of loading", x.scan(x.scans() - 2, 0), 2);
        Check.due("16 scanned where it left", x.scan(x.scans() - 1, 1), 0);
        x.hour(3);
        Check.due("16 as many hours as the lane takes", x.where(0), Ropewalk.READY);
        Check.due("16 another waits", x.waits(0), 2);
    }

    private static void roundOrder() {
        Ropewalk x = new Ropewalk();
        x.address(0, 0);
        x.van(0, 5, 9);
        x.parcel(0, 0, 0, 0, 2, false);
        x.parcel(0, 1, 0, 0, 3, false);
        x.parcel(0, 2, 0, 0, 1, false);
        x.parcel(0, 3, 0, 0, 2, true);
        x.parcel(0, 4, 0, 0, 1, false);
        x.promise(1, 0, 12, 100);
        x.promise(2, 5, 12, 100);
        x.promise(3, 23, 24, 100);
        Check.due("16 the first one waits for its window", x.hour(9), 0);
        int at = 10;
        Check.due("16 express first", x.scan(at, 0), 3);
        Check.due("16 then by the window and number", x.scan(at + 1, 0), 1);
        Check.due("16 OUT", x.scan(at + 1, 3), Ropewalk.OUT);
        Check.due("16 the room is full", x.onVan(0), 2);
        Check.due("16 READY ones stay", x.count(Ropewalk.READY), 3);
        Check.due("16 only to the window of its own", x.where(1), Ropewalk.VAN);
    }

    private static void roundWay() {
        Ropewalk x = new Ropewalk();
        x.address(0, 30);
        x.address(0, 57);
        x.address(0, 60);
        x.van(0, 30, 9);
        for (int i = 0; i < 5; i++) {
            x.parcel(0, i, 0, i % 3, 1, false);
        }
        // Ways: 30 to 57 to 60 to 30 to 57, at the minutes 60, 119, 130, 195 and 254 behind 9 o'clock.
        x.hour(8);
        Check.due("16 none in the hour of the start", x.hour(1), 0);
        Check.due("16 on the van", x.onVan(0), 5);
        Check.due("16 the minutes 60 and 119", x.hour(1), 2);
        Check.due("16 the minute 130", x.hour(1), 1);
        Check.due("16 the minute 195", x.hour(1), 1);
        Check.due("16 still on", x.onVan(0), 1);
        Check.due("16 the minute 254", x.hour(1), 1);
        Check.due("16 scanned GIVEN", x.scan(x.scans() - 1, 3), Ropewalk.GIVEN);
        Check.due("16 given then", x.scan(x.scans() - 1, 2), 13);
        Check.due("16 all are", x.count(Ropewalk.HANDED), 5);
    }

    private static void longRound() {
        Ropewalk x = new Ropewalk();
        x.address(0, 60);
        x.address(0, 0);
        x.van(0, 30, 0);
        x.sorts(0, 40);
        for (int i = 0; i < 13; i++) {
            x.parcel(0, i, 0, i % 2, 1, false);
        }
        // The stop k is at the minute 120 + 125 k, the last one at 1620: in the hour 27.
        x.hour(23);
        Check.due("16 the stop 10 is in the hour 22, the day of the start", x.hour(24), 11);
        Check.due("16 still on its way", x.onVan(0), 2);
        x.parcel(0, 99, 1, 1, 1, false);
        x.hour(3);
        Check.due("16 no other round begins", x.where(13), Ropewalk.READY);
        Check.due("16 back", x.hour(1), 0);
        Check.due("16 behind midnight all fail", x.part(12, 2), 1);
        Check.due("16 scanned BACK", x.scan(x.scans() - 1, 3), Ropewalk.BACK);
        Check.due("16 READY again", x.where(11), Ropewalk.READY);
    }

    private static void windows() {
        Check.due("16 the end of the window", handedAt(9, 5, 9), 0);
        Check.due("16 the last hour of it", handedAt(9, 5, 10), 9);
        Check.due("16 waits for it", handedAt(9, 11, 12), 11);
        Ropewalk x = new Ropewalk();
        x.address(0, 10);
        x.address(0, 12);
        x.van(0, 9, 8);
        x.parcel(0, 0, 0, 0, 1, false);
        x.parcel(0, 1, 0, 1, 1, false);
        x.promise(0, 10, 11, 100);
        x.promise(1, 10, 12, 100);
        x.hour(9);
        Check.due("16 the second waits behind the first", x.onVan(0), 2);
        Check.due("16 both", x.hour(1), 2);
        Ropewalk y = new Ropewalk();
        y.address(0, 0);
        y.address(0, 27);
        y.address(0, 0);
        y.van(0, 9, 8);
        for (int i = 0; i < 3; i++) {
            y.parcel(0, i, 0, i, 1, true);
            y.promise(i, i == 0 ? 10 : 0, 24, 100);
        }
        y.hour(9);
        Check.due("16 the minutes 0 and 59 of the hour 10", y.hour(1), 2);
        Check.due("16 the minute 118", y.hour(1), 1);
    }

    private static int handedAt(int start, int from, int to) {
        Ropewalk x = new Ropewalk();
        x.address(0, 0);
        x.van(0, 1, start);
        x.parcel(0, 0, 0, 0, 1, false);
        x.promise(0, from, to, 100);
        for (int i = 0; i < 23; i++) {
            if (x.hour(1) == 1) {
                return x.clock();
            }
        }
        return 0;
    }

    private static void backToDepot() {
        Ropewalk x = new Ropewalk();
        x.address(0, 0);
        x.address(0, 20);
        x.away(1, 0, 24);
        x.van(0, 9, 8);
        x.parcel(0, 0, 0, 1, 1, false);
        x.hour(8);
        Check.due("16 one failure", x.part(0, 2), 1);
        Check.due("16 READY", x.where(0), Ropewalk.READY);
        Check.due("16 scanned FAILED", x.scan(x.scans() - 2, 3), Ropewalk.FAILED);
        Check.due("16 scanned BACK", x.scan(x.scans() - 1, 3), Ropewalk.BACK);
        x.hour(24);
        Check.due("16 two failures", x.part(0, 2), 2);
        Check.due("16 READY without a locker", x.where(0), Ropewalk.READY);
        x.hour(24);
        Check.due("16 a return", x.part(0, 3), 1);
        Check.due("16 UNSORTED", x.where(0), Ropewalk.UNSORTED);
        Check.due("16 no failures of a return", x.part(0, 2), 0);
        Check.due("16 handed to its sender", x.hour(24), 1);
    }

    private static void returnsLost() {
        Ropewalk x = new Ropewalk();
        x.address(0, 20);
        x.away(0, 0, 24);
        x.van(0, 9, 8);
        x.locker(0, 5, 5, 5);
        x.parcel(0, 0, 0, 0, 1, false);
        x.giveBack(0);
        x.hour(24);
        x.hour(24);
        Check.due("16 no return comes into a locker", x.where(0), Ropewalk.READY);
        int before = x.scans();
        x.hour(8);
        Check.due("16 LOST", x.where(0), Ropewalk.LOST);
        Check.due("16 OUT and FAILED alone", x.scans(), before + 2);
        x.hour(3);
        Check.due("16 for three hours", x.find(0, 1), 3);
    }

    private static void lockerChoice() {
        Ropewalk x = new Ropewalk();
        x.address(0, 0);
        x.away(0, 0, 24);
        x.van(0, 30, 8);
        x.locker(1, 5, 5, 5);
        x.locker(0, 1, 0, 1);
        x.locker(0, 5, 5, 0);
        x.parcel(0, 0, 0, 0, 1, false);
        x.parcel(0, 1, 0, 0, 1, false);
        x.parcel(0, 2, 0, 0, 3, false);
        x.parcel(0, 3, 0, 0, 1, false);
        x.parcel(0, 4, 0, 0, 1, false);
        x.worth(3, 0, 1);
        x.hour(24);
        Check.due("16 none after one failure", x.count(Ropewalk.LOCKER), 0);
        x.hour(8);
        Check.due("16 the least compartment", x.free(1, 1), 0);
        Check.due("16 a greater one of the lower locker", x.at(1), 1);
        Check.due("16 no locker of another depot", x.free(0, 3), 5);
        Check.due("16 no room for it", x.where(2), Ropewalk.READY);
        Check.due("16 none with cash", x.where(3), Ropewalk.READY);
        Check.due("16 the next locker", x.at(4), 2);
        Check.due("16 code", x.part(1, 6), 1000 + 37 + 101 + 32);
        Check.due("16 code of the next one", x.part(4, 6), 1000 + 4 * 37 + 2 * 101 + 32);
    }

    private static void cashIsPaid() {
        Ropewalk x = new Ropewalk();
        x.address(0, 0);
        x.address(0, 40);
        x.van(0, 9, 22);
        x.parcel(0, 0, 0, 0, 1, false);
        x.parcel(1, 0, 0, 1, 1, false);
        x.parcel(2, 0, 1, 0, 1, false);
        x.worth(0, 0, 7);
        x.worth(1, 0, 500);
        x.worth(2, 0, 9);
        x.giveBack(2);
        x.promise(2, 0, 24, 9);
        x.hour(22);
        Check.due("16 cash on the van is not at the depot", x.cash(0), 0);
        Check.due("16 one is given", x.where(0), Ropewalk.HANDED);
        x.hour(1);
        Check.due("16 all cash but that of a return", x.cash(0), 507);
        Check.due("16 not paid out yet", x.account(0), 0);
        x.merge(0, 3);
        x.hour(1);
        Check.due("16 paid out", x.cash(0), 0);
        Check.due("16 to the customer by then", x.account(3), 7);
        Check.due("16 to the other", x.account(1), 500);
        Check.due("16 none for a return", x.account(2), 0);
    }

    private static void vansOfOneHour() {
        Ropewalk x = new Ropewalk();
        x.address(0, 0);
        x.away(0, 0, 24);
        x.van(0, 9, 8);
        x.van(0, 9, 8);
        x.van(1, 9, 8);
        x.parcel(0, 0, 0, 0, 1, false);
        x.hour(8);
        Check.due("16 the next van takes what is READY again", x.part(0, 2), 2);
        Check.due("16 a van of another depot does not", x.onVan(2), 0);
    }
}
