/** States from which several tests begin. None takes more than 300 calls, so that some are left to ask. */
final class Scenes {
    private Scenes() {
    }

    /** Depots 0 and 1 with a lane each way of three hours, addresses 0 and 1 at 0, 2 and 3 at 1. */
    static Ropewalk pair(boolean crosses) {
        Ropewalk x = new Ropewalk();
        x.lane(0, 1, 3, crosses);
        x.lane(1, 0, 3, crosses);
        for (int half = 0; half < 2; half++) {
            x.plan(0, 1, half, 0);
            x.plan(1, 0, half, 1);
        }
        x.address(0, 0);
        x.address(0, 0);
        x.address(1, 0);
        x.address(1, 0);
        return x;
    }

    /** The clock is 49: a parcel in each of the nine, its number that of where it is, and others besides. */
    static Ropewalk busy() {
        Ropewalk x = new Ropewalk();
        busyNet(x);
        int[] from = {0, 0, 0, 0, 3, 3, 0, 3, 0, 0};
        int[] to = {2, 1, 3, 0, 3, 3, 0, 3, 0, 3};
        for (int i = 0; i < from.length; i++) {
            x.parcel(i % 3, i / 3, from[i], to[i], 1, false);
        }
        x.worth(2, 10, 0);
        x.duty(2);
        x.worth(9, 200, 0);
        x.doubt(6, 1);
        x.lose(8);
        x.lose(4);
        x.hour(24);
        x.hour(24);
        x.fetch(1, x.part(7, 6));
        x.lose(2);
        x.find(2, 0);
        x.find(4, 3);
        x.promise(4, 20, 24, 9);
        busyMore(x);
        x.hour(1);
        x.hire(4, 3, 40);
        x.fail(0, 2, false);
        x.fail(0, 3, true);
        x.fail(3, 1, true);
        return x;
    }

    private static void busyNet(Ropewalk x) {
        x.lane(3, 2, 1, false);
        x.lane(0, 1, 24, false);
        x.lane(0, 3, 24, true);
        x.lane(1, 2, 3, false);
        for (int half = 0; half < 2; half++) {
            x.plan(0, 1, half, 1);
            x.plan(0, 3, half, 2);
            x.plan(1, 2, half, 3);
        }
        x.timetable(1, 10, 100, 1, 1, 1);
        x.timetable(3, 5, 47, 9, 5, 24);
        for (int depot = 0; depot < 5; depot++) {
            x.address(depot, depot == 4 ? 7 : 0);
        }
        x.away(3, 0, 24);
        x.van(2, 9, 1);
        x.van(3, 9, 1);
        x.locker(1, 1, 1, 1);
        x.locker(3, 1, 1, 1);
        x.sorts(4, 0);
    }

    /** 10 is HANDED with its cash at the depot 2; 11 is fresh with a doubt; 12 is LOST and paid; 13 a return. */
    private static void busyMore(Ropewalk x) {
        x.parcel(3, 77, 2, 2, 1, false);
        x.worth(10, 55, 30);
        x.parcel(3, 78, 4, 0, 2, true);
        x.doubt(11, 1);
        x.parcel(2, 500, 0, 1, 3, false);
        x.worth(12, 999, 0);
        x.doubt(12, 0);
        x.lose(12);
        x.claim(12, Ropewalk.GONE, true);
        x.parcel(1, 9, 4, 1, 1, false);
        x.giveBack(13);
    }

    /** As many of everything as there may be: 12 lanes, 20 addresses, 40 parcels, 6 vans, 5 lockers. */
    static Ropewalk full() {
        Ropewalk x = new Ropewalk();
        for (int i = 0; i < 12; i++) {
            x.lane(i % 5, (i + 1) % 5, 1 + i, false);
        }
        for (int i = 0; i < 20; i++) {
            x.address(i % 5, i);
        }
        for (int i = 0; i < 40; i++) {
            x.parcel(i % 4, i / 4, i % 20, i / 2, 1 + i % 3, false);
        }
        for (int i = 0; i < 6; i++) {
            x.van(i % 5, 9, i);
        }
        for (int i = 0; i < 5; i++) {
            x.locker(i, 1, 1, 1);
        }
        return x;
    }

    /** So many scans are noted, 350 to 400; the parcel 0 is LOST, and was scanned last at the depot 0. */
    static Ropewalk scanned(int many) {
        Ropewalk x = new Ropewalk();
        x.address(0, 0);
        x.away(0, 0, 24);
        x.sorts(0, 40);
        x.van(0, 30, 1);
        x.van(0, 30, 1);
        for (int i = 0; i < 40; i++) {
            x.parcel(0, i, 0, 0, 1, false);
        }
        x.hour(24);
        x.hour(24);
        x.lose(0);
        while (x.scans() < many) {
            x.find(0, 0);
            x.lose(0);
        }
        return x;
    }

    /** The clock is so many hours above 0. */
    static Ropewalk at(Ropewalk x, int clock) {
        while (x.clock() < clock) {
            x.hour(Math.min(24, clock - x.clock()));
        }
        return x;
    }
}
