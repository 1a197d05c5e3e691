/** The last ones of all that there may be, and the longest: 40 parcels, 12 lanes, 6 vans, 5 depots, a round of days. */
public final class WideTest {
    public static void main(String[] args) {
        fortyUnsorted();
        fortyWithCash();
        lastInLocker();
        lastReference();
        twelfthLane();
        sixthVan();
        lastHour();
        roundOfDays();
        roundOfADayAndAnHour();
        Check.end();
    }

    /** So many parcels of the depot 0 that go to it, of the customers 0 to 3 in turn. */
    private static Ropewalk heap(int many) {
        Ropewalk x = new Ropewalk();
        x.address(0, 0);
        x.sorts(0, 40);
        for (int i = 0; i < many; i++) {
            x.parcel(i % 4, i, 0, 0, 1, false);
        }
        return x;
    }

    private static void fortyUnsorted() {
        Ropewalk x = heap(40);
        for (int i = 0; i < 40; i++) {
            Check.due("31 place of " + i, x.place(i), i);
        }
        Check.due("30 forty", x.count(Ropewalk.UNSORTED), 40);
        Check.due("42 forty", x.stock(0), 40);
        Check.due("43 forty", x.stockByScans(0), 40);
        x.lose(20);
        Check.due("31 those behind one that is LOST move up", x.place(39), 38);
        Check.due("31 those ahead of it stay", x.place(19), 19);
        Check.due("42 one less", x.stock(0), 39);
        Check.due("43 not by scans", x.stockByScans(0), 40);
        x.find(20, 0);
        Check.due("31 behind all", x.place(20), 39);
    }

    private static void fortyWithCash() {
        Ropewalk x = heap(40);
        x.van(0, 30, 1);
        x.van(0, 30, 1);
        int[] sums = new int[4];
        int all = 0;
        for (int i = 0; i < 40; i++) {
            x.worth(i, 0, 1 + i);
            sums[i % 4] += 1 + i;
            all += 1 + i;
        }
        Check.due("16 all forty", x.hour(23), 40);
        Check.due("37 of all forty", x.cash(0), all);
        x.hour(1);
        for (int i = 0; i < 4; i++) {
            Check.due("36 paid to the customer " + i, x.account(i), sums[i]);
        }
        Check.due("37 none is left", x.cash(0), 0);
    }

    private static void lastInLocker() {
        Ropewalk x = heap(40);
        x.away(0, 0, 24);
        x.locker(0, 1, 0, 0);
        for (int i = 0; i < 39; i++) {
            x.lose(i);
        }
        x.van(0, 1, 1);
        x.van(0, 1, 1);
        x.hour(1);
        Check.due("16 the last one is in the locker", x.where(39), Ropewalk.LOCKER);
        x.sorts(0, 0);
        Scenes.at(x, 49);
        Check.due("16 it is taken out too", x.where(39), Ropewalk.UNSORTED);
        Check.due("16 as a return", x.part(39, 3), 1);
    }

    private static void lastReference() {
        Ropewalk x = new Ropewalk();
        x.address(0, 0);
        for (int i = 0; i < 40; i++) {
            x.parcel(i < 39 ? 0 : 1, i < 39 ? i : 5, 0, 0, 1, false);
        }
        Check.due("25 the last one has the reference 5", x.merge(0, 1), 34);
        Check.due("25 a lower one stays", x.part(4, 0), 4);
        for (int i = 5; i < 39; i++) {
            Check.due("25 the next one, each takes that of the one behind, " + i, x.part(i, 0), i + 1);
        }
        Check.due("25 the last one is merged too", x.merge(1, 2), 0);
        Check.due("25 its customer", x.part(39, 1), 2);
    }

    /** Twelve lanes from 0 to 1: the lane k takes 12 - k hours, the twelfth one is the quickest. */
    private static void twelfthLane() {
        Ropewalk x = new Ropewalk();
        for (int i = 0; i < 12; i++) {
            x.lane(0, 1, 13 - i, false);
        }
        x.address(0, 0);
        x.address(1, 0);
        x.van(1, 1, 5);
        x.plan(0, 1, 0, 11);
        x.parcel(0, 0, 0, 1, 1, false);
        Check.due("44 by the twelfth lane", x.foreseen(0), 5);
        x.timetable(11, 1, 2, 1, 1, 1);
        x.hour(1);
        Check.due("28 the row of the twelfth lane", x.at(0), 11);
        Check.due("44 in its row", x.foreseen(0), 5);
        x.hour(1);
        Check.due("33 on the twelfth lane", x.onLane(11), 1);
        Check.due("44 on its way", x.foreseen(0), 5);
        x.hour(2);
        Check.due("16 it came by the twelfth lane", x.where(0), Ropewalk.READY);
        Check.due("41 the twelfth lane is the quickest", x.wrong(0), Ropewalk.NONE);
    }

    private static void sixthVan() {
        Ropewalk x = heap(1);
        for (int i = 0; i < 5; i++) {
            x.van(1, 1, 3);
        }
        Check.due("44 no van there", x.foreseen(0), Ropewalk.NONE);
        Check.due("14 the sixth one", x.van(0, 1, 4), 5);
        Check.due("44 by the sixth van", x.foreseen(0), 4);
        Check.due("16 none ahead", x.hour(3), 0);
        Check.due("16 by the sixth van", x.hour(1), 1);
    }

    /** The hour 600, at each depot: a trailer comes, it is sorted, one leaves, a van starts, cash is paid. */
    private static void lastHour() {
        for (int depot = 0; depot < 5; depot++) {
            int next = (depot + 1) % 5;
            Ropewalk x = new Ropewalk();
            x.lane(depot, next, 1, false);
            x.plan(depot, next, 0, 0);
            x.plan(depot, next, 1, 0);
            x.address(depot, 0);
            x.address(next, 0);
            x.van(next, 1, 0);
            x.van(depot, 1, 0);
            Scenes.at(x, 598);
            x.parcel(3, 0, 0, 1, 1, false);
            x.worth(0, 0, 500);
            x.hour(1);
            x.parcel(3, 1, 0, 0, 1, false);
            x.worth(1, 0, 20);
            x.parcel(3, 2, 0, 1, 1, false);
            Check.due("16 the last hour, two vans " + depot, x.hour(1), 2);
            Check.due("16 the last hour, it was sorted and left " + depot, x.where(2), Ropewalk.LANE);
            Check.due("36 the last hour, cash of two depots " + depot, x.account(3), 520);
            Check.due("39 the last clock " + depot, x.scan(x.scans() - 1, 2), 600);
        }
    }

    /** Thirty stops 125 minutes apart, the first at 120: the stop k is done in the hour of its minute, for 62 hours. */
    private static void roundOfDays() {
        Ropewalk x = new Ropewalk();
        x.address(0, 60);
        x.address(0, 0);
        x.sorts(0, 40);
        x.van(0, 30, 3);
        for (int i = 0; i < 30; i++) {
            x.parcel(0, i, 0, i % 2, 1, false);
        }
        x.hour(3);
        Check.due("16 all are OUT", x.onVan(0), 30);
        x.parcel(1, 0, 1, 1, 1, true);
        int given = 0;
        for (int hours = 1; hours < 62; hours++) {
            int done = 0;
            for (int k = 0; k < 30; k++) {
                done += (120 + 125 * k) / 60 <= hours ? 1 : 0;
            }
            given += x.hour(1);
            Check.due("16 stops done " + hours + " hours behind", x.scans(), 92 + done);
            // From 21 hours behind the start on, at 3, it is the hour 24 of its day: those stops fail.
            Check.due("16 given " + hours + " hours behind", given, Math.min(done, 10));
            Check.due("34 on the van " + hours + " hours behind", x.onVan(0), 30 - given);
            Check.due("16 no other round begins " + hours + " hours behind", x.where(30), Ropewalk.READY);
        }
        x.hour(1);
        Check.due("16 back 62 hours behind the start", x.onVan(0), 0);
        Check.due("16 those that failed are READY", x.count(Ropewalk.READY), 21);
        Check.due("16 the one that was told later is the first one of the next round", x.hour(10), 1);
        Check.due("16 a day and more behind the end of the first one", x.where(30), Ropewalk.HANDED);
    }

    /** A round that ends 25 hours behind its start: the next one begins a day behind that. */
    private static void roundOfADayAndAnHour() {
        Ropewalk x = new Ropewalk();
        x.address(0, 60);
        x.address(0, 0);
        x.sorts(0, 40);
        x.van(0, 30, 3);
        for (int i = 0; i < 13; i++) {
            x.parcel(0, i, 0, i < 12 ? i % 2 : 1, 1, false);
        }
        Scenes.at(x, 27);
        x.parcel(1, 0, 1, 1, 1, false);
        x.hour(1);
        Check.due("16 back 25 hours behind the start", x.onVan(0), 0);
        Check.due("16 no round begins by then", x.where(13), Ropewalk.READY);
        x.hour(22);
        Check.due("16 nor ahead of the next start", x.where(13), Ropewalk.READY);
        Scenes.at(x, 75);
        Check.due("16 all are given at last", x.count(Ropewalk.HANDED) > 11 ? 1 : 0, 1);
    }
}
