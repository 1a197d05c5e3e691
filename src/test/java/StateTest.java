/** What is claimed, and found wrong, wherever a parcel is: sentences of Scans and Claims, and of doubts and customs. */
public final class StateTest {
    private static final int[] STATES = {Ropewalk.UNSORTED, Ropewalk.ROW, Ropewalk.LANE, Ropewalk.READY, Ropewalk.VAN,
        Ropewalk.LOCKER, Ropewalk.HELD};

    public static void main(String[] args) {
        silentInEach();
        silentAtCustoms();
        lateInEach();
        lateByClock();
        silentAmongOthers();
        goneReturns();
        stepByFirstScan();
        stepOfThisVisit();
        stepByMissedScans();
        stepOverBorder();
        quickestOfLanes();
        doubtOfReturn();
        customsAndCash();
        customsAndReturns();
        lostReturn();
        Check.end();
    }

    /** The clock is 71; the parcel 0 was told at 0 and scanned then alone, and is there. */
    private static Ropewalk silent(int state) {
        Ropewalk x = new Ropewalk();
        x.lane(0, 1, 24, false);
        x.plan(0, 1, 0, 0);
        x.plan(0, 1, 1, 0);
        x.address(0, 60);
        x.address(1, 0);
        x.parcel(0, 0, 0, state == Ropewalk.ROW || state == Ropewalk.LANE ? 1 : 0, 1, false);
        x.worth(0, 100, 0);
        x.promise(0, 0, 24, 71);
        x.fail(0, 20, false);
        x.fail(1, 20, false);
        if (state == Ropewalk.UNSORTED) {
            x.sorts(0, 0);
        } else if (state == Ropewalk.ROW) {
            x.timetable(0, 1, 100, 1, 1, 1);
        } else if (state == Ropewalk.LANE) {
            x.timetable(0, 1, 60, 1, 1, 1);
        } else if (state == Ropewalk.HELD) {
            x.doubt(0, 1);
        } else if (state == Ropewalk.VAN) {
            Scenes.at(x, 60);
            x.van(0, 1, 23);
        } else if (state == Ropewalk.LOCKER) {
            x.away(0, 0, 24);
            x.locker(0, 1, 0, 0);
            Scenes.at(x, 24);
            x.van(0, 1, 3);
            x.van(0, 1, 7);
        }
        return Scenes.at(x, 71);
    }

    private static void silentInEach() {
        for (int state : STATES) {
            Ropewalk x = silent(state);
            Check.due("24 it is there 71 hours later", x.where(0), state);
            Check.due("24 none but TAKEN was noted", x.scans(), 1);
            Check.refused("24 GONE 71 hours later, in " + state, Check.STATE, () -> x.claim(0, Ropewalk.GONE, true));
            x.hour(1);
            Check.due("24 it is there 72 hours later", x.where(0), state);
            Check.due("24 GONE 72 hours later, in " + state, x.claim(0, Ropewalk.GONE, true), 100);
            Check.due("24 a claim moves nothing, in " + state, x.where(0), state);
            Check.due("24 nor is it scanned, in " + state, x.scans(), 1);
        }
    }

    private static void silentAtCustoms() {
        Ropewalk x = Scenes.pair(true);
        x.parcel(0, 0, 0, 2, 1, false);
        x.worth(0, 100, 0);
        x.hour(4);
        Check.due("16 HELD by customs", x.where(0), Ropewalk.HELD);
        Scenes.at(x, 75);
        Check.refused("24 GONE 71 hours behind CAME", Check.STATE, () -> x.claim(0, Ropewalk.GONE, true));
        x.hour(1);
        Check.due("24 GONE 72 hours behind CAME, at customs", x.claim(0, Ropewalk.GONE, false), 50);
    }

    /** The promise is 71: at 71 it is not past, at 72 it is, wherever the parcel is; and LOST as well. */
    private static void lateInEach() {
        for (int state : STATES) {
            Ropewalk x = silent(state);
            Check.refused("24 LATE in the hour of the promise, in " + state, Check.STATE, () -> x.claim(0, Ropewalk.LATE, true));
            x.hour(1);
            Check.due("24 LATE an hour behind, in " + state, x.claim(0, Ropewalk.LATE, true), 2);
            Check.due("24 a claim moves nothing, in " + state, x.where(0), state);
            Ropewalk y = silent(state);
            if (state != Ropewalk.VAN) {
                y.lose(0);
                Check.refused("24 LOST, in the hour of the promise, from " + state, Check.STATE, () -> y.claim(0, Ropewalk.LATE, true));
                y.hour(2);
                Check.due("24 LOST, two hours behind, from " + state, y.claim(0, Ropewalk.LATE, true), 4);
            }
        }
    }

    /** HANDED at 30; its scan GIVEN may be missed, and it may be express: LATE is told by the clock alone. */
    private static void lateByClock() {
        for (int kind = 0; kind < 4; kind++) {
            Ropewalk x = Scenes.pair(false);
            x.sorts(0, 0);
            x.parcel(0, 0, 0, 1, 1, kind % 2 == 1);
            x.promise(0, 0, 24, kind == 0 ? 20 : 3);
            Scenes.at(x, 29);
            x.sorts(0, 1);
            x.van(0, 1, 6);
            if (kind < 3) {
                x.fail(0, 20, false);
            }
            Scenes.at(x, 50);
            Check.due("24 GIVEN is missed or not " + kind, x.scans(), kind < 3 ? 1 : 4);
            Check.due("24 as late as it was HANDED " + kind, x.claim(0, Ropewalk.LATE, true), kind == 0 ? 20 : 50);
        }
    }

    /** No scan of it was noted; those of another one do not count. */
    private static void silentAmongOthers() {
        Ropewalk x = Scenes.pair(false);
        x.sorts(0, 0);
        x.fail(0, 1, false);
        x.parcel(0, 0, 0, 2, 1, false);
        x.worth(0, 100, 0);
        Scenes.at(x, 71);
        x.parcel(0, 1, 0, 2, 1, false);
        x.worth(1, 100, 0);
        Check.refused("24 told 71 hours ago", Check.STATE, () -> x.claim(0, Ropewalk.GONE, true));
        x.hour(1);
        Check.due("24 told 72 hours ago, another one was scanned since", x.claim(0, Ropewalk.GONE, true), 100);
        Check.refused("24 that one is not GONE", Check.STATE, () -> x.claim(1, Ropewalk.GONE, true));
    }

    private static void goneReturns() {
        int[] states = {Ropewalk.UNSORTED, Ropewalk.ROW, Ropewalk.LANE, Ropewalk.READY, Ropewalk.HELD};
        for (int state : states) {
            Ropewalk x = silent(state);
            x.giveBack(0);
            x.sorts(0, 0);
            x.hour(1);
            Check.due("24 GONE is right for a return too, from " + state, x.claim(0, Ropewalk.GONE, true), 100);
            Ropewalk y = silent(state);
            y.giveBack(0);
            y.hour(1);
            Check.refused("24 LATE is not, from " + state, Check.STATE, () -> y.claim(0, Ropewalk.LATE, true));
            Ropewalk z = silent(state);
            z.giveBack(0);
            z.lose(0);
            Check.due("24 GONE of a return that is LOST, from " + state, z.claim(0, Ropewalk.GONE, true), 100);
        }
    }

    private static void found(Ropewalk x, int depot, int clock) {
        x.lose(0);
        Scenes.at(x, clock);
        x.find(0, depot);
    }

    /** Lanes of three hours between 0 and 1; the parcel 0 is told at 0, and nothing is sorted. */
    private static Ropewalk idle() {
        Ropewalk x = Scenes.pair(false);
        x.sorts(0, 0);
        x.sorts(1, 0);
        x.parcel(0, 0, 0, 2, 1, false);
        return x;
    }

    private static void stepByFirstScan() {
        Ropewalk x = idle();
        found(x, 0, 2);
        found(x, 1, 4);
        found(x, 1, 9);
        Check.due("41 the first scan at the other is two hours behind", x.wrong(0), 0);
        Ropewalk y = idle();
        found(y, 0, 2);
        found(y, 1, 5);
        found(y, 1, 9);
        Check.due("41 the first scan at the other is three hours behind", y.wrong(0), Ropewalk.NONE);
        Ropewalk z = idle();
        found(z, 0, 4);
        found(z, 1, 5);
        Check.due("41 the last scan at the one, not the first", z.wrong(0), 0);
    }

    /** To and fro: of each step the scans of this step count, not those of another visit of the depot. */
    private static void stepOfThisVisit() {
        Ropewalk x = idle();
        found(x, 1, 3);
        found(x, 0, 6);
        found(x, 1, 9);
        found(x, 0, 12);
        Check.due("41 four steps of three hours are right", x.wrong(0), Ropewalk.NONE);
        Check.due("40 five depots", x.way(0, 4), 0);
        found(x, 1, 14);
        Check.due("41 the fifth one is not", x.wrong(0), 4);
        Ropewalk y = idle();
        found(y, 1, 3);
        found(y, 1, 6);
        found(y, 0, 8);
        found(y, 1, 14);
        Check.due("41 the second one is not", y.wrong(0), 1);
    }

    /** LEFT, or LEFT and CAME, are missed: the step is that from SORTED to what is noted next. */
    private static void stepByMissedScans() {
        Ropewalk z = Scenes.pair(false);
        z.parcel(0, 0, 0, 2, 1, false);
        z.timetable(0, 1, 2, 1, 1, 1);
        z.hour(1);
        z.fail(0, 1, false);
        z.hour(4);
        Check.due("38 all but LEFT", z.scans(), 4);
        Check.due("41 from SORTED to CAME", z.wrong(0), Ropewalk.NONE);
        Ropewalk x = Scenes.pair(false);
        x.parcel(0, 0, 0, 2, 1, false);
        x.timetable(0, 1, 2, 1, 1, 1);
        x.hour(1);
        x.fail(0, 1, false);
        x.fail(1, 1, false);
        x.hour(4);
        Check.due("38 TAKEN, SORTED and SORTED", x.scans(), 3);
        Check.due("40 two depots", x.way(0, 1), 1);
        Check.due("41 the step is right", x.wrong(0), Ropewalk.NONE);
        Ropewalk y = Scenes.pair(false);
        y.address(2, 0);
        y.lane(1, 2, 1, false);
        y.plan(0, 2, 0, 0);
        y.plan(1, 2, 0, 2);
        y.parcel(0, 0, 0, 4, 1, false);
        y.fail(1, 20, false);
        y.hour(5);
        Check.due("16 it came to the depot 2", y.at(0), 2);
        Check.due("40 by its scans from 0", y.way(0, 0), 0);
        Check.due("40 to 2 at once", y.way(0, 1), 2);
        Check.due("41 but no lane leads so", y.wrong(0), 0);
        y.lane(0, 2, 5, false);
        Check.due("41 one that takes longer", y.wrong(0), 0);
        y.lane(0, 2, 4, false);
        Check.due("41 one that takes as long", y.wrong(0), Ropewalk.NONE);
    }

    private static void stepOverBorder() {
        Ropewalk x = Scenes.pair(true);
        x.parcel(0, 0, 0, 2, 1, false);
        x.hour(4);
        Check.due("41 over a border", x.wrong(0), Ropewalk.NONE);
    }

    /** The quickest of three lanes counts, whichever it is of them; lanes of other depots are quicker. */
    private static void quickestOfLanes() {
        int[][] orders = {{3, 5, 7}, {3, 7, 5}, {5, 3, 7}, {7, 3, 5}, {5, 7, 3}, {7, 5, 3}};
        for (int[] hours : orders) {
            for (int clock = 2; clock < 5; clock++) {
                Ropewalk x = new Ropewalk();
                x.address(0, 0);
                x.sorts(0, 0);
                x.lane(1, 0, 1, false);
                for (int k : hours) {
                    x.lane(0, 1, k, false);
                }
                x.lane(0, 2, 1, false);
                x.lane(2, 1, 1, false);
                x.parcel(0, 0, 0, 0, 1, false);
                found(x, 1, clock);
                String what = "41 in " + clock + " hours, with lanes of " + hours[0] + ", " + hours[1] + " and " + hours[2];
                Check.due(what, x.wrong(0), clock < 3 ? 0 : Ropewalk.NONE);
            }
        }
    }

    /** A fresh return may have a doubt: its second address is another one than its receiver, its sender perhaps. */
    private static void doubtOfReturn() {
        Ropewalk x = Scenes.pair(false);
        x.parcel(0, 0, 0, 2, 1, false);
        x.giveBack(0);
        Check.refused("13 its receiver is not its target, but its receiver", Check.ARGUMENT, () -> x.doubt(0, 2));
        Check.due("13 its sender may be meant", x.doubt(0, 0), true);
        Check.due("13 another one in place of it", x.doubt(0, 3), false);
        Check.due("17 its target is its sender's depot", x.resolve(0, true), 0);
        Check.refused("17 the second address is its receiver then", Check.ARGUMENT, () -> x.doubt(0, 3));
        Check.due("17 what was its receiver is no more", x.doubt(0, 2), true);
        x.hour(1);
        Check.due("16 HELD at its sender's depot", x.where(0), Ropewalk.HELD);
        Check.due("17 not the other", x.resolve(0, false), 0);
        x.hour(1);
        Check.due("16 READY there", x.where(0), Ropewalk.READY);
    }

    private static void customsAndCash() {
        Ropewalk x = Scenes.pair(true);
        x.van(1, 1, 4);
        x.parcel(0, 0, 0, 2, 1, false);
        x.worth(0, 0, 500);
        Check.due("44 cash is no value", x.foreseen(0), 4);
        x.hour(4);
        Check.due("16 cash is not held by customs", x.where(0), Ropewalk.HANDED);
        Check.due("37 its cash", x.cash(1), 500);
    }

    private static void customsAndReturns() {
        Ropewalk x = Scenes.pair(true);
        x.timetable(1, 1, 3, 1, 1, 1);
        x.van(0, 1, 8);
        x.parcel(0, 0, 0, 2, 1, false);
        x.worth(0, 1, 0);
        x.hour(1);
        x.giveBack(0);
        Check.due("44 a return on its way to customs", x.foreseen(0), Ropewalk.NONE);
        x.lose(0);
        x.find(0, 1);
        Check.due("44 a return ahead of a border", x.foreseen(0), Ropewalk.NONE);
        x.hour(1);
        Check.due("16 it is in the row", x.where(0), Ropewalk.ROW);
        Check.due("44 a return in a row to customs", x.foreseen(0), Ropewalk.NONE);
        x.hour(4);
        Check.due("16 a return is HELD by customs too", x.where(0), Ropewalk.HELD);
        Check.due("28 at its sender's depot", x.at(0), 0);
        Check.due("18 its duty", x.duty(0), 1);
        Check.due("44 then it is foreseen", x.foreseen(0), 8);
        x.hour(1);
        Check.due("44 a return that is READY", x.foreseen(0), 8);
        Check.due("16 and comes so", x.hour(1), 1);
    }

    /** LOST behind a round it is of no stock, and its last scan, FAILED, is of none. */
    private static void lostReturn() {
        Ropewalk x = Scenes.pair(false);
        x.away(0, 0, 24);
        for (int i = 1; i < 4; i++) {
            x.van(0, 1, i);
        }
        x.parcel(0, 0, 0, 1, 1, false);
        x.giveBack(0);
        x.hour(3);
        Check.due("16 LOST", x.where(0), Ropewalk.LOST);
        Check.due("42 of no stock", x.stock(0), 0);
        Check.due("43 of none by scans", x.stockByScans(0), 0);
        Check.due("34 on no van", x.onVan(2), 0);
        Check.due("31 at no place", x.place(0), Ropewalk.NONE);
        x.hour(5);
        Check.due("22 for five hours", x.find(0, 1), 5);
        Check.due("22 a return still", x.part(0, 3), 1);
        Check.due("22 at another depot", x.stock(1), 1);
    }
}
