/** The sentences of the Terms ahead of promise 1 and of Scans and Claims, and the promises 10 to 44 at their bounds. */
public final class TermsEdgeTest {
    public static void main(String[] args) {
        onePlace();
        fresh();
        doubtGoes();
        failuresGo();
        fairReturns();
        heldByBoth();
        blindAndStammer();
        lastScans();
        wayOnlyOthers();
        rightSteps();
        goneAndValue();
        goneAndHours();
        goneAndTold();
        lateAndHours();
        lateAndHanded();
        lateAndReturns();
        paidOnce();
        owed();
        duties();
        merged();
        mergedAround();
        mergedLater();
        Check.end();
    }

    private static void onePlace() {
        Ropewalk x = Scenes.busy();
        for (int round = 0; round < 3; round++) {
            int sum = 0;
            for (int i = 0; i < 9; i++) {
                sum += x.count(i);
            }
            Check.due("Terms: each parcel has one place", sum, 14);
            Check.due("Terms: on a lane", x.onLane(0) + x.onLane(1) + x.onLane(2) + x.onLane(3), x.count(Ropewalk.LANE));
            Check.due("Terms: on a van", x.onVan(0) + x.onVan(1), x.count(Ropewalk.VAN));
            Check.due("Terms: in a locker", x.free(1, 1) + x.free(1, 2) + x.free(1, 3), 3 - x.count(Ropewalk.LOCKER));
            int stock = 0;
            for (int i = 0; i < 5; i++) {
                stock += x.stock(i);
            }
            int away = x.count(Ropewalk.LANE) + x.count(Ropewalk.VAN) + x.count(Ropewalk.HANDED) + x.count(Ropewalk.LOST);
            Check.due("42 all others are of a depot's stock", stock, 14 - away);
            x.hour(round == 0 ? 1 : 23);
        }
    }

    /** Sorted, in vain or not, it is not fresh; told, lost, found, given back and forwarded it is. */
    private static void fresh() {
        Ropewalk x = Scenes.pair(false);
        x.plan(0, 1, 0, Ropewalk.NONE);
        for (int i = 0; i < 3; i++) {
            x.parcel(0, i, 0, 2, 1, false);
        }
        x.sorts(0, 1);
        x.hour(1);
        Check.refused("Terms: sorted in vain it is not fresh", Check.STATE, () -> x.worth(0, 1, 1));
        Check.due("Terms: the next one is", x.worth(1, 1, 1), 1);
        x.lose(1);
        Check.due("Terms: LOST it is", x.worth(1, 11, 1), 2);
        x.find(1, 1);
        Check.due("Terms: found it is", x.promise(1, 0, 24, 1), 2);
        x.giveBack(1);
        Check.due("Terms: as a return it is", x.doubt(1, 1), true);
        x.forward(1, 0);
        Check.due("Terms: forwarded it is", x.doubt(1, 1), true);
        x.resolve(1, true);
        Check.due("Terms: resolved it is", x.worth(1, 21, 1), 3);
        x.duty(1);
        Check.due("Terms: its duty paid it is", x.worth(1, 31, 1), 4);
        x.sorts(0, 0);
        x.hour(1);
        Check.refused("Terms: sorted it is not", Check.STATE, () -> x.worth(1, 1, 1));
        x.hour(24);
        Check.due("Terms: not sorted at all it is", x.worth(2, 41, 1), 5);
        x.sorts(0, 3);
        x.hour(1);
        Check.refused("Terms: but not for good", Check.STATE, () -> x.doubt(2, 1));
        x.lose(2);
        x.find(2, 0);
        Check.refused("Terms: nor again when it was found", Check.STATE, () -> x.doubt(2, 1));
        Check.refused("Terms: of each kind", Check.STATE, () -> x.promise(2, 0, 24, 1));
    }

    private static void doubtGoes() {
        for (int how = 0; how < 4; how++) {
            Ropewalk x = Scenes.pair(false);
            x.parcel(0, 0, 0, 1, 1, false);
            x.doubt(0, 3);
            if (how == 0) {
                Check.due("17 not the other", x.resolve(0, false), 0);
            } else if (how == 1) {
                Check.due("17 the other", x.resolve(0, true), 1);
            } else if (how == 2) {
                x.forward(0, 1);
            } else {
                x.giveBack(0);
            }
            Check.refused("Terms: no doubt any more " + how, Check.STATE, () -> x.resolve(0, true));
            Check.due("13 had none " + how, x.doubt(0, 2), true);
        }
        Ropewalk y = Scenes.pair(false);
        y.parcel(0, 0, 0, 1, 1, false);
        y.doubt(0, 3);
        y.lose(0);
        y.find(0, 0);
        Check.due("Terms: a doubt stays while it is LOST", y.doubt(0, 2), false);
        y.hour(1);
        Check.due("Terms: HELD by it at its target", y.where(0), Ropewalk.HELD);
        Check.due("42 of the stock", y.stock(0), 1);
        Ropewalk z = Scenes.pair(false);
        z.parcel(0, 0, 0, 2, 1, false);
        z.doubt(0, 1);
        z.hour(1);
        Check.due("Terms: HELD at its target alone", z.where(0), Ropewalk.LANE);
        z.hour(3);
        Check.due("Terms: HELD there", z.where(0), Ropewalk.HELD);
        Check.due("16 SORTED all the same", z.scan(z.scans() - 1, 3), Ropewalk.SORTED);
        Check.due("17 back it goes", z.resolve(0, true), 0);
        z.hour(4);
        Check.due("17 to the other", z.at(0), 0);
    }

    private static void failuresGo() {
        for (int how = 0; how < 3; how++) {
            Ropewalk x = Scenes.pair(false);
            x.away(1, 0, 24);
            x.van(0, 1, 1);
            x.van(0, 1, 2);
            x.parcel(0, 0, 0, 1, 1, false);
            x.hour(2);
            Check.due("Terms: two failures " + how, x.part(0, 2), 2);
            if (how == 0) {
                x.forward(0, 1);
            } else if (how == 1) {
                x.giveBack(0);
            } else {
                x.lose(0);
                x.find(0, 0);
            }
            Check.due("Terms: forwarded or a return it has none, found it has " + how, x.part(0, 2), how < 2 ? 0 : 2);
        }
        Ropewalk y = Scenes.pair(false);
        y.away(0, 0, 24);
        y.van(0, 1, 1);
        y.parcel(0, 0, 0, 1, 1, false);
        y.giveBack(0);
        y.hour(1);
        Check.due("Terms: a return failed", y.part(0, 2), 1);
        y.forward(0, 3);
        Check.due("Terms: forwarded it has none", y.part(0, 2), 0);
        Check.due("19 and is no return", y.part(0, 3), 0);
    }

    /** Its target is the depot of its receiver, or of its sender if it is a return, or of the new receiver. */
    private static void fairReturns() {
        Ropewalk x = Scenes.pair(false);
        x.parcel(0, 0, 0, 2, 1, false);
        Check.due("Terms: to its receiver", x.part(0, 7), 1);
        Check.due("20 to its sender", x.giveBack(0), 0);
        Check.due("Terms: its target then", x.part(0, 7), 0);
        Check.refused("20 not twice", Check.STATE, () -> x.giveBack(0));
        Check.due("19 to another one", x.forward(0, 3), 1);
        Check.due("Terms: its target again", x.part(0, 7), 1);
        Check.due("20 once more", x.giveBack(0), 0);
        Check.due("31 its place stays through all that", x.place(0), 0);
        Check.due("38 none of that is scanned", x.scans(), 1);
    }

    /** Customs hold a parcel that has a doubt too: its doubt holds it only when it is sorted there. */
    private static void heldByBoth() {
        Ropewalk x = Scenes.pair(true);
        x.parcel(0, 0, 0, 2, 1, false);
        x.worth(0, 1, 0);
        x.doubt(0, 3);
        x.hour(4);
        Check.due("18 HELD by customs", x.where(0), Ropewalk.HELD);
        Check.due("18 the duty of 1", x.duty(0), 1);
        Check.due("18 UNSORTED", x.where(0), Ropewalk.UNSORTED);
        x.hour(1);
        Check.due("16 HELD by its doubt then", x.where(0), Ropewalk.HELD);
        Check.due("17 resolved", x.resolve(0, true), 1);
        Check.due("17 UNSORTED again", x.where(0), Ropewalk.UNSORTED);
        Ropewalk y = Scenes.pair(true);
        y.parcel(0, 0, 0, 2, 1, false);
        y.worth(0, 1, 0);
        y.doubt(0, 3);
        y.hour(4);
        Check.due("19 forwarded, HELD by customs", y.forward(0, 0), 0);
        Check.due("19 stays", y.where(0), Ropewalk.HELD);
        Check.due("20 a return, HELD by customs", y.giveBack(0), 0);
        Check.due("20 stays", y.where(0), Ropewalk.HELD);
        y.duty(0);
        y.hour(4);
        Check.due("18 its duty is paid for all borders", y.where(0), Ropewalk.READY);
        Check.due("18 at its sender", y.at(0), 0);
    }

    private static void blindAndStammer() {
        Ropewalk x = Scenes.pair(false);
        x.fail(0, 2, false);
        x.fail(0, 2, true);
        x.parcel(0, 0, 0, 1, 1, false);
        Check.due("4 the first one is missed", x.scans(), 0);
        x.parcel(0, 1, 2, 1, 1, false);
        Check.due("4 another depot's is noted", x.scans(), 1);
        x.parcel(0, 2, 0, 1, 1, false);
        Check.due("4 the second one is missed", x.scans(), 1);
        x.parcel(0, 3, 0, 1, 1, false);
        Check.due("4 the third one twice", x.scans(), 3);
        Check.due("4 one stammer is left", x.fail(0, 1, true), 1);
        Check.due("4 blind for none", x.fail(0, 0, false), 0);
        x.parcel(0, 4, 0, 1, 1, false);
        Check.due("4 the fourth one twice", x.scans(), 5);
        Check.due("39 both of the same parcel", x.scan(3, 0), x.scan(4, 0));
        Check.due("39 of the same kind", x.scan(3, 3), x.scan(4, 3));
        x.parcel(0, 5, 0, 1, 1, false);
        Check.due("4 the fifth one once", x.scans(), 6);
        Check.due("39 numbered one behind the other", x.scan(5, 0), 5);
        Check.due("40 noted twice, one depot of its way", x.way(4, 1), Ropewalk.NONE);
        Check.due("43 and one parcel", x.stockByScans(0), 3);
    }

    /** Each kind of scan as the last one of a parcel: TAKEN, SORTED, CAME, STORED and BACK are of the stock. */
    private static void lastScans() {
        int[] isStock = {1, 1, 0, 1, 0, 0, 0, 1, 0, 1};
        int seen = 0;
        for (int clock = 49; clock < 109; clock++) {
            Ropewalk x = Scenes.at(Scenes.busy(), clock);
            int[] kinds = new int[14];
            int[] depots = new int[14];
            for (int i = 0; i < x.scans(); i++) {
                kinds[x.scan(i, 0)] = x.scan(i, 3);
                depots[x.scan(i, 0)] = x.scan(i, 1);
            }
            int[] want = new int[5];
            for (int parcel = 0; parcel < 14; parcel++) {
                want[depots[parcel]] += isStock[kinds[parcel]];
                seen |= 1 << kinds[parcel];
            }
            for (int depot = 0; depot < 5; depot++) {
                Check.due("43 at " + clock + " of " + depot, x.stockByScans(depot), want[depot]);
            }
        }
        Check.due("43 all kinds were last ones", seen, 0b1111111111);
    }

    private static void wayOnlyOthers() {
        Ropewalk x = Scenes.pair(false);
        x.parcel(0, 0, 0, 2, 1, false);
        int[] depots = {0, 4, 4, 0, 0, 3};
        for (int depot : depots) {
            x.lose(0);
            x.find(0, depot);
        }
        int[] way = {0, 4, 0, 3};
        for (int i = 0; i < way.length; i++) {
            Check.due("40 only another one than the one ahead " + i, x.way(0, i), way[i]);
        }
        Check.due("40 not so many", x.way(0, way.length), Ropewalk.NONE);
        x.fail(0, 1, false);
        x.parcel(0, 1, 0, 2, 1, false);
        Check.due("40 none was noted", x.way(1, 0), Ropewalk.NONE);
        Check.due("41 no step then", x.wrong(1), Ropewalk.NONE);
    }

    /** From 0 to 1 in so many hours by scans, with lanes that take 3 and 5. */
    private static Ropewalk stepOf(int hours) {
        Ropewalk x = new Ropewalk();
        x.address(0, 0);
        x.sorts(0, 0);
        x.lane(1, 0, 1, false);
        x.lane(0, 1, 5, false);
        x.lane(0, 1, 3, false);
        x.parcel(0, 0, 0, 0, 1, false);
        x.hour(2);
        x.lose(0);
        x.find(0, 0);
        x.lose(0);
        if (hours > 0) {
            x.hour(hours);
        }
        x.find(0, 1);
        return x;
    }

    private static void rightSteps() {
        int[] hours = {0, 1, 2, 3, 4, 5, 6};
        for (int k : hours) {
            Check.due("41 right from the quickest lane's hours on, " + k, stepOf(k).wrong(0), k < 3 ? 0 : Ropewalk.NONE);
        }
        Ropewalk x = stepOf(3);
        x.lose(0);
        x.hour(1);
        x.find(0, 0);
        Check.due("41 the way back is right too", x.wrong(0), Ropewalk.NONE);
        x.lose(0);
        x.hour(24);
        x.find(0, 2);
        Check.due("41 no lane leads there", x.wrong(0), 2);
        x.lane(0, 2, 24, false);
        Check.due("41 one that takes as long", x.wrong(0), Ropewalk.NONE);
        x.lose(0);
        x.find(0, 1);
        x.lose(0);
        x.find(0, 2);
        Check.due("41 the first of two that are not right", x.wrong(0), 3);
    }

    private static Ropewalk lost(int value) {
        Ropewalk x = Scenes.pair(false);
        x.parcel(0, 0, 0, 2, 1, false);
        x.worth(0, value, 0);
        x.lose(0);
        return x;
    }

    private static void goneAndValue() {
        int[][] values = {{1, 1, 0}, {2, 2, 1}, {3, 3, 1}, {499, 499, 249}, {500, 500, 250}, {501, 500, 250}, {1000, 500, 250}};
        for (int[] v : values) {
            Ropewalk x = lost(v[0]);
            Check.due("24 GONE with a proof, of " + v[0], x.claim(0, Ropewalk.GONE, true), v[1]);
            Check.due("36 into the account, of " + v[0], x.account(0), v[1]);
            Check.due("29 what was paid, of " + v[0], x.part(0, 5), v[1]);
            Ropewalk y = lost(v[0]);
            if (v[2] == 0) {
                Check.refused("24 worth 0 without a proof, of " + v[0], Check.STATE, () -> y.claim(0, Ropewalk.GONE, false));
            } else {
                Check.due("24 GONE without a proof, of " + v[0], y.claim(0, Ropewalk.GONE, false), v[2]);
            }
            Check.due("36 the half, of " + v[0], y.account(0), v[2]);
        }
        Check.refused("24 of the value 0", Check.STATE, () -> lost(0).claim(0, Ropewalk.GONE, true));
    }

    private static Ropewalk silent(int hours) {
        Ropewalk x = Scenes.at(Scenes.pair(false), 3);
        x.sorts(0, 0);
        x.parcel(0, 0, 0, 2, 1, false);
        x.worth(0, 10, 0);
        return Scenes.at(x, 3 + hours);
    }

    private static void goneAndHours() {
        Check.refused("24 a scan 71 hours ago", Check.STATE, () -> silent(71).claim(0, Ropewalk.GONE, true));
        Check.due("24 a scan 72 hours ago", silent(72).claim(0, Ropewalk.GONE, true), 10);
        Check.due("24 a scan 73 hours ago", silent(73).claim(0, Ropewalk.GONE, true), 10);
        Ropewalk x = silent(80);
        x.lose(0);
        x.find(0, 0);
        Check.refused("24 a scan now", Check.STATE, () -> x.claim(0, Ropewalk.GONE, true));
        Scenes.at(x, 83 + 71);
        Check.refused("24 the last scan 71 hours ago", Check.STATE, () -> x.claim(0, Ropewalk.GONE, true));
        x.hour(1);
        Check.due("24 the last scan 72 hours ago", x.claim(0, Ropewalk.GONE, true), 10);
        Check.due("24 LOST, at once", lost(10).claim(0, Ropewalk.GONE, true), 10);
    }

    /** No scan of it was noted, so that it counts when it was told; and one that is missed later does not count. */
    private static void goneAndTold() {
        Ropewalk x = Scenes.at(Scenes.pair(false), 3);
        x.sorts(0, 0);
        x.fail(0, 1, false);
        x.parcel(0, 0, 0, 2, 1, false);
        x.worth(0, 10, 0);
        Scenes.at(x, 3 + 71);
        Check.refused("24 told 71 hours ago", Check.STATE, () -> x.claim(0, Ropewalk.GONE, true));
        x.hour(1);
        Check.due("24 told 72 hours ago", x.claim(0, Ropewalk.GONE, true), 10);
        Ropewalk y = silent(71);
        y.fail(0, 1, false);
        y.lose(0);
        y.find(0, 0);
        y.hour(1);
        Check.due("24 a scan that was missed does not count", y.claim(0, Ropewalk.GONE, true), 10);
        Ropewalk z = Scenes.pair(false);
        z.van(0, 1, 1);
        z.parcel(0, 0, 0, 1, 1, false);
        z.worth(0, 10, 0);
        Scenes.at(z, 100);
        Check.refused("24 HANDED, though its last scan is 99 hours ago", Check.STATE, () -> z.claim(0, Ropewalk.GONE, true));
    }

    /** Not HANDED so many hours behind its promise. */
    private static Ropewalk past(int hours) {
        Ropewalk x = Scenes.pair(false);
        x.parcel(0, 0, 0, 1, 1, false);
        x.promise(0, 0, 24, 20);
        return Scenes.at(x, 20 + hours);
    }

    private static void lateAndHours() {
        Check.refused("24 an hour ahead of the promise", Check.STATE, () -> past(-1).claim(0, Ropewalk.LATE, true));
        Check.refused("24 the hour of the promise", Check.STATE, () -> past(0).claim(0, Ropewalk.LATE, true));
        int[][] hours = {{1, 2}, {2, 4}, {24, 48}, {25, 50}, {26, 50}, {300, 50}};
        for (int[] h : hours) {
            Check.due("24 late by " + h[0], past(h[0]).claim(0, Ropewalk.LATE, false), h[1]);
        }
        Ropewalk x = past(3);
        Check.due("24 a proof is not asked for", x.claim(0, Ropewalk.LATE, true), 6);
        Check.due("36 into the account", x.account(0), 6);
        Ropewalk y = past(3);
        y.lose(0);
        Check.due("24 LOST is not HANDED", y.claim(0, Ropewalk.LATE, true), 6);
    }

    /** HANDED at 30, promised for so many hours ahead of that; asked much later. */
    private static Ropewalk handedLate(int hours) {
        Ropewalk x = Scenes.pair(false);
        x.van(0, 1, 6);
        x.sorts(0, 0);
        x.parcel(0, 0, 0, 1, 1, false);
        x.promise(0, 0, 24, 30 - hours);
        Scenes.at(x, 29);
        x.sorts(0, 1);
        return Scenes.at(x, 80);
    }

    private static void lateAndHanded() {
        Check.refused("24 HANDED an hour ahead", Check.STATE, () -> handedLate(-1).claim(0, Ropewalk.LATE, true));
        Check.refused("24 HANDED in the hour of the promise", Check.STATE, () -> handedLate(0).claim(0, Ropewalk.LATE, true));
        int[][] hours = {{1, 2}, {24, 48}, {25, 50}, {26, 50}, {29, 50}};
        for (int[] h : hours) {
            Check.due("24 HANDED later by " + h[0], handedLate(h[0]).claim(0, Ropewalk.LATE, false), h[1]);
        }
    }

    private static void lateAndReturns() {
        Ropewalk x = past(30);
        x.giveBack(0);
        Check.refused("24 a return is not LATE", Check.STATE, () -> x.claim(0, Ropewalk.LATE, true));
        x.forward(0, 1);
        Check.due("24 forwarded it is no return", x.claim(0, Ropewalk.LATE, true), 50);
        Ropewalk y = past(1);
        y.giveBack(0);
        y.van(0, 1, 23);
        y.hour(2);
        Check.due("24 a return that is HANDED", y.where(0), Ropewalk.HANDED);
        Check.refused("24 is not LATE", Check.STATE, () -> y.claim(0, Ropewalk.LATE, true));
    }

    private static void paidOnce() {
        for (int first = 0; first < 2; first++) {
            for (int next = 0; next < 2; next++) {
                Ropewalk x = Scenes.pair(false);
                x.parcel(0, 0, 0, 1, 1, false);
                x.worth(0, 30, 0);
                x.promise(0, 0, 24, 1);
                x.lose(0);
                x.hour(3);
                int kind = next;
                Check.due("24 the first claim " + first, x.claim(0, first, true), first == Ropewalk.GONE ? 30 : 4);
                Check.refused("24 none behind it " + first + next, Check.STATE, () -> x.claim(0, kind, true));
                x.find(0, 0);
                x.lose(0);
                Check.refused("24 nor later " + first + next, Check.STATE, () -> x.claim(0, kind, true));
            }
        }
    }

    private static void owed() {
        for (int kind = 0; kind < 2; kind++) {
            Ropewalk x = Scenes.pair(false);
            x.parcel(0, 0, 0, 1, 1, false);
            x.worth(0, 31, 0);
            x.promise(0, 0, 24, 1);
            x.lose(0);
            x.hour(3);
            x.claim(0, kind, false);
            int paid = kind == Ropewalk.GONE ? 15 : 4;
            x.van(0, 1, 5);
            x.find(0, 0);
            x.hour(1);
            Check.due("24 found, not HANDED: nothing is owed " + kind, x.account(0), paid);
            x.merge(0, 3);
            x.hour(1);
            Check.due("24 HANDED: what GONE paid is owed, LATE is not " + kind, x.account(3), kind == Ropewalk.GONE ? 0 : paid);
            x.hour(24);
            Check.due("24 once " + kind, x.account(3), kind == Ropewalk.GONE ? 0 : paid);
        }
        Ropewalk y = lost(1);
        y.claim(0, Ropewalk.GONE, true);
        y.merge(0, 1);
        y.find(0, 1);
        y.duty(0);
        Check.due("36 a duty and a claim", y.account(1), 0);
        y.van(1, 1, 1);
        y.hour(1);
        Check.due("36 below 0", y.account(1), -1);
        Ropewalk z = silent(72);
        z.claim(0, Ropewalk.GONE, true);
        z.giveBack(0);
        z.sorts(0, 1);
        z.van(0, 1, 4);
        z.hour(1);
        Check.due("24 owed as well if it is HANDED to its sender", z.account(0), 0);
    }

    private static void duties() {
        int[][] values = {{1, 1}, {9, 1}, {10, 1}, {11, 2}, {1000, 100}};
        for (int[] v : values) {
            Ropewalk x = Scenes.pair(true);
            x.parcel(2, 0, 0, 2, 1, false);
            x.worth(0, v[0], 0);
            x.hour(4);
            Check.due("18 HELD, of " + v[0], x.where(0), Ropewalk.HELD);
            Check.due("18 the duty of " + v[0], x.duty(0), v[1]);
            Check.due("18 out of the account, of " + v[0], x.account(2), -v[1]);
            Check.due("18 UNSORTED, of " + v[0], x.where(0), Ropewalk.UNSORTED);
            Check.refused("18 not twice, of " + v[0], Check.STATE, () -> x.duty(0));
        }
        Ropewalk y = Scenes.pair(true);
        y.parcel(2, 0, 0, 2, 1, false);
        y.parcel(2, 1, 2, 3, 1, false);
        y.parcel(2, 2, 2, 0, 1, false);
        y.worth(0, 10, 0);
        y.sorts(1, 0);
        y.hour(4);
        y.duty(0);
        Check.due("18 behind others", y.place(0), 2);
        Check.due("18 those stay", y.place(2), 1);
        Check.refused("18 the duty of 0", Check.STATE, () -> y.duty(1));
    }

    private static void merged() {
        Ropewalk x = new Ropewalk();
        x.address(0, 0);
        int[][] parcels = {{0, 5}, {1, 5}, {0, 6}, {1, 7}, {0, 9}, {2, 5}};
        for (int[] p : parcels) {
            x.parcel(p[0], p[1], 0, 0, 1, false);
        }
        Check.due("25 two references become others", x.merge(0, 1), 2);
        Check.due("25 the next greater one that it has not", x.part(0, 0), 6);
        Check.due("25 the lower number has it by then", x.part(2, 0), 8);
        Check.due("25 one that it has not stays", x.part(4, 0), 9);
        Check.due("25 of a third one nothing", x.part(5, 0), 5);
        Check.due("25 nor its customer", x.part(5, 1), 2);
        Check.refused("25 a reference that it has now", Check.STATE, () -> x.parcel(1, 8, 0, 0, 1, false));
        Check.due("25 the other has none any more", x.parcel(0, 5, 0, 0, 1, false), 6);
    }

    private static void mergedAround() {
        Ropewalk x = new Ropewalk();
        x.address(0, 0);
        int[][] parcels = {{3, 998}, {3, 999}, {3, 0}, {0, 999}, {0, 998}, {0, 0}, {0, 1}};
        for (int[] p : parcels) {
            x.parcel(p[0], p[1], 0, 0, 1, false);
        }
        Check.due("25 all four become others", x.merge(0, 3), 4);
        Check.due("25 behind 999 is 0, which it has, then 1", x.part(3, 0), 1);
        Check.due("25 then 2", x.part(4, 0), 2);
        Check.due("25 then 3", x.part(5, 0), 3);
        Check.due("25 and 1 is 4 then", x.part(6, 0), 4);
        Ropewalk y = new Ropewalk();
        y.address(0, 0);
        y.parcel(0, 999, 0, 0, 1, false);
        y.parcel(3, 999, 0, 0, 1, false);
        Check.due("25 one", y.merge(3, 0), 1);
        Check.due("25 modulo 1000", y.part(1, 0), 0);
        Check.due("25 none to merge", y.merge(3, 0), 0);
        Check.due("25 into one that has none", y.merge(0, 3), 0);
        Check.due("25 all the same", y.part(1, 0), 0);
    }

    /** What comes behind a merge: cash and duties are of the other customer. */
    private static void mergedLater() {
        Ropewalk x = Scenes.pair(false);
        x.van(0, 1, 1);
        x.parcel(0, 0, 0, 1, 1, false);
        x.worth(0, 30, 70);
        x.duty(0);
        x.hour(1);
        x.merge(0, 2);
        Check.due("25 its account is of that one", x.account(2), -3);
        Check.due("25 it has none any more", x.account(0), 0);
        Scenes.at(x, 24);
        Check.due("25 cash is paid to that one", x.account(2), 67);
        x.merge(2, 0);
        Check.due("25 and back", x.account(0), 67);
        Check.due("25 with its parcels", x.part(0, 1), 0);
        Check.due("25 and nothing there", x.account(2), 0);
    }
}
