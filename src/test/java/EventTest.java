/** Promises 17 to 25: what happens between the hours. */
public final class EventTest {
    public static void main(String[] args) {
        resolve();
        duty();
        forward();
        forwardStates();
        giveBack();
        giveBackStates();
        lose();
        find();
        fetch();
        claimGone();
        claimSilent();
        claimLate();
        claimOwed();
        merge();
        Check.end();
    }

    /** Depots 0 and 1 with a lane each way of two hours, addresses 0 and 1 at 0, 2 and 3 at 1. */
    private static Ropewalk net(boolean crosses) {
        Ropewalk x = new Ropewalk();
        x.lane(0, 1, 2, crosses);
        x.lane(1, 0, 2, crosses);
        for (int half = 0; half < 2; half++) {
            x.plan(0, 1, half, 0);
            x.plan(1, 0, half, 1);
        }
        x.address(0, 0);
        x.address(0, 10);
        x.address(1, 0);
        x.address(1, 10);
        return x;
    }

    private static void resolve() {
        Ropewalk x = net(false);
        for (int i = 0; i < 3; i++) {
            x.parcel(0, i, 0, 1, 1, false);
            x.doubt(i, 2);
        }
        Check.due("17 not the other", x.resolve(0, false), 0);
        Check.due("17 its place stays", x.place(0), 0);
        Check.refused("17 no doubt any more", Check.STATE, () -> x.resolve(0, true));
        x.hour(1);
        Check.due("17 the receiver is the same", x.where(0), Ropewalk.READY);
        Check.due("17 HELD", x.where(1), Ropewalk.HELD);
        Check.due("17 the other", x.resolve(1, true), 1);
        Check.due("17 UNSORTED there", x.where(1), Ropewalk.UNSORTED);
        Check.due("17 at its depot", x.at(1), 0);
        Check.due("17 not the other of one that is HELD", x.resolve(2, false), 0);
        Check.due("17 behind others", x.place(2), 1);
        x.hour(1);
        Check.due("17 goes to the other", x.where(1), Ropewalk.LANE);
        Check.due("17 READY", x.where(2), Ropewalk.READY);
        Check.refused("17 parcel", Check.INDEX, () -> x.resolve(3, true));
        x.parcel(0, 3, 0, 2, 1, false);
        x.doubt(3, 1);
        x.hour(1);
        Check.due("17 on its way", x.resolve(3, true), 0);
        Check.due("17 still on its way", x.where(3), Ropewalk.LANE);
        x.parcel(0, 4, 0, 2, 1, false);
        x.doubt(4, 1);
        x.lose(4);
        Check.refused("17 LOST", Check.STATE, () -> x.resolve(4, true));
        x.find(4, 0);
        Check.due("17 found with its doubt", x.resolve(4, true), 0);
        x.parcel(0, 5, 0, 2, 1, false);
        x.giveBack(5);
        x.doubt(5, 3);
        Check.due("17 a return goes to its sender", x.resolve(5, true), 0);
    }

    private static void duty() {
        Ropewalk x = net(true);
        for (int i = 0; i < 4; i++) {
            x.parcel(i, 0, 0, 2, 1, false);
        }
        x.worth(0, 91, 0);
        x.worth(1, 1, 0);
        x.worth(2, 500, 0);
        x.doubt(0, 3);
        Check.due("18 ahead of the border", x.duty(1), 1);
        Check.due("18 its place stays", x.place(1), 1);
        Check.refused("18 paid", Check.STATE, () -> x.duty(1));
        Check.refused("18 none", Check.STATE, () -> x.duty(3));
        Check.refused("18 parcel", Check.INDEX, () -> x.duty(4));
        x.hour(3);
        Check.due("18 HELD", x.where(0), Ropewalk.HELD);
        x.resolve(0, false);
        Check.due("18 its doubt is not what holds it", x.where(0), Ropewalk.HELD);
        Check.due("18 duty", x.duty(0), 10);
        Check.due("18 out of the account", x.account(0), -10);
        Check.due("18 UNSORTED", x.where(0), Ropewalk.UNSORTED);
        Check.due("18 there", x.at(0), 1);
        x.lose(2);
        Check.refused("18 LOST", Check.STATE, () -> x.duty(2));
        x.find(2, 1);
        Check.due("18 found", x.duty(2), 50);
        Check.due("18 behind others", x.place(2), 1);
        x.parcel(0, 9, 2, 3, 1, false);
        x.worth(4, 10, 0);
        x.doubt(4, 2);
        x.hour(1);
        Check.due("18 HELD by a doubt", x.duty(4), 1);
        Check.due("18 is HELD still", x.where(4), Ropewalk.HELD);
        x.parcel(0, 8, 0, 0, 1, false);
        x.worth(5, 10, 0);
        x.van(0, 1, x.clock() + 1);
        Check.due("18 handed", x.hour(1), 1);
        Check.refused("18 HANDED", Check.STATE, () -> x.duty(5));
    }

    private static void forward() {
        Ropewalk x = net(false);
        x.timetable(0, 10, 50, 1, 1, 1);
        for (int i = 0; i < 5; i++) {
            x.parcel(0, i, 0, i < 2 ? 2 : 1, 1, false);
        }
        x.doubt(4, 0);
        x.doubt(0, 0);
        x.hour(1);
        Check.due("19 in the row", x.where(0), Ropewalk.ROW);
        Check.due("19 out of the row", x.forward(0, 1), 0);
        Check.due("19 UNSORTED", x.where(0), Ropewalk.UNSORTED);
        Check.due("19 the row moves up", x.place(1), 0);
        Check.refused("19 the doubt is gone", Check.STATE, () -> x.resolve(0, true));
        Check.due("19 READY", x.forward(2, 3), 1);
        Check.due("19 behind others", x.place(2), 1);
        Check.due("19 HELD by a doubt", x.forward(4, 3), 1);
        Check.due("19 behind all", x.place(4), 2);
        Check.due("19 UNSORTED ones keep their place", x.forward(0, 2), 1);
        Check.due("19 the place", x.place(0), 0);
        x.giveBack(3);
        Check.due("19 a return", x.part(3, 3), 1);
        Check.due("19 no return then", x.forward(3, 2), 1);
        Check.due("19 no return", x.part(3, 3), 0);
        x.timetable(0, 10, 2, 1, 1, 1);
        x.hour(1);
        Check.due("19 on its way", x.forward(0, 1), 0);
        Check.due("19 goes on", x.where(0), Ropewalk.LANE);
        x.hour(2);
        Check.due("19 then turns", x.at(0), 1);
        Check.refused("19 parcel", Check.INDEX, () -> x.forward(5, 0));
        Check.refused("19 address", Check.INDEX, () -> x.forward(0, 4));
        Check.due("19 the same receiver", x.forward(0, 1), 0);
        Check.due("19 is UNSORTED too", x.where(0), Ropewalk.LANE);
    }

    private static void forwardStates() {
        Ropewalk x = net(true);
        x.parcel(0, 0, 0, 2, 1, false);
        x.worth(0, 10, 0);
        x.doubt(0, 1);
        x.hour(3);
        Check.due("19 HELD by customs", x.forward(0, 0), 0);
        Check.due("19 stays HELD", x.where(0), Ropewalk.HELD);
        Check.refused("19 without doubt", Check.STATE, () -> x.resolve(0, true));
        stops(x, "19", p -> x.forward(p, 0));
        Ropewalk y = net(false);
        y.away(1, 0, 24);
        y.van(0, 1, 1);
        y.parcel(0, 0, 0, 1, 1, false);
        y.hour(1);
        Check.due("19 one failure", y.part(0, 2), 1);
        y.forward(0, 0);
        Check.due("19 its failures are 0", y.part(0, 2), 0);
    }

    private interface Turn {
        int run(int parcel);
    }

    /** A parcel that is LOST, one on a van, one in a locker and one that is HANDED refuse the call. */
    private static void stops(Ropewalk x, String promise, Turn turn) {
        int first = x.parcel(1, 0, 2, 2, 1, false);
        x.lose(first);
        Check.refused(promise + " LOST", Check.STATE, () -> turn.run(first));
        x.locker(0, 1, 0, 0);
        x.address(0, 60);
        x.away(4, 0, 24);
        int second = x.parcel(1, 1, 0, 4, 1, false);
        x.van(0, 1, x.clock() + 1);
        x.van(0, 1, x.clock() + 1);
        x.hour(1);
        Check.refused(promise + " on a VAN", Check.STATE, () -> turn.run(second));
        Check.refused(promise + " index first", Check.INDEX, () -> turn.run(99));
        x.hour(24);
        x.hour(4);
        Check.due(promise + " in a locker", x.where(second), Ropewalk.LOCKER);
        Check.refused(promise + " in a LOCKER", Check.STATE, () -> turn.run(second));
        x.fetch(0, x.part(second, 6));
        Check.refused(promise + " HANDED", Check.STATE, () -> turn.run(second));
    }

    private static void giveBack() {
        Ropewalk x = net(false);
        x.timetable(0, 10, 50, 1, 1, 1);
        for (int i = 0; i < 4; i++) {
            x.parcel(0, i, 0, i == 0 ? 2 : 1, 1, false);
        }
        x.doubt(0, 0);
        x.doubt(3, 0);
        x.hour(1);
        Check.due("20 out of the row", x.giveBack(0), 0);
        Check.due("20 UNSORTED", x.where(0), Ropewalk.UNSORTED);
        Check.due("20 a return", x.part(0, 3), 1);
        Check.due("20 its target", x.part(0, 7), 0);
        Check.refused("20 no doubt", Check.STATE, () -> x.resolve(0, true));
        Check.refused("20 it is one", Check.STATE, () -> x.giveBack(0));
        Check.due("20 READY", x.giveBack(1), 0);
        Check.due("20 behind others", x.place(1), 1);
        Check.due("20 HELD by a doubt", x.giveBack(3), 0);
        Check.due("20 behind all", x.place(3), 2);
        x.parcel(0, 4, 0, 2, 1, false);
        x.timetable(0, 10, 2, 1, 1, 1);
        x.hour(1);
        Check.due("20 on its way", x.giveBack(4), 0);
        Check.due("20 goes on", x.where(4), Ropewalk.LANE);
        x.hour(4);
        Check.due("20 and turns", x.where(4), Ropewalk.READY);
        Check.due("20 at its sender", x.at(4), 0);
        Check.refused("20 parcel", Check.INDEX, () -> x.giveBack(-1));
    }

    private static void giveBackStates() {
        Ropewalk x = net(true);
        x.parcel(0, 0, 0, 2, 1, false);
        x.worth(0, 10, 0);
        x.hour(3);
        Check.due("20 HELD by customs", x.giveBack(0), 0);
        Check.due("20 stays HELD", x.where(0), Ropewalk.HELD);
        stops(x, "20", p -> x.giveBack(p));
        Ropewalk y = net(false);
        y.away(1, 0, 24);
        y.van(0, 1, 1);
        y.parcel(0, 0, 0, 1, 1, false);
        y.hour(1);
        y.giveBack(0);
        Check.due("20 its failures are 0", y.part(0, 2), 0);
    }

    private static void lose() {
        Ropewalk x = net(false);
        x.timetable(0, 10, 2, 1, 1, 1);
        for (int i = 0; i < 5; i++) {
            x.parcel(0, i, 0, i < 2 ? 2 : 1, 1, false);
        }
        x.doubt(3, 0);
        x.van(0, 1, 2);
        x.hour(1);
        Check.due("21 ROW", x.lose(0), Ropewalk.ROW);
        Check.due("21 the row moves up", x.place(1), 0);
        Check.due("21 READY", x.lose(2), Ropewalk.READY);
        Check.due("21 HELD", x.lose(3), Ropewalk.HELD);
        x.parcel(0, 5, 0, 1, 1, false);
        Check.due("21 UNSORTED", x.lose(5), Ropewalk.UNSORTED);
        Check.due("21 nowhere", x.at(5), Ropewalk.NONE);
        Check.due("21 LOST", x.count(Ropewalk.LOST), 4);
        x.away(1, 0, 24);
        x.hour(1);
        Check.due("21 LANE", x.lose(1), Ropewalk.LANE);
        Check.due("21 none on the lane", x.onLane(0), 0);
        Check.refused("21 LOST ones", Check.STATE, () -> x.lose(1));
        Check.refused("21 parcel", Check.INDEX, () -> x.lose(6));
        x.locker(0, 1, 0, 0);
        x.hour(24);
        Check.due("21 in a locker", x.free(0, 1), 0);
        Check.due("21 LOCKER", x.lose(4), Ropewalk.LOCKER);
        Check.due("21 its compartment is free", x.free(0, 1), 1);
        Check.due("21 no code", x.part(4, 6), 0);
        x.parcel(1, 0, 0, 1, 1, false);
        x.promise(6, 23, 24, 1);
        x.hour(24);
        Check.refused("21 on a VAN", Check.STATE, () -> x.lose(6));
        x.parcel(1, 1, 0, 0, 1, false);
        x.van(0, 1, 3);
        x.hour(1);
        Check.due("21 HANDED", x.where(7), Ropewalk.HANDED);
        Check.refused("21 HANDED ones", Check.STATE, () -> x.lose(7));
    }

    private static void find() {
        Ropewalk x = net(false);
        x.parcel(0, 0, 0, 2, 1, false);
        x.parcel(0, 1, 3, 2, 1, false);
        Check.refused("22 not LOST", Check.STATE, () -> x.find(0, 0));
        x.lose(0);
        x.sorts(1, 0);
        x.hour(7);
        Check.refused("22 parcel", Check.INDEX, () -> x.find(2, 0));
        Check.refused("22 depot", Check.INDEX, () -> x.find(0, 5));
        Check.refused("22 depot of one that is not LOST", Check.INDEX, () -> x.find(1, -1));
        Check.due("22 hours", x.find(0, 1), 7);
        Check.due("22 UNSORTED", x.where(0), Ropewalk.UNSORTED);
        Check.due("22 there", x.at(0), 1);
        Check.due("22 behind others", x.place(0), 1);
        Check.due("22 scanned BACK", x.scan(2, 3), Ropewalk.BACK);
        Check.due("22 scanned there", x.scan(2, 1), 1);
        Check.refused("22 no more", Check.STATE, () -> x.find(0, 1));
    }

    private static void fetch() {
        Ropewalk x = new Ropewalk();
        x.address(3, 0);
        x.away(0, 0, 24);
        x.van(3, 30, 8);
        x.locker(3, 0, 0, 5);
        x.locker(0, 0, 0, 5);
        for (int i = 0; i < 2; i++) {
            x.parcel(0, i, 0, 0, 1, false);
        }
        x.hour(24);
        x.hour(8);
        Check.due("23 code", x.part(1, 6), 1069);
        Check.refused("23 locker", Check.INDEX, () -> x.fetch(2, 1032));
        Check.refused("23 another locker", Check.STATE, () -> x.fetch(1, 1032));
        Check.refused("23 no such code", Check.STATE, () -> x.fetch(0, 1033));
        Check.refused("23 the code of none", Check.STATE, () -> x.fetch(0, 0));
        Check.due("23 fetched", x.fetch(0, 1069), 1);
        Check.due("23 HANDED", x.where(1), Ropewalk.HANDED);
        Check.due("23 scanned FETCHED", x.scan(x.scans() - 1, 3), Ropewalk.FETCHED);
        Check.due("23 scanned there", x.scan(x.scans() - 1, 1), 3);
        Check.due("23 its compartment is free", x.free(0, 3), 4);
        Check.refused("23 not twice", Check.STATE, () -> x.fetch(0, 1069));
        Check.due("23 the other one", x.fetch(0, 1032), 0);
        Check.refused("23 those that left have no code", Check.STATE, () -> x.fetch(0, 0));
        sameCode();
    }

    /** Two parcels with one code: the parcel 1 comes in at 32, the parcel 0 at 69. */
    private static void sameCode() {
        Ropewalk x = new Ropewalk();
        x.address(0, 0);
        x.away(0, 0, 24);
        x.van(0, 30, 8);
        x.van(0, 30, 21);
        x.locker(0, 5, 0, 0);
        x.parcel(0, 0, 0, 0, 1, false);
        x.parcel(0, 1, 0, 0, 1, false);
        x.lose(0);
        x.sorts(0, 0);
        x.hour(10);
        x.sorts(0, 5);
        x.hour(22);
        Check.due("23 the parcel 1 is in", x.part(1, 6), 1069);
        x.hour(14);
        x.find(0, 0);
        x.hour(23);
        Check.due("23 the parcel 0 has the same code", x.part(0, 6), 1069);
        Check.due("23 the lowest number first", x.fetch(0, 1069), 0);
        Check.due("23 then the other", x.fetch(0, 1069), 1);
    }

    private static void claimGone() {
        Ropewalk x = net(false);
        for (int i = 0; i < 4; i++) {
            x.parcel(i % 2, i, 0, 2, 1, false);
        }
        x.worth(0, 1000, 0);
        x.worth(1, 99, 0);
        x.worth(2, 1, 0);
        Check.refused("24 not LOST", Check.STATE, () -> x.claim(0, Ropewalk.GONE, true));
        for (int i = 0; i < 4; i++) {
            x.lose(i);
        }
        Check.due("24 at most 500", x.claim(0, Ropewalk.GONE, true), 500);
        Check.due("24 the half of it", x.claim(1, Ropewalk.GONE, false), 49);
        Check.refused("24 worth 0", Check.STATE, () -> x.claim(2, Ropewalk.GONE, false));
        Check.due("24 with a proof", x.claim(2, Ropewalk.GONE, true), 1);
        Check.refused("24 without value", Check.STATE, () -> x.claim(3, Ropewalk.GONE, true));
        Check.due("24 accounts", x.account(0), 501);
        Check.due("24 other account", x.account(1), 49);
        Check.refused("24 paid", Check.STATE, () -> x.claim(0, Ropewalk.GONE, true));
        Check.refused("24 paid, of the other kind", Check.STATE, () -> x.claim(0, Ropewalk.LATE, true));
        Check.refused("24 parcel", Check.INDEX, () -> x.claim(4, 7, true));
        Check.refused("24 kind", Check.ARGUMENT, () -> x.claim(0, 2, true));
        Check.refused("24 kind below", Check.ARGUMENT, () -> x.claim(0, -1, true));
        Ropewalk y = net(false);
        y.parcel(0, 0, 0, 2, 1, false);
        y.worth(0, 1000, 0);
        y.lose(0);
        Check.due("24 the half of at most 500", y.claim(0, Ropewalk.GONE, false), 250);
    }

    private static void claimSilent() {
        Ropewalk x = new Ropewalk();
        x.address(0, 0);
        x.sorts(0, 0);
        x.hour(5);
        x.fail(0, 1, false);
        x.parcel(0, 0, 0, 0, 1, false);
        x.parcel(0, 1, 0, 0, 1, false);
        x.worth(0, 10, 0);
        x.worth(1, 10, 0);
        for (int i = 0; i < 3; i++) {
            x.hour(23);
        }
        x.sorts(0, 2);
        x.hour(2);
        x.fail(0, 1, false);
        x.lose(0);
        x.find(0, 0);
        Check.refused("24 scanned since", Check.STATE, () -> x.claim(0, Ropewalk.GONE, true));
        Ropewalk y = new Ropewalk();
        y.address(0, 0);
        y.sorts(0, 0);
        y.hour(5);
        y.fail(0, 1, false);
        y.parcel(0, 0, 0, 0, 1, false);
        y.parcel(0, 1, 0, 0, 1, false);
        y.worth(0, 10, 0);
        y.worth(1, 10, 0);
        for (int i = 0; i < 3; i++) {
            y.hour(23);
        }
        y.hour(2);
        Check.refused("24 silent for 71 hours", Check.STATE, () -> y.claim(0, Ropewalk.GONE, true));
        y.sorts(0, 1);
        y.hour(1);
        y.fail(0, 20, false);
        Check.refused("24 the one sorted was scanned", Check.STATE, () -> y.claim(0, Ropewalk.GONE, true));
        Check.due("24 silent for 72 hours", y.claim(1, Ropewalk.GONE, true), 10);
        Ropewalk z = new Ropewalk();
        z.address(0, 0);
        z.van(0, 9, 1);
        z.parcel(0, 0, 0, 0, 1, false);
        z.worth(0, 10, 0);
        z.hour(24);
        z.hour(24);
        z.hour(24);
        z.hour(24);
        Check.refused("24 HANDED is not GONE", Check.STATE, () -> z.claim(0, Ropewalk.GONE, true));
    }

    private static void claimLate() {
        Ropewalk x = new Ropewalk();
        x.address(0, 0);
        x.van(0, 9, 9);
        for (int i = 0; i < 5; i++) {
            x.parcel(0, i, 0, 0, 1, false);
        }
        x.promise(0, 0, 24, 8);
        x.promise(1, 0, 24, 9);
        x.promise(2, 0, 24, 5);
        x.promise(3, 0, 24, 5);
        x.promise(4, 0, 24, 20);
        x.giveBack(2);
        x.lose(3);
        x.lose(4);
        x.hour(9);
        x.hour(11);
        Check.due("24 an hour late", x.claim(0, Ropewalk.LATE, false), 2);
        Check.refused("24 in time", Check.STATE, () -> x.claim(1, Ropewalk.LATE, true));
        Check.refused("24 a return", Check.STATE, () -> x.claim(2, Ropewalk.LATE, true));
        Check.refused("24 not past yet", Check.STATE, () -> x.claim(4, Ropewalk.LATE, true));
        x.hour(1);
        Check.due("24 not HANDED", x.claim(3, Ropewalk.LATE, false), 32);
        Check.due("24 account", x.account(0), 34);
        Check.due("24 what was paid", x.part(3, 5), 32);
        x.hour(24);
        x.hour(1);
        Check.due("24 at most 50", x.claim(4, Ropewalk.LATE, true), 50);
    }

    private static void claimOwed() {
        Ropewalk x = new Ropewalk();
        x.address(0, 0);
        x.van(0, 9, 9);
        for (int i = 0; i < 3; i++) {
            x.parcel(0, i, 0, 0, 1, false);
            x.worth(i, 100, 0);
            x.lose(i);
        }
        x.promise(2, 0, 24, 1);
        x.claim(0, Ropewalk.GONE, true);
        x.claim(1, Ropewalk.GONE, true);
        x.hour(3);
        x.claim(2, Ropewalk.LATE, true);
        Check.due("24 three paid", x.account(0), 204);
        x.find(0, 0);
        x.find(2, 0);
        x.merge(0, 1);
        Check.due("24 two handed", x.hour(7), 2);
        Check.due("24 owed by the customer by then", x.account(1), 104);
        Check.due("24 it was paid still", x.part(0, 5), 100);
        Check.refused("24 once at most", Check.STATE, () -> x.claim(0, Ropewalk.LATE, true));
        owedAtLocker();
    }

    private static void owedAtLocker() {
        Ropewalk x = new Ropewalk();
        x.address(0, 0);
        x.away(0, 0, 24);
        x.van(0, 9, 1);
        x.locker(0, 1, 0, 0);
        x.parcel(0, 0, 0, 0, 1, false);
        x.worth(0, 100, 0);
        x.lose(0);
        x.claim(0, Ropewalk.GONE, false);
        x.find(0, 0);
        x.hour(24);
        x.hour(1);
        Check.due("24 paid", x.account(0), 50);
        x.fetch(0, x.part(0, 6));
        Check.due("24 owed when it is fetched", x.account(0), 0);
    }

    private static void merge() {
        Ropewalk x = new Ropewalk();
        x.address(0, 0);
        x.parcel(0, 7, 0, 0, 1, false);
        x.parcel(1, 7, 0, 0, 1, false);
        x.parcel(0, 8, 0, 0, 1, false);
        x.parcel(1, 999, 0, 0, 1, false);
        x.parcel(0, 999, 0, 0, 1, false);
        x.parcel(1, 0, 0, 0, 1, false);
        x.parcel(0, 500, 0, 0, 1, false);
        x.parcel(2, 500, 0, 0, 1, false);
        x.worth(0, 100, 0);
        x.worth(1, 10, 0);
        x.duty(0);
        x.duty(1);
        Check.due("25 three become others", x.merge(0, 1), 3);
        Check.due("25 the next one", x.part(0, 0), 8);
        Check.due("25 by rising numbers", x.part(2, 0), 9);
        Check.due("25 modulo 1000", x.part(4, 0), 1);
        Check.due("25 not used by it", x.part(6, 0), 500);
        Check.due("25 the other's stay", x.part(1, 0), 7);
        Check.due("25 its customer", x.part(0, 1), 1);
        Check.due("25 no others", x.part(7, 1), 2);
        Check.due("25 accounts together", x.account(1), -11);
        Check.due("25 nothing is left", x.account(0), 0);
        Check.due("25 nothing to merge", x.merge(0, 1), 0);
        Check.due("25 a reference is free again", x.parcel(0, 7, 0, 0, 1, false), 8);
        Check.refused("25 customer", Check.INDEX, () -> x.merge(4, 4));
        Check.refused("25 other", Check.INDEX, () -> x.merge(0, -1));
        Check.refused("25 same", Check.ARGUMENT, () -> x.merge(3, 3));
    }
}
