/** Promises 26 to 44: what is asked. */
public final class AskTest {
    public static void main(String[] args) {
        clock();
        whereAndAt();
        part();
        count();
        place();
        waits();
        onLane();
        onVan();
        free();
        account();
        cash();
        scans();
        way();
        wrong();
        wrongOfMissed();
        stock();
        stockByScans();
        foreseenPlain();
        foreseenByLanes();
        foreseenHalves();
        foreseenNone();
        foreseenTen();
        Check.end();
    }

    private static Ropewalk net(boolean crosses) {
        Ropewalk x = new Ropewalk();
        x.lane(0, 1, 3, crosses);
        x.plan(0, 1, 0, 0);
        x.plan(0, 1, 1, 0);
        x.address(0, 0);
        x.address(1, 0);
        return x;
    }

    /** A parcel in each of the nine: its number is that of where it is. */
    private static Ropewalk everywhere() {
        Ropewalk x = new Ropewalk();
        x.lane(3, 2, 1, false);
        x.lane(0, 1, 24, false);
        x.lane(0, 3, 24, false);
        x.plan(0, 1, 0, 1);
        x.plan(0, 1, 1, 1);
        x.plan(0, 3, 0, 2);
        x.plan(0, 3, 1, 2);
        x.timetable(1, 10, 100, 1, 1, 1);
        x.address(0, 0);
        x.address(1, 0);
        x.address(2, 0);
        x.address(3, 0);
        x.away(3, 0, 24);
        x.van(4, 9, 5);
        x.van(3, 9, 1);
        x.locker(1, 1, 1, 1);
        x.locker(3, 1, 1, 1);
        int[] to = {2, 1, 3, 0, 3, 3, 0, 3, 0};
        int[] from = {0, 0, 0, 0, 3, 3, 0, 3, 0};
        for (int i = 0; i < 9; i++) {
            x.parcel(0, i, from[i], to[i], 1, false);
        }
        x.doubt(6, 1);
        x.lose(8);
        x.lose(4);
        x.hour(24);
        x.hour(24);
        Check.due("27 one is stored", x.where(5), Ropewalk.LOCKER);
        x.fetch(1, x.part(7, 6));
        x.lose(2);
        x.find(2, 0);
        x.find(4, 3);
        x.promise(4, 20, 24, 9);
        x.hour(1);
        return x;
    }

    private static void clock() {
        Ropewalk x = new Ropewalk();
        Check.due("26 at first", x.clock(), 0);
        x.hour(5);
        x.hour(24);
        Check.due("26 counts on", x.clock(), 29);
    }

    private static void whereAndAt() {
        Ropewalk x = everywhere();
        int[] at = {0, 1, 2, 0, 1, 1, 0, Ropewalk.NONE, Ropewalk.NONE};
        for (int i = 0; i < 9; i++) {
            Check.due("27 where " + i, x.where(i), i);
            Check.due("28 at " + i, x.at(i), at[i]);
        }
        Check.refused("27 parcel", Check.INDEX, () -> x.where(9));
        Check.refused("27 parcel below", Check.INDEX, () -> x.where(-1));
        Check.refused("28 parcel", Check.INDEX, () -> x.at(9));
        Check.refused("28 parcel below", Check.INDEX, () -> x.at(-1));
    }

    private static void part() {
        Ropewalk x = everywhere();
        Check.due("29 reference", x.part(5, 0), 5);
        Check.due("29 customer", x.part(5, 1), 0);
        Check.due("29 failures", x.part(5, 2), 2);
        Check.due("29 no return", x.part(5, 3), 0);
        Check.due("29 promise", x.part(5, 4), 100);
        Check.due("29 paid", x.part(5, 5), 0);
        Check.due("29 code", x.part(5, 6), 1000 + 5 * 37 + 101 + 25);
        Check.due("29 in no locker", x.part(7, 6), 0);
        Check.due("29 target", x.part(5, 7), 3);
        x.giveBack(1);
        Check.due("29 a return", x.part(1, 3), 1);
        Check.due("29 target of a return", x.part(1, 7), 0);
        Check.refused("29 parcel", Check.INDEX, () -> x.part(9, 8));
        Check.refused("29 part", Check.ARGUMENT, () -> x.part(0, 8));
        Check.refused("29 part below", Check.ARGUMENT, () -> x.part(0, -1));
    }

    private static void count() {
        Ropewalk x = everywhere();
        for (int i = 0; i < 9; i++) {
            Check.due("30 one each", x.count(i), 1);
        }
        x.lose(0);
        Check.due("30 none", x.count(Ropewalk.UNSORTED), 0);
        Check.due("30 two", x.count(Ropewalk.LOST), 2);
        Check.refused("30 where", Check.ARGUMENT, () -> x.count(9));
        Check.refused("30 where below", Check.ARGUMENT, () -> x.count(-1));
    }

    private static void place() {
        Ropewalk x = everywhere();
        int[] places = {0, 0, -1, -1, -1, -1, -1, -1, -1};
        for (int i = 0; i < 9; i++) {
            Check.due("31 place of " + i, x.place(i), places[i]);
        }
        x.parcel(0, 99, 0, 1, 1, true);
        x.parcel(0, 98, 1, 1, 1, true);
        Check.due("31 behind, though express", x.place(9), 1);
        Check.due("31 at another depot", x.place(10), 0);
        x.hour(1);
        Check.due("31 in the row", x.place(9), 1);
        Check.refused("31 parcel", Check.INDEX, () -> x.place(11));
        Check.refused("31 parcel below", Check.INDEX, () -> x.place(-1));
    }

    private static void waits() {
        Ropewalk x = net(false);
        Check.due("32 none", x.waits(0), Ropewalk.NONE);
        x.timetable(0, 1, 1, 5, 2, 9);
        x.hour(1);
        Check.due("32 since now", x.waits(0), 0);
        x.hour(3);
        Check.due("32 hours", x.waits(0), 3);
        x.parcel(0, 0, 0, 1, 1, false);
        x.parcel(0, 1, 0, 1, 1, false);
        x.hour(1);
        Check.due("32 it has left", x.waits(0), Ropewalk.NONE);
        Check.refused("32 lane", Check.INDEX, () -> x.waits(1));
        Check.refused("32 lane below", Check.INDEX, () -> x.waits(-1));
    }

    private static void onLane() {
        Ropewalk x = net(false);
        Check.due("33 none", x.onLane(0), 0);
        x.timetable(0, 1, 1, 1, 1, 9);
        x.parcel(0, 0, 0, 1, 1, false);
        x.parcel(0, 1, 0, 1, 1, false);
        x.hour(1);
        Check.due("33 not the row", x.onLane(0), 1);
        x.hour(1);
        Check.due("33 of two trailers", x.onLane(0), 2);
        x.hour(2);
        Check.due("33 one came", x.onLane(0), 1);
        x.hour(1);
        Check.due("33 all came", x.onLane(0), 0);
        Check.refused("33 lane", Check.INDEX, () -> x.onLane(1));
        Check.refused("33 lane below", Check.INDEX, () -> x.onLane(-1));
    }

    private static void onVan() {
        Ropewalk x = new Ropewalk();
        x.address(0, 0);
        x.address(0, 60);
        x.van(0, 9, 9);
        x.parcel(0, 0, 0, 1, 1, false);
        x.parcel(0, 1, 0, 1, 1, false);
        x.parcel(0, 2, 0, 0, 1, true);
        Check.due("34 none", x.onVan(0), 0);
        x.hour(9);
        Check.due("34 one was given", x.onVan(0), 2);
        x.away(1, 0, 24);
        x.hour(1);
        Check.due("34 not at their stops yet", x.onVan(0), 2);
        x.hour(1);
        Check.due("34 back", x.onVan(0), 0);
        Check.refused("34 van", Check.INDEX, () -> x.onVan(1));
        Check.refused("34 van below", Check.INDEX, () -> x.onVan(-1));
    }

    private static void free() {
        Ropewalk x = everywhere();
        Check.due("35 one is taken", x.free(1, 1), 0);
        Check.due("35 one was left", x.free(1, 2), 1);
        Check.due("35 another locker", x.free(0, 1), 1);
        Check.refused("35 locker", Check.INDEX, () -> x.free(2, 0));
        Check.refused("35 locker below", Check.INDEX, () -> x.free(-1, 1));
        Check.refused("35 size", Check.ARGUMENT, () -> x.free(0, 0));
        Check.refused("35 size above", Check.ARGUMENT, () -> x.free(0, 4));
    }

    private static void account() {
        Ropewalk x = net(false);
        x.parcel(3, 0, 0, 1, 1, false);
        x.worth(0, 100, 0);
        x.duty(0);
        Check.due("36 below 0", x.account(3), -10);
        x.lose(0);
        x.claim(0, Ropewalk.GONE, true);
        Check.due("36 a claim", x.account(3), 90);
        Check.due("36 another", x.account(2), 0);
        Check.refused("36 customer", Check.INDEX, () -> x.account(4));
        Check.refused("36 customer below", Check.INDEX, () -> x.account(-1));
    }

    private static void cash() {
        Ropewalk x = new Ropewalk();
        x.address(2, 0);
        x.van(2, 9, 9);
        for (int i = 0; i < 2; i++) {
            x.parcel(0, i, 0, 0, 1, false);
            x.worth(i, 0, 20 + i);
        }
        Check.due("37 none", x.cash(2), 0);
        x.hour(9);
        Check.due("37 of two", x.cash(2), 41);
        Check.due("37 another depot", x.cash(0), 0);
        x.hour(15);
        Check.due("37 paid out", x.cash(2), 0);
        Check.refused("37 depot", Check.INDEX, () -> x.cash(5));
        Check.refused("37 depot below", Check.INDEX, () -> x.cash(-1));
    }

    private static void scans() {
        Ropewalk x = net(false);
        Check.due("38 none", x.scans(), 0);
        x.hour(2);
        x.parcel(0, 0, 0, 1, 1, false);
        x.parcel(0, 1, 1, 1, 1, false);
        x.hour(1);
        int[][] want = {{0, 0, 2, 0}, {1, 1, 2, 0}, {0, 0, 3, 1}, {1, 1, 3, 1}, {0, 0, 3, 2}};
        Check.due("38 five", x.scans(), want.length);
        for (int i = 0; i < want.length; i++) {
            for (int k = 0; k < 4; k++) {
                Check.due("39 scan " + i + " part " + k, x.scan(i, k), want[i][k]);
            }
        }
        Check.refused("39 scan", Check.INDEX, () -> x.scan(5, 4));
        Check.refused("39 scan below", Check.INDEX, () -> x.scan(-1, 0));
        Check.refused("39 part", Check.ARGUMENT, () -> x.scan(0, 4));
        Check.refused("39 part below", Check.ARGUMENT, () -> x.scan(0, -1));
    }

    private static void way() {
        Ropewalk x = net(false);
        x.parcel(0, 0, 0, 1, 1, false);
        Check.due("40 by its first scan", x.way(0, 0), 0);
        x.hour(4);
        x.lose(0);
        x.find(0, 0);
        Check.due("40 first", x.way(0, 0), 0);
        Check.due("40 second", x.way(0, 1), 1);
        Check.due("40 the first one again", x.way(0, 2), 0);
        Check.due("40 not so many", x.way(0, 3), Ropewalk.NONE);
        x.fail(0, 20, false);
        x.parcel(0, 1, 0, 1, 1, false);
        Check.due("40 without scans", x.way(1, 0), Ropewalk.NONE);
        Check.refused("40 parcel", Check.INDEX, () -> x.way(2, 0));
        Check.refused("40 parcel below", Check.INDEX, () -> x.way(-1, 0));
        Check.refused("40 place", Check.INDEX, () -> x.way(0, -1));
    }

    private static void wrong() {
        Ropewalk x = net(false);
        x.parcel(0, 0, 0, 1, 1, false);
        Check.due("41 no step", x.wrong(0), Ropewalk.NONE);
        x.hour(4);
        Check.due("41 right", x.wrong(0), Ropewalk.NONE);
        x.lose(0);
        x.find(0, 0);
        Check.due("41 no lane back", x.wrong(0), 1);
        x.lane(1, 0, 1, false);
        Check.due("41 too quick", x.wrong(0), 1);
        x.parcel(0, 1, 0, 1, 1, false);
        x.lose(1);
        x.hour(2);
        x.find(1, 1);
        Check.due("41 quicker than the lane", x.wrong(1), 0);
        x.lane(0, 1, 5, false);
        Check.due("41 a slower lane", x.wrong(1), 0);
        x.lane(0, 2, 1, false);
        x.lane(2, 1, 1, false);
        Check.due("41 lanes of other depots", x.wrong(1), 0);
        x.lane(0, 1, 2, false);
        Check.due("41 the quickest lane", x.wrong(1), Ropewalk.NONE);
        Check.refused("41 parcel", Check.INDEX, () -> x.wrong(2));
        Check.refused("41 parcel below", Check.INDEX, () -> x.wrong(-1));
    }

    private static void wrongOfMissed() {
        Ropewalk x = net(false);
        x.parcel(0, 0, 0, 1, 1, false);
        x.hour(3);
        x.lose(0);
        x.find(0, 0);
        x.lose(0);
        x.hour(2);
        x.find(0, 1);
        Check.due("41 from the last scan at the one", x.wrong(0), 0);
        x.fail(0, 20, false);
        x.parcel(0, 1, 0, 1, 1, false);
        x.hour(6);
        Check.due("41 no step by its scans", x.wrong(1), Ropewalk.NONE);
    }

    private static void stock() {
        Ropewalk x = everywhere();
        Check.due("42 UNSORTED, ROW, READY and HELD", x.stock(0), 4);
        Check.due("42 LOCKER", x.stock(3), 1);
        Check.due("42 none", x.stock(1), 0);
        Check.refused("42 depot", Check.INDEX, () -> x.stock(5));
        Check.refused("42 depot below", Check.INDEX, () -> x.stock(-1));
    }

    private static void stockByScans() {
        Ropewalk x = net(false);
        x.parcel(0, 0, 0, 1, 1, false);
        x.parcel(0, 1, 0, 0, 1, false);
        Check.due("43 TAKEN", x.stockByScans(0), 2);
        x.hour(1);
        Check.due("43 SORTED, not LEFT", x.stockByScans(0), 1);
        x.sorts(1, 0);
        x.hour(3);
        Check.due("43 CAME", x.stockByScans(1), 1);
        x.lose(0);
        Check.due("43 LOST is not scanned", x.stockByScans(1), 1);
        x.find(0, 2);
        Check.due("43 BACK", x.stockByScans(2), 1);
        Check.due("43 the last one alone", x.stockByScans(1), 0);
        x.address(0, 60);
        x.away(0, 0, 24);
        x.van(0, 9, 5);
        x.van(0, 9, 5);
        x.locker(0, 1, 0, 0);
        x.hour(1);
        Check.due("43 STORED", x.stockByScans(0), 1);
        x.fetch(0, x.part(1, 6));
        Check.due("43 FETCHED", x.stockByScans(0), 0);
        x.parcel(0, 2, 2, 2, 1, false);
        x.van(0, 9, 8);
        x.hour(3);
        Check.due("43 OUT", x.stockByScans(0), 0);
        x.hour(2);
        Check.due("43 GIVEN", x.stockByScans(0), 0);
        Check.due("43 it is HANDED", x.where(2), Ropewalk.HANDED);
        x.parcel(0, 3, 0, 0, 1, false);
        x.fail(0, 1, false);
        x.hour(1);
        Check.due("43 a scan that is missed", x.stockByScans(0), 1);
        Check.refused("43 depot", Check.INDEX, () -> x.stockByScans(5));
        Check.refused("43 depot below", Check.INDEX, () -> x.stockByScans(-1));
    }

    private static void foreseenPlain() {
        Ropewalk x = new Ropewalk();
        x.address(0, 0);
        x.parcel(0, 0, 0, 0, 1, false);
        Check.due("44 without a van", x.foreseen(0), Ropewalk.NONE);
        x.van(1, 9, 1);
        Check.due("44 without a van there", x.foreseen(0), Ropewalk.NONE);
        x.van(0, 9, 0);
        x.van(0, 9, 4);
        Check.due("44 the first van", x.foreseen(0), 4);
        x.hour(3);
        Check.due("44 READY", x.foreseen(0), 4);
        x.parcel(0, 1, 0, 0, 1, false);
        Check.due("44 sorted in the next hour, the van in the same", x.foreseen(1), 4);
        x.sorts(0, 0);
        Check.due("44 as if there was room", x.foreseen(1), 4);
        x.hour(1);
        Check.due("44 UNSORTED still", x.foreseen(1), 24);
        Check.due("44 HANDED", x.foreseen(0), Ropewalk.NONE);
        Check.refused("44 parcel", Check.INDEX, () -> x.foreseen(2));
        Check.refused("44 parcel below", Check.INDEX, () -> x.foreseen(-1));
        Ropewalk y = new Ropewalk();
        y.address(0, 0);
        y.away(0, 0, 24);
        y.van(0, 9, 4);
        y.parcel(0, 0, 0, 0, 1, false);
        y.hour(4);
        Check.due("44 READY waits from the next hour on", y.foreseen(0), 28);
    }

    private static void foreseenByLanes() {
        Ropewalk x = net(false);
        x.van(1, 9, 12);
        x.timetable(0, 1, 6, 5, 20, 24);
        x.parcel(0, 0, 0, 1, 1, false);
        x.parcel(0, 1, 0, 1, 1, false);
        Check.due("44 left at 6, comes at 9", x.foreseen(0), 12);
        x.hour(5);
        Check.due("44 in the row", x.foreseen(0), 12);
        Check.due("44 none ahead", x.foreseen(1), 12);
        x.hour(1);
        Check.due("44 in the row, from the next hour on", x.foreseen(0), 36);
        x.timetable(0, 1, 7, 5, 1, 24);
        x.hour(1);
        Check.due("44 on its way", x.foreseen(0), 12);
        Check.due("44 a waiting trailer is not asked for", x.foreseen(1), 36);
        x.van(1, 9, 10);
        Check.due("44 the van of the hour in which it comes", x.foreseen(0), 10);
        x.van(1, 9, 9);
        Check.due("44 not the one ahead", x.foreseen(0), 10);
        Check.due("44 comes at 15", x.foreseen(1), 33);
        Ropewalk y = net(false);
        for (int i = 0; i < 3; i++) {
            y.van(1, 9, 9 + i);
        }
        y.timetable(0, 1, 1, 7, 1, 1);
        y.hour(2);
        y.parcel(0, 0, 0, 1, 1, false);
        Check.due("44 the departure at 8 behind the one at 1", y.foreseen(0), 11);
    }

    private static void foreseenHalves() {
        Ropewalk x = new Ropewalk();
        x.lane(0, 1, 2, false);
        x.lane(0, 1, 3, false);
        x.lane(1, 2, 1, false);
        x.plan(0, 2, 0, 0);
        x.plan(0, 2, 1, 1);
        x.plan(1, 2, 1, 2);
        x.address(0, 0);
        x.address(2, 0);
        x.van(2, 1, 0);
        x.hour(9);
        x.parcel(0, 0, 0, 1, 1, false);
        Check.due("44 sorted at 10, comes at 12, by the second half", x.foreseen(0), 24);
        Check.due("44 nobody asked changes", x.where(0), Ropewalk.UNSORTED);
        x.hour(2);
        x.parcel(0, 1, 0, 1, 1, false);
        Check.due("44 sorted at 12 by the second half", x.foreseen(1), 24);
        x.plan(1, 2, 1, Ropewalk.NONE);
        x.plan(1, 2, 0, 2);
        Check.due("44 the second half at 15", x.foreseen(1), Ropewalk.NONE);
        x.timetable(1, 1, 20, 1, 1, 1);
        x.timetable(1, 1, 22, 1, 1, 1);
        Check.due("44 left at 22, sorted at 25 by the first half", x.foreseen(1), 48);
        Ropewalk y = new Ropewalk();
        y.lane(0, 1, 1, false);
        y.plan(0, 1, 0, 0);
        y.address(0, 0);
        y.address(1, 0);
        y.van(1, 1, 0);
        y.hour(10);
        y.parcel(0, 0, 0, 1, 1, false);
        Check.due("44 the hour 11", y.foreseen(0), 24);
        y.hour(1);
        y.parcel(0, 1, 0, 1, 1, false);
        Check.due("44 the hour 12", y.foreseen(1), Ropewalk.NONE);
    }

    private static void foreseenNone() {
        Ropewalk x = everywhere();
        x.van(0, 1, 3);
        x.van(1, 1, 3);
        x.van(2, 1, 3);
        Check.due("44 the plan leads nowhere", x.foreseen(0), Ropewalk.NONE);
        Check.due("44 ROW", x.foreseen(1), 147);
        Check.due("44 LANE", x.foreseen(2), 73);
        Check.due("44 READY", x.foreseen(3), 51);
        for (int i = 4; i < 9; i++) {
            Check.due("44 none of " + i, x.foreseen(i), Ropewalk.NONE);
        }
        Ropewalk y = net(true);
        y.van(1, 1, 0);
        y.parcel(0, 0, 0, 1, 1, false);
        Check.due("44 no value", y.foreseen(0), 24);
        y.worth(0, 1, 0);
        Check.due("44 would be HELD by customs", y.foreseen(0), Ropewalk.NONE);
        y.hour(1);
        Check.due("44 on its way to customs", y.foreseen(0), Ropewalk.NONE);
        y.duty(0);
        Check.due("44 its duty is paid", y.foreseen(0), 24);
        y.parcel(0, 1, 0, 1, 1, false);
        y.doubt(1, 0);
        Check.due("44 would be HELD by a doubt", y.foreseen(1), Ropewalk.NONE);
        y.resolve(1, false);
        Check.due("44 resolved", y.foreseen(1), 24);
        y.timetable(0, 1, 90, 1, 1, 1);
        y.hour(1);
        Check.due("44 in the row", y.foreseen(1), 96);
        y.parcel(0, 2, 0, 1, 1, false);
        y.worth(2, 5, 0);
        y.hour(1);
        Check.due("44 in the row to customs", y.foreseen(2), Ropewalk.NONE);
    }

    /** The plan of the half 0 leads from 0 to 1 and back, until the half 1 begins: from there to 2. */
    private static void foreseenTen() {
        Check.due("44 ten lanes", tellForLanes(10).foreseen(0), 24);
        Ropewalk x = tellForLanes(11);
        Check.due("44 eleven lanes", x.foreseen(0), Ropewalk.NONE);
        x.hour(1);
        Check.due("44 on its way", x.where(0), Ropewalk.LANE);
        Check.due("44 eleven of which one was left", x.foreseen(0), 24);
        Check.due("44 ten with the row's", tellForRow(10).foreseen(0), 24);
        Check.due("44 eleven with the row's", tellForRow(11).foreseen(0), Ropewalk.NONE);
    }

    /** A parcel of the depot 0 that goes over so many lanes of one hour, the last one at the hour 12. */
    private static Ropewalk tellForLanes(int many) {
        Ropewalk x = toAndFro();
        x.hour(12 - many);
        x.parcel(0, 0, 0, 1, 1, false);
        return x;
    }

    /** The same, but it is in the row of the first of the lanes, which is left an hour later. */
    private static Ropewalk tellForRow(int many) {
        Ropewalk x = toAndFro();
        int told = 11 - many;
        x.timetable(0, 10, told + 2, 2, 1, 0);
        if (told > 0) {
            x.hour(told);
        }
        x.parcel(0, 0, 0, 1, 1, false);
        x.hour(1);
        Check.due("44 in the row", x.where(0), Ropewalk.ROW);
        return x;
    }

    private static Ropewalk toAndFro() {
        Ropewalk x = new Ropewalk();
        x.lane(0, 1, 1, false);
        x.lane(1, 0, 1, false);
        x.lane(0, 2, 1, false);
        x.lane(1, 2, 1, false);
        x.plan(0, 2, 0, 0);
        x.plan(1, 2, 0, 1);
        x.plan(0, 2, 1, 2);
        x.plan(1, 2, 1, 3);
        x.address(0, 0);
        x.address(2, 0);
        x.van(2, 1, 0);
        return x;
    }
}
