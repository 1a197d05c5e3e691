/** Promises 1 to 7: a new object, depots, lanes and plans. */
public final class NetTest {
    public static void main(String[] args) {
        newObject();
        sorts();
        hire();
        failBlind();
        failStammer();
        failFull();
        lane();
        timetable();
        plan();
        Check.end();
    }

    private static void newObject() {
        Ropewalk x = new Ropewalk();
        Check.due("1 clock", x.clock(), 0);
        Check.due("1 scans", x.scans(), 0);
        for (int i = 0; i < 5; i++) {
            Check.due("1 stock", x.stock(i), 0);
            Check.due("1 stockByScans", x.stockByScans(i), 0);
            Check.due("1 cash", x.cash(i), 0);
        }
        for (int i = 0; i < 4; i++) {
            Check.due("1 account", x.account(i), 0);
        }
        for (int i = 0; i < 9; i++) {
            Check.due("1 count", x.count(i), 0);
        }
        Check.refused("1 lane", Check.INDEX, () -> x.waits(0));
        Check.refused("1 address", Check.INDEX, () -> x.away(0, 0, 0));
        Check.refused("1 parcel", Check.INDEX, () -> x.where(0));
        Check.refused("1 van", Check.INDEX, () -> x.onVan(0));
        Check.refused("1 locker", Check.INDEX, () -> x.free(0, 1));
        Ropewalk y = new Ropewalk();
        y.address(0, 0);
        Check.refused("1 objects are apart", Check.INDEX, () -> x.away(0, 0, 0));
    }

    private static void sorts() {
        Ropewalk x = new Ropewalk();
        Check.due("2 at first", x.sorts(0, 2), 10);
        Check.due("2 before", x.sorts(0, 40), 2);
        Check.due("2 the most", x.sorts(0, 0), 40);
        Check.due("2 other depot", x.sorts(4, 1), 10);
        Check.refused("2 depot", Check.INDEX, () -> x.sorts(5, 1));
        Check.refused("2 depot below", Check.INDEX, () -> x.sorts(-1, 41));
        Check.refused("2 many", Check.ARGUMENT, () -> x.sorts(0, 41));
        Check.refused("2 many below", Check.ARGUMENT, () -> x.sorts(0, -1));
        Check.due("2 refused ones change nothing", x.sorts(0, 2), 0);
        int a = x.address(0, 0);
        for (int i = 0; i < 5; i++) {
            x.parcel(0, i, a, a, 1, i == 3);
        }
        x.hour(1);
        Check.due("2 two an hour", x.count(Ropewalk.READY), 2);
        Check.due("2 express first", x.where(3), Ropewalk.READY);
        Check.due("2 then in order", x.where(0), Ropewalk.READY);
        Check.due("2 the others wait", x.place(4), 2);
        x.hour(1);
        Check.due("2 two more", x.count(Ropewalk.READY), 4);
    }

    private static void hire() {
        Ropewalk x = new Ropewalk();
        x.sorts(1, 0);
        int a = x.address(1, 0);
        for (int i = 0; i < 9; i++) {
            x.parcel(0, i, a, a, 1, false);
        }
        Check.due("3 none", x.hire(1, 5, 48), 0);
        Check.due("3 in place of those before", x.hire(1, 2, 3), 48);
        x.hour(1);
        Check.due("3 two sorted", x.count(Ropewalk.READY), 2);
        Check.due("3 still", x.hire(1, 1, 2), 2);
        x.hour(1);
        Check.due("3 one more", x.count(Ropewalk.READY), 3);
        x.hour(5);
        Check.due("3 gone after their hours", x.count(Ropewalk.READY), 4);
        Check.due("3 none still", x.hire(1, 20, 1), 0);
        x.sorts(1, 1);
        x.hour(1);
        Check.due("3 more than the depot sorts", x.count(Ropewalk.READY), 9);
        Check.refused("3 depot", Check.INDEX, () -> x.hire(5, 0, 1));
        Check.refused("3 more", Check.ARGUMENT, () -> x.hire(1, 0, 1));
        Check.refused("3 more above", Check.ARGUMENT, () -> x.hire(1, 21, 1));
        Check.refused("3 hours", Check.ARGUMENT, () -> x.hire(1, 1, 0));
        Check.refused("3 hours above", Check.ARGUMENT, () -> x.hire(1, 1, 49));
    }

    private static void failBlind() {
        Ropewalk x = new Ropewalk();
        int a = x.address(2, 0);
        Check.due("4 none", x.fail(2, 20, false), 0);
        Check.due("4 in place of it", x.fail(2, 1, false), 20);
        Check.due("4 the other kind", x.fail(2, 2, true), 0);
        x.parcel(0, 0, a, a, 1, false);
        Check.due("4 missed", x.scans(), 0);
        Check.due("4 used up", x.fail(2, 0, false), 0);
        Check.due("4 no stammer used", x.fail(2, 1, true), 2);
        x.parcel(0, 1, a, a, 1, false);
        Check.due("4 doubled", x.scans(), 2);
        Check.due("4 the same twice", x.scan(1, 0), 1);
        x.parcel(0, 2, a, a, 1, false);
        Check.due("4 once again", x.scans(), 3);
        Check.refused("4 depot", Check.INDEX, () -> x.fail(-1, 0, true));
        Check.refused("4 scans", Check.ARGUMENT, () -> x.fail(0, 21, true));
        Check.refused("4 scans below", Check.ARGUMENT, () -> x.fail(0, -1, false));
    }

    private static void failStammer() {
        Ropewalk x = new Ropewalk();
        int a = x.address(0, 0);
        int b = x.address(1, 0);
        Check.due("4 stammers", x.fail(0, 20, true), 0);
        Check.due("4 still", x.fail(0, 3, true), 20);
        x.parcel(0, 0, a, a, 1, false);
        x.parcel(0, 1, b, b, 1, false);
        Check.due("4 another depot does not", x.scans(), 3);
        Check.due("4 one used", x.fail(0, 3, true), 2);
    }

    private static void failFull() {
        Ropewalk x = Scenes.scanned(399);
        Check.due("4 one is left", x.scans(), 399);
        x.fail(0, 2, true);
        x.find(0, 0);
        Check.due("4 the double is missed", x.scans(), 400);
        Check.due("4 one stammer is used", x.fail(0, 2, true), 1);
        x.lose(0);
        x.find(0, 0);
        Check.due("4 full", x.scans(), 400);
        Check.due("4 missed ones use up none", x.fail(0, 0, true), 2);
        x.fail(0, 3, false);
        x.lose(0);
        x.find(0, 0);
        Check.due("4 a blind depot counts them", x.fail(0, 0, false), 2);
    }

    private static void lane() {
        Ropewalk x = new Ropewalk();
        Check.due("5 first", x.lane(0, 1, 24, false), 0);
        Check.due("5 second", x.lane(4, 0, 1, true), 1);
        Check.due("5 waits", x.waits(1), Ropewalk.NONE);
        Check.due("5 room and every at first", x.timetable(0, 1, 0, 1, 1, 0), 1001);
        Check.refused("5 from", Check.INDEX, () -> x.lane(5, 5, 0, true));
        Check.refused("5 to", Check.INDEX, () -> x.lane(0, -1, 1, true));
        Check.refused("5 same", Check.ARGUMENT, () -> x.lane(0, 0, 1, true));
        Check.refused("5 hours", Check.ARGUMENT, () -> x.lane(0, 1, 0, true));
        Check.refused("5 hours above", Check.ARGUMENT, () -> x.lane(0, 1, 25, true));
        for (int i = 2; i < 12; i++) {
            Check.due("5 more", x.lane(i % 2, 2, 1, false), i);
        }
        Check.refused("5 twelve", Check.STATE, () -> x.lane(0, 1, 1, false));
        Check.refused("5 argument first", Check.ARGUMENT, () -> x.lane(0, 0, 1, false));
        x.hour(1);
        Check.due("5 a departure each hour", x.waits(1), 0);
        x.hour(1);
        Check.due("5 patience 1", x.waits(1), Ropewalk.NONE);
    }

    private static void timetable() {
        Ropewalk x = new Ropewalk();
        x.lane(0, 1, 1, false);
        Check.due("6 before", x.timetable(0, 20, 100, 48, 20, 24), 1001);
        Check.due("6 then", x.timetable(0, 1, 2, 3, 1, 5), 2048);
        x.hour(1);
        Check.due("6 not due yet", x.waits(0), Ropewalk.NONE);
        x.hour(2);
        Check.due("6 waits", x.waits(0), 1);
        x.timetable(0, 1, 50, 3, 1, 5);
        x.hour(1);
        Check.due("6 goes on to wait", x.waits(0), 2);
        x.timetable(0, 1, 50, 3, 1, 0);
        x.hour(1);
        Check.due("6 with no patience", x.waits(0), Ropewalk.NONE);
        Check.refused("6 lane", Check.INDEX, () -> x.timetable(1, 0, 0, 1, 1, 0));
        Check.refused("6 room", Check.ARGUMENT, () -> x.timetable(0, 0, 0, 1, 1, 0));
        Check.refused("6 room above", Check.ARGUMENT, () -> x.timetable(0, 21, 0, 1, 1, 0));
        Check.refused("6 first", Check.ARGUMENT, () -> x.timetable(0, 1, -1, 1, 1, 0));
        Check.refused("6 first above", Check.ARGUMENT, () -> x.timetable(0, 1, 101, 1, 1, 0));
        Check.refused("6 every", Check.ARGUMENT, () -> x.timetable(0, 1, 0, 0, 1, 0));
        Check.refused("6 every above", Check.ARGUMENT, () -> x.timetable(0, 1, 0, 49, 1, 0));
        Check.refused("6 least", Check.ARGUMENT, () -> x.timetable(0, 1, 0, 1, 0, 0));
        Check.refused("6 least above", Check.ARGUMENT, () -> x.timetable(0, 1, 0, 1, 21, 0));
        Check.refused("6 patience", Check.ARGUMENT, () -> x.timetable(0, 1, 0, 1, 1, -1));
        Check.refused("6 patience above", Check.ARGUMENT, () -> x.timetable(0, 1, 0, 1, 1, 25));
        Check.due("6 refused ones change nothing", x.timetable(0, 1, 0, 1, 1, 0), 103);
    }

    private static void plan() {
        Ropewalk x = new Ropewalk();
        x.lane(0, 1, 24, false);
        x.lane(0, 2, 24, false);
        x.lane(1, 2, 24, false);
        Check.due("7 none", x.plan(0, 2, 0, 1), Ropewalk.NONE);
        Check.due("7 before", x.plan(0, 2, 0, 0), 1);
        Check.due("7 other half", x.plan(0, 2, 1, 1), Ropewalk.NONE);
        Check.due("7 none told", x.plan(0, 2, 0, Ropewalk.NONE), 0);
        Check.due("7 none before", x.plan(0, 2, 0, 0), Ropewalk.NONE);
        Check.due("7 other depot", x.plan(1, 2, 0, 2), Ropewalk.NONE);
        Check.refused("7 depot", Check.INDEX, () -> x.plan(5, 1, 0, 0));
        Check.refused("7 target", Check.INDEX, () -> x.plan(0, 5, 7, 0));
        Check.refused("7 lane", Check.INDEX, () -> x.plan(0, 1, 0, 3));
        Check.refused("7 lane below", Check.INDEX, () -> x.plan(0, 0, 0, -2));
        Check.refused("7 same", Check.ARGUMENT, () -> x.plan(0, 0, 0, 0));
        Check.refused("7 half", Check.ARGUMENT, () -> x.plan(0, 1, 2, 0));
        Check.refused("7 half below", Check.ARGUMENT, () -> x.plan(0, 1, -1, 0));
        Check.refused("7 from another depot", Check.ARGUMENT, () -> x.plan(0, 1, 0, 2));
        int a = x.address(0, 0);
        int b = x.address(2, 0);
        x.sorts(0, 1);
        x.parcel(0, 0, a, b, 1, false);
        x.hour(1);
        Check.due("7 the first half's lane", x.at(0), 0);
        x.hour(10);
        x.parcel(0, 1, a, b, 1, false);
        x.hour(1);
        Check.due("7 the second half's lane", x.at(1), 1);
    }
}
