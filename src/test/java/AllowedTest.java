/** The last numbers that are allowed, at both ends of each range, with what they do; and 512 calls of one object. */
public final class AllowedTest {
    public static void main(String[] args) {
        manyCalls();
        newObject();
        sorts();
        hire();
        fail();
        lane();
        timetable();
        plan();
        address();
        away();
        parcel();
        worth();
        promise();
        doubt();
        van();
        locker();
        hour();
        lastOnes();
        scanned();
        Check.end();
    }

    private static void manyCalls() {
        Ropewalk x = new Ropewalk();
        x.address(4, 60);
        for (int i = 2; i < 512; i++) {
            Check.due("Terms: the call " + i, x.sorts(i % 5, i % 41), i < 7 ? 10 : (i - 5) % 41);
        }
        Check.due("Terms: the call 512", x.sorts(0, 0), 510 % 41);
        Ropewalk y = new Ropewalk();
        y.address(0, 0);
        y.parcel(0, 0, 0, 0, 1, false);
        for (int i = 0; i < 254; i++) {
            y.lose(0);
            y.find(0, i % 5);
        }
        Check.due("Terms: the scans of 510 calls", y.scans(), 255);
        Check.due("Terms: the call 512", y.scan(254, 1), 253 % 5);
    }

    /** Each thing is 0 or none at first, though another object has some. */
    private static void newObject() {
        Scenes.full();
        Scenes.busy();
        Ropewalk x = new Ropewalk();
        Check.refused("1 no lane", Check.INDEX, () -> x.onLane(0));
        Check.refused("1 no lane to be planned", Check.INDEX, () -> x.plan(0, 1, 0, 0));
        Check.refused("1 no address", Check.INDEX, () -> x.parcel(0, 0, 0, 0, 1, false));
        Check.refused("1 no parcel", Check.INDEX, () -> x.foreseen(0));
        Check.refused("1 no van", Check.INDEX, () -> x.onVan(0));
        Check.refused("1 no locker", Check.INDEX, () -> x.fetch(0, 1000));
        Check.refused("1 no scan", Check.INDEX, () -> x.scan(0, 0));
        Check.due("1 the first lane", x.lane(0, 4, 1, false), 0);
        Check.due("1 the first address", x.address(0, 0), 0);
        Check.due("1 the first parcel", x.parcel(0, 0, 0, 0, 1, false), 0);
        Check.due("1 the first van", x.van(0, 1, 0), 0);
        Check.due("1 the first locker", x.locker(0, 0, 0, 0), 0);
        Check.due("1 the clock is 0", x.clock(), 0);
        for (int i = 0; i < 5; i++) {
            Check.due("1 ten an hour " + i, x.sorts(i, 0), 10);
            Check.due("1 no hands " + i, x.hire(i, 1, 1), 0);
            Check.due("1 not blind " + i, x.fail(i, 0, false), 0);
            Check.due("1 no stammer " + i, x.fail(i, 0, true), 0);
        }
        for (int i = 0; i < 50; i++) {
            if (i / 10 != i / 2 % 5) {
                Check.due("1 no plan " + i, x.plan(i / 10, i / 2 % 5, i % 2, Ropewalk.NONE), Ropewalk.NONE);
            }
        }
    }

    /** Parcels of the depot that go to it: as many are READY in an hour as it sorts. */
    private static Ropewalk heap(int depot, int many) {
        Ropewalk x = new Ropewalk();
        x.address(depot, 0);
        for (int i = 0; i < many; i++) {
            x.parcel(0, i, 0, 0, 1, false);
        }
        return x;
    }

    private static void sorts() {
        for (int depot = 0; depot < 5; depot += 4) {
            Ropewalk x = heap(depot, 40);
            x.hour(1);
            Check.due("2 ten at first, not eleven", x.count(Ropewalk.READY), 10);
            Check.due("2 the least", x.sorts(depot, 0), 10);
            x.hour(1);
            Check.due("2 none an hour", x.count(Ropewalk.READY), 10);
            Check.due("2 the most", x.sorts(depot, 40), 0);
            Check.due("2 the most before", x.sorts(depot, 40), 40);
            x.hour(1);
            Check.due("2 all that there are", x.count(Ropewalk.READY), 40);
            Ropewalk y = heap(depot, 40);
            y.sorts(depot, 40);
            y.hour(1);
            Check.due("2 forty in one hour", y.count(Ropewalk.READY), 40);
            Ropewalk z = heap(depot, 40);
            z.sorts(depot, 39);
            z.hour(1);
            Check.due("2 one is left", z.count(Ropewalk.READY), 39);
            Check.due("2 the last one", z.place(39), 0);
        }
    }

    private static void hire() {
        for (int depot = 0; depot < 5; depot += 4) {
            Ropewalk x = heap(depot, 40);
            x.sorts(depot, 0);
            Check.due("3 the least", x.hire(depot, 1, 1), 0);
            x.hour(1);
            Check.due("3 one more for an hour", x.count(Ropewalk.READY), 1);
            x.hour(1);
            Check.due("3 none behind it", x.count(Ropewalk.READY), 1);
            Check.due("3 the most", x.hire(depot, 20, 48), 0);
            x.hour(1);
            Check.due("3 twenty more", x.count(Ropewalk.READY), 21);
            Check.due("3 for 47 hours still", x.hire(depot, 20, 48), 47);
            Check.due("3 for 48 hours at once", x.hire(depot, 1, 1), 48);
        }
        Check.due("3 in the hour 48 still", readyAfter(48), 1);
        Check.due("3 not in the hour 49", readyAfter(49), 0);
        Ropewalk x = heap(0, 0);
        x.hire(0, 1, 2);
        x.hour(1);
        Check.due("3 for an hour still", x.hire(0, 1, 1), 1);
        x.hour(1);
        Check.due("3 for none still", x.hire(0, 1, 1), 0);
        x.hour(5);
        Check.due("3 not below none", x.hire(0, 1, 1), 0);
    }

    /** Whether a parcel is sorted in this hour, by hands for 48 hours. */
    private static int readyAfter(int hour) {
        Ropewalk x = heap(0, 0);
        x.sorts(0, 0);
        x.hire(0, 20, 48);
        Scenes.at(x, hour - 1);
        x.parcel(0, 0, 0, 0, 1, false);
        x.hour(1);
        return x.count(Ropewalk.READY);
    }

    private static void fail() {
        for (int depot = 0; depot < 5; depot += 4) {
            Ropewalk x = heap(depot, 0);
            Check.due("4 blind at most", x.fail(depot, 20, false), 0);
            for (int i = 0; i < 20; i++) {
                x.parcel(0, i, 0, 0, 1, false);
            }
            Check.due("4 twenty are missed", x.scans(), 0);
            x.parcel(0, 20, 0, 0, 1, false);
            Check.due("4 the next one is noted", x.scans(), 1);
            Check.due("4 stammers at most", x.fail(depot, 20, true), 0);
            for (int i = 21; i < 40; i++) {
                x.parcel(0, i, 0, 0, 1, false);
            }
            Check.due("4 nineteen are noted twice", x.scans(), 39);
            x.lose(0);
            x.find(0, depot);
            Check.due("4 the twentieth too", x.scans(), 41);
            x.lose(0);
            x.find(0, depot);
            Check.due("4 the next one once", x.scans(), 42);
            x.fail(depot, 20, true);
            Check.due("4 none is the least", x.fail(depot, 0, true), 20);
            x.lose(0);
            x.find(0, depot);
            Check.due("4 no stammer any more", x.scans(), 43);
            x.fail(depot, 20, false);
            Check.due("4 blind for none is the least", x.fail(depot, 0, false), 20);
            x.lose(0);
            x.find(0, depot);
            Check.due("4 not blind any more", x.scans(), 44);
        }
    }

    private static void lane() {
        Ropewalk x = new Ropewalk();
        for (int i = 0; i < 5; i++) {
            x.address(i, 0);
        }
        Check.due("5 the least hours, the ends of the depots", x.lane(0, 4, 1, false), 0);
        Check.due("5 the most hours, the other way", x.lane(4, 0, 24, false), 1);
        for (int half = 0; half < 2; half++) {
            x.plan(0, 4, half, 0);
            x.plan(4, 0, half, 1);
        }
        x.parcel(0, 0, 0, 4, 1, false);
        x.parcel(0, 1, 4, 0, 1, false);
        x.hour(1);
        Check.due("5 it leaves at the hour 1, a departure each hour", x.onLane(0), 1);
        x.hour(1);
        Check.due("5 it comes an hour later", x.where(0), Ropewalk.READY);
        x.hour(22);
        Check.due("5 not 23 hours later", x.where(1), Ropewalk.LANE);
        x.hour(1);
        Check.due("5 it comes 24 hours later", x.where(1), Ropewalk.READY);
        for (int i = 2; i < 12; i++) {
            Check.due("5 lanes up to 12", x.lane(i % 4, 4, 1, true), i);
        }
        Check.due("5 the twelfth stands", x.onLane(11), 0);
        Ropewalk y = Scenes.pair(false);
        y.sorts(0, 40);
        for (int i = 0; i < 11; i++) {
            y.parcel(0, i, 0, 2, 1, false);
        }
        y.hour(1);
        Check.due("5 a room of ten at first", y.onLane(0), 10);
        y.hour(1);
        Check.due("5 a departure each hour", y.onLane(0), 11);
    }

    private static void timetable() {
        Ropewalk x = Scenes.pair(false);
        Check.due("6 all the least", x.timetable(0, 1, 0, 1, 1, 0), 1001);
        Check.due("6 all the most", x.timetable(0, 20, 100, 48, 20, 24), 101);
        Check.due("6 the most before", x.timetable(0, 20, 100, 1, 20, 24), 2048);
        Check.due("6 the least every", x.timetable(0, 1, 100, 48, 20, 24), 2001);
        Check.due("6 the least room", x.timetable(0, 1, 0, 1, 1, 0), 148);
    }

    private static void plan() {
        Ropewalk x = new Ropewalk();
        for (int i = 0; i < 12; i++) {
            x.lane(i % 2 == 0 ? 0 : 4, 1 + i % 3, 1, false);
        }
        for (int half = 0; half < 2; half++) {
            Check.due("7 the first lane", x.plan(0, 4, half, 0), Ropewalk.NONE);
            Check.due("7 the last lane", x.plan(4, 0, half, 11), Ropewalk.NONE);
            Check.due("7 the same once more", x.plan(0, 4, half, 0), 0);
            Check.due("7 none", x.plan(4, 0, half, Ropewalk.NONE), 11);
            Check.due("7 none any more", x.plan(4, 0, half, Ropewalk.NONE), Ropewalk.NONE);
        }
    }

    private static void address() {
        Ropewalk x = new Ropewalk();
        for (int i = 0; i < 20; i++) {
            Check.due("8 up to 20", x.address(i % 5, i % 2 * 60), i);
        }
        Check.due("8 the last one stands", x.away(19, 0, 24), 0);
        Check.due("8 the spot 0 is met at once", handedAt(0), 0);
        Check.due("8 the spot 29 in the hour of the start", handedAt(29), 0);
        Check.due("8 the spot 30 an hour later", handedAt(30), 1);
        Check.due("8 the spot 59 as well", handedAt(59), 1);
        Check.due("8 the spot 60 two hours later", handedAt(60), 2);
    }

    /** How many hours behind the start a parcel of this spot is given. */
    private static int handedAt(int spot) {
        Ropewalk x = new Ropewalk();
        x.address(0, spot);
        x.van(0, 1, 1);
        x.parcel(0, 0, 0, 0, 1, false);
        for (int i = 0; i < 5; i++) {
            if (x.hour(1) == 1) {
                return i;
            }
        }
        return Ropewalk.NONE;
    }

    private static void away() {
        Ropewalk x = new Ropewalk();
        x.address(0, 0);
        Check.due("9 from 0 to 0", x.away(0, 0, 0), 24);
        Check.due("9 from 0 to 1", x.away(0, 0, 1), 23);
        Check.due("9 from 0 to 24", x.away(0, 0, 24), 0);
        Check.due("9 from 23 to 24", x.away(0, 23, 24), 23);
        Check.due("9 from 24 to 24", x.away(0, 24, 24), 24);
        Check.due("9 from 12 to 12", x.away(0, 12, 12), 24);
        Check.due("9 the same for never, met in that hour", isMetAt(12, 12, 12), 1);
        Check.due("9 away in the hour 0", isMetAt(0, 0, 1), 0);
        Check.due("9 at home in the hour 1", isMetAt(1, 0, 1), 1);
        Check.due("9 at home in the hour 22", isMetAt(22, 23, 24), 1);
        Check.due("9 away in the hour 23", isMetAt(23, 23, 24), 0);
        Check.due("9 at home in the hour 0 of the next day", isMetAt(0, 23, 24), 1);
    }

    private static int isMetAt(int start, int from, int to) {
        Ropewalk x = new Ropewalk();
        x.address(0, 0);
        x.away(0, from, to);
        x.van(0, 1, start);
        x.parcel(0, 0, 0, 0, 1, false);
        return x.hour(24);
    }

    private static void parcel() {
        Ropewalk x = new Ropewalk();
        for (int i = 0; i < 20; i++) {
            x.address(i % 5, 0);
        }
        Check.due("10 all the least", x.parcel(0, 0, 0, 0, 1, false), 0);
        Check.due("10 all the most", x.parcel(3, 999, 19, 19, 3, true), 1);
        Check.due("10 its reference", x.part(1, 0), 999);
        Check.due("10 its customer", x.part(1, 1), 3);
        Check.due("10 its depot", x.at(1), 4);
        Check.due("10 the same reference of another customer", x.parcel(0, 999, 19, 0, 1, false), 2);
        for (int i = 3; i < 40; i++) {
            Check.due("10 up to 40", x.parcel(i % 4, i, 0, 19, 2, false), i);
        }
        Check.due("10 the last one stands", x.where(39), Ropewalk.UNSORTED);
        Check.due("10 its window has the hour 0", givenInWindow(0, 0, 0), 1);
        Check.due("10 its window has the hour 23", givenInWindow(23, 0, 0), 1);
    }

    /** Whether a van of this start, and of the spot 0, gives a parcel of this window; of none told if to is 0. */
    private static int givenInWindow(int start, int from, int to) {
        Ropewalk x = new Ropewalk();
        x.address(0, 0);
        x.van(0, 1, start);
        x.parcel(0, 0, 0, 0, 1, false);
        if (to > 0) {
            x.promise(0, from, to, 200);
        }
        return x.hour(24);
    }

    private static void worth() {
        Ropewalk x = heap(0, 1);
        int[][] duties = {{0, 0}, {1, 1}, {9, 1}, {10, 1}, {11, 2}, {19, 2}, {20, 2}, {990, 99}, {991, 100}, {1000, 100}};
        for (int[] duty : duties) {
            Check.due("11 the duty of " + duty[0], x.worth(0, duty[0], 0), duty[1]);
        }
        Check.due("11 the most", cashOf(500), 500);
        Check.due("11 the least", cashOf(0), 0);
        Check.due("11 cash of 1", cashOf(1), 1);
    }

    private static int cashOf(int cash) {
        Ropewalk x = heap(0, 1);
        x.worth(0, 1000, cash);
        x.van(0, 1, 1);
        x.hour(1);
        return x.cash(0);
    }

    private static void promise() {
        Ropewalk x = heap(0, 1);
        Check.due("12 a hundred hours at first", x.part(0, 4), 100);
        Check.due("12 the least hours, the widest window", x.promise(0, 0, 24, 1), 1);
        Check.due("12 the most hours, the latest window", x.promise(0, 23, 24, 200), 200);
        Check.due("12 the earliest window", x.promise(0, 0, 1, 200), 200);
        Check.due("12 an hour of the day alone", x.promise(0, 12, 13, 200), 200);
        Check.due("12 met in the first hour of the day", givenInWindow(0, 0, 1), 1);
        Check.due("12 not in the second", givenInWindow(1, 0, 1), 0);
        Check.due("12 met in the last hour of the day", givenInWindow(23, 23, 24), 1);
        Ropewalk y = Scenes.at(heap(0, 0), 7);
        y.parcel(0, 0, 0, 0, 1, false);
        Check.due("12 behind the clock", y.promise(0, 0, 24, 200), 207);
    }

    private static void doubt() {
        Ropewalk x = new Ropewalk();
        for (int i = 0; i < 20; i++) {
            x.address(i % 5, 0);
        }
        x.parcel(0, 0, 1, 2, 1, false);
        Check.due("13 the first address, had none", x.doubt(0, 0), true);
        Check.due("13 the last address, had one", x.doubt(0, 19), false);
        Check.due("13 the sender may be it", x.doubt(0, 1), false);
        Check.due("13 the same once more", x.doubt(0, 1), false);
        x.resolve(0, false);
        Check.due("13 has none again", x.doubt(0, 19), true);
        Check.due("13 the last one is meant", x.resolve(0, true), 4);
        Check.due("13 what was its receiver is another then", x.doubt(0, 2), true);
        Check.refused("13 what is its receiver now", Check.ARGUMENT, () -> x.doubt(0, 19));
    }

    private static void van() {
        Ropewalk x = new Ropewalk();
        for (int i = 0; i < 6; i++) {
            Check.due("14 up to 6", x.van(i % 2 * 4, 1 + i % 2 * 29, i % 2 * 23), i);
        }
        Check.due("14 the last one stands", x.onVan(5), 0);
        Check.due("14 a room of 30 has 30 of the size 1", takes(30, 1), 30);
        Check.due("14 and 15 of the size 2", takes(30, 2), 15);
        Check.due("14 and 10 of the size 3", takes(30, 3), 10);
        Check.due("14 a room of 29 has 9 of the size 3", takes(29, 3), 9);
        Check.due("14 a room of 1 has one of the size 1", takes(1, 1), 1);
        Check.due("14 and none of the size 2", takes(1, 2), 0);
        Check.due("14 a room of 2 has none of the size 3", takes(2, 3), 0);
        Check.due("14 a room of 3 has one", takes(3, 3), 1);
        Check.due("14 the start 0 is at the clock 24", startsAt(0), 24);
        Check.due("14 the start 23 is at the clock 23", startsAt(23), 23);
    }

    /** How many of 40 parcels of a size a van takes. */
    private static int takes(int room, int size) {
        Ropewalk x = new Ropewalk();
        x.address(0, 60);
        x.sorts(0, 40);
        x.van(0, room, 1);
        for (int i = 0; i < 40; i++) {
            x.parcel(0, i, 0, 0, size, false);
        }
        x.hour(1);
        Check.due("14 on the van, and no place else", x.count(Ropewalk.READY), 40 - x.onVan(0));
        return x.onVan(0);
    }

    private static int startsAt(int start) {
        Ropewalk x = heap(0, 1);
        x.van(0, 1, start);
        for (int i = 1; i < 26; i++) {
            if (x.hour(1) == 1) {
                return x.clock();
            }
        }
        return Ropewalk.NONE;
    }

    private static void locker() {
        Ropewalk x = new Ropewalk();
        for (int i = 0; i < 5; i++) {
            Check.due("15 up to 5", x.locker(i, 5 * (i % 2), 5 * (i / 2 % 2), 5 * (i / 4)), i);
        }
        for (int i = 0; i < 5; i++) {
            Check.due("15 ones of " + i, x.free(i, 1), 5 * (i % 2));
            Check.due("15 twos of " + i, x.free(i, 2), 5 * (i / 2 % 2));
            Check.due("15 threes of " + i, x.free(i, 3), 5 * (i / 4));
        }
        Check.due("15 a locker of none has none", stored(0, 0, 0, 1), 0);
        Check.due("15 five of the size 1", stored(5, 0, 0, 1), 5);
        Check.due("15 fifteen of all sizes", stored(5, 5, 5, 1), 15);
        Check.due("15 ten for the size 2", stored(5, 5, 5, 2), 10);
        Check.due("15 five for the size 3", stored(5, 5, 5, 3), 5);
    }

    /** How many of parcels of a size, each of which failed twice, are put into a locker. */
    private static int stored(int ones, int twos, int threes, int size) {
        Ropewalk x = new Ropewalk();
        x.address(4, 0);
        x.away(0, 0, 24);
        x.sorts(4, 40);
        x.van(4, 30, 8);
        x.van(4, 30, 8);
        x.locker(4, ones, twos, threes);
        for (int i = 0; i < 30 / size && i < 16; i++) {
            x.parcel(0, i, 0, 0, size, false);
        }
        x.hour(14);
        x.hour(24);
        int free = x.free(0, 1) + x.free(0, 2) + x.free(0, 3);
        Check.due("15 each has a compartment", x.count(Ropewalk.LOCKER), ones + twos + threes - free);
        return x.count(Ropewalk.LOCKER);
    }

    private static void hour() {
        Ropewalk x = new Ropewalk();
        Check.due("16 the least", x.hour(1), 0);
        Check.due("16 one hour", x.clock(), 1);
        Check.due("16 the most", x.hour(24), 0);
        Check.due("16 24 hours", x.clock(), 25);
        Scenes.at(x, 576);
        Check.due("16 from 576 to 600", x.hour(24), 0);
        Check.due("16 the clock is 600", x.clock(), 600);
        Ropewalk y = Scenes.at(heap(0, 1), 599);
        y.van(0, 1, 0);
        Check.due("16 the hour 600 is an hour as others", y.hour(1), 1);
        Check.due("16 at midnight", y.clock() % 24, 0);
    }

    /** The last parcel of 40 is asked, and the first one. */
    private static void lastOnes() {
        Ropewalk x = Scenes.full();
        Check.due("27 the first one", x.where(0), Ropewalk.UNSORTED);
        Check.due("27 the last one", x.where(39), Ropewalk.UNSORTED);
        Check.due("28 the last one", x.at(39), 4);
        Check.due("29 its first part", x.part(39, 0), 9);
        Check.due("29 its last part", x.part(39, 7), 4);
        Check.due("30 the first of the nine", x.count(Ropewalk.UNSORTED), 40);
        Check.due("30 the last of the nine", x.count(Ropewalk.LOST), 0);
        Check.due("31 the last one", x.place(39), 7);
        Check.due("32 the last lane", x.waits(11), Ropewalk.NONE);
        Check.due("33 the last lane", x.onLane(11), 0);
        Check.due("34 the last van", x.onVan(5), 0);
        Check.due("35 the last locker, the first size", x.free(4, 1), 1);
        Check.due("35 the last locker, the last size", x.free(4, 3), 1);
        Check.due("36 the last customer", x.account(3), 0);
        Check.due("37 the last depot", x.cash(4), 0);
        Check.due("38 a scan each", x.scans(), 40);
        Check.due("39 the first part of the last one", x.scan(39, 0), 39);
        Check.due("39 the last part of the last one", x.scan(39, 3), Ropewalk.TAKEN);
        Check.due("40 the first place", x.way(39, 0), 4);
        Check.due("40 not so many", x.way(39, 1), Ropewalk.NONE);
        Check.due("40 far from so many", x.way(39, Integer.MAX_VALUE), Ropewalk.NONE);
        Check.due("41 no step", x.wrong(39), Ropewalk.NONE);
        Check.due("42 the first depot", x.stock(0), 8);
        Check.due("42 the last depot", x.stock(4), 8);
        Check.due("43 the last depot", x.stockByScans(4), 8);
        Check.due("44 READY in the next hour, and a van then", x.foreseen(0), 5);
    }

    private static void scanned() {
        Ropewalk x = Scenes.scanned(400);
        Check.due("38 as many as there may be", x.scans(), 400);
        Check.due("39 the last one", x.scan(399, 3), Ropewalk.BACK);
        Check.refused("39 behind the last one", Check.INDEX, () -> x.scan(400, 0));
        x.find(0, 4);
        Check.due("38 further ones are missed", x.scans(), 400);
        Check.due("22 it is found all the same", x.at(0), 4);
        Check.due("40 not by its scans", x.way(0, 1), Ropewalk.NONE);
        Check.due("43 the last scan that was noted", x.stockByScans(0) - x.stock(0), 1);
        Ropewalk y = Scenes.scanned(399);
        y.find(0, 4);
        Check.due("38 the last one is noted", y.scans(), 400);
        Check.due("39 with its depot", y.scan(399, 1), 4);
        Ropewalk z = Scenes.scanned(399);
        z.fail(4, 1, true);
        z.find(0, 4);
        Check.due("38 the second of a double is missed", z.scans(), 400);
        Check.due("4 the stammer is used", z.fail(4, 0, true), 0);
        Ropewalk w = Scenes.scanned(400);
        w.fail(4, 2, true);
        w.fail(4, 1, false);
        w.find(0, 4);
        Check.due("4 of a blind depot they count", w.fail(4, 0, false), 0);
        Check.due("4 what is missed uses up no stammer", w.fail(4, 2, true), 2);
        w.lose(0);
        w.find(0, 4);
        Check.due("4 nor when it was not blind", w.fail(4, 2, true), 2);
    }
}
