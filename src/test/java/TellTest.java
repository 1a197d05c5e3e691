/** Promises 8 to 15: addresses, parcels, vans and lockers are told. */
public final class TellTest {
    public static void main(String[] args) {
        address();
        away();
        parcel();
        parcelLimits();
        worth();
        promise();
        doubt();
        van();
        locker();
        Check.end();
    }

    private static void address() {
        Ropewalk x = new Ropewalk();
        Check.due("8 first", x.address(0, 0), 0);
        Check.refused("8 depot", Check.INDEX, () -> x.address(5, 61));
        Check.refused("8 depot below", Check.INDEX, () -> x.address(-1, 0));
        Check.refused("8 spot", Check.ARGUMENT, () -> x.address(0, 61));
        Check.refused("8 spot below", Check.ARGUMENT, () -> x.address(0, -1));
        for (int i = 1; i < 20; i++) {
            Check.due("8 next", x.address(4, 60), i);
        }
        Check.refused("8 twenty", Check.STATE, () -> x.address(0, 0));
        Check.refused("8 argument first", Check.ARGUMENT, () -> x.address(0, 61));
        x.parcel(0, 0, 0, 19, 1, false);
        Check.due("8 its depot", x.part(0, 7), 4);
    }

    private static void away() {
        Ropewalk x = new Ropewalk();
        int a = x.address(0, 0);
        Check.due("9 some", x.away(a, 3, 10), 17);
        Check.due("9 all day", x.away(a, 0, 24), 0);
        Check.due("9 never", x.away(a, 24, 24), 24);
        Check.due("9 never at 0", x.away(a, 0, 0), 24);
        Check.refused("9 address", Check.INDEX, () -> x.away(1, 5, 4));
        Check.refused("9 from", Check.ARGUMENT, () -> x.away(a, -1, 4));
        Check.refused("9 from above", Check.ARGUMENT, () -> x.away(a, 25, 25));
        Check.refused("9 to", Check.ARGUMENT, () -> x.away(a, 5, 4));
        Check.refused("9 to above", Check.ARGUMENT, () -> x.away(a, 5, 25));
        Ropewalk y = new Ropewalk();
        y.van(0, 1, 0);
        y.address(0, 0);
        y.parcel(0, 0, 0, 0, 1, false);
        Check.due("9 at home in the hour 0 at first", y.hour(24), 1);
        Check.due("9 met ahead of it", metAt(7, 8, 9), 1);
        Check.due("9 failed in it", metAt(8, 8, 9), 0);
        Check.due("9 met when it ends", metAt(9, 8, 9), 1);
    }

    private static int metAt(int start, int from, int to) {
        Ropewalk x = new Ropewalk();
        int a = x.address(0, 0);
        x.away(a, from, to);
        x.van(0, 1, start);
        x.parcel(0, 0, a, a, 1, false);
        return x.hour(12);
    }

    private static void parcel() {
        Ropewalk x = new Ropewalk();
        int a = x.address(1, 0);
        int b = x.address(2, 0);
        x.hour(3);
        Check.due("10 first", x.parcel(0, 999, a, b, 3, true), 0);
        Check.due("10 unsorted", x.where(0), Ropewalk.UNSORTED);
        Check.due("10 at its sender's depot", x.at(0), 1);
        Check.due("10 target", x.part(0, 7), 2);
        Check.due("10 promise", x.part(0, 4), 103);
        Check.due("10 scanned", x.scan(0, 3), Ropewalk.TAKEN);
        Check.due("10 scanned there", x.scan(0, 1), 1);
        Check.due("10 scanned then", x.scan(0, 2), 3);
        Check.due("10 without cash and value", x.worth(0, 0, 0), 0);
        Check.due("10 without doubt", x.doubt(0, a), true);
        Check.due("10 the same address twice", x.parcel(3, 999, a, a, 1, false), 1);
        Check.due("10 behind others", x.place(1), 1);
        Check.refused("10 customer", Check.INDEX, () -> x.parcel(4, 1000, a, b, 1, false));
        Check.refused("10 customer below", Check.INDEX, () -> x.parcel(-1, 0, a, b, 1, false));
        Check.refused("10 sender", Check.INDEX, () -> x.parcel(0, 0, 2, b, 1, false));
        Check.refused("10 receiver", Check.INDEX, () -> x.parcel(0, 0, a, -1, 0, false));
        Check.refused("10 reference", Check.ARGUMENT, () -> x.parcel(0, 1000, a, b, 1, false));
        Check.refused("10 reference below", Check.ARGUMENT, () -> x.parcel(0, -1, a, b, 1, false));
        Check.refused("10 size", Check.ARGUMENT, () -> x.parcel(0, 999, a, b, 0, false));
        Check.refused("10 size above", Check.ARGUMENT, () -> x.parcel(0, 0, a, b, 4, false));
        Check.refused("10 has the reference", Check.STATE, () -> x.parcel(0, 999, a, b, 1, false));
        Check.due("10 refused ones are not told", x.scans(), 2);
        x.van(1, 1, 0);
        x.hour(20);
        Check.due("10 a window of the whole day", x.hour(1), 1);
    }

    private static void parcelLimits() {
        Ropewalk x = new Ropewalk();
        int a = x.address(0, 0);
        for (int i = 0; i < 40; i++) {
            Check.due("10 up to 40", x.parcel(i % 4, i, a, a, 1, false), i);
        }
        Check.refused("10 forty", Check.STATE, () -> x.parcel(0, 999, a, a, 1, false));
        Check.refused("10 argument first", Check.ARGUMENT, () -> x.parcel(0, 999, a, a, 4, false));
    }

    private static void worth() {
        Ropewalk x = new Ropewalk();
        int a = x.address(0, 0);
        int b = x.address(1, 0);
        x.parcel(0, 0, a, b, 1, false);
        Check.due("11 rounded up", x.worth(0, 1, 0), 1);
        Check.due("11 a tenth", x.worth(0, 1000, 500), 100);
        Check.due("11 rounded up too", x.worth(0, 101, 500), 11);
        Check.due("11 none", x.worth(0, 0, 0), 0);
        Check.refused("11 parcel", Check.INDEX, () -> x.worth(1, -1, 0));
        Check.refused("11 value", Check.ARGUMENT, () -> x.worth(0, 1001, 0));
        Check.refused("11 value below", Check.ARGUMENT, () -> x.worth(0, -1, 0));
        Check.refused("11 cash", Check.ARGUMENT, () -> x.worth(0, 0, 501));
        Check.refused("11 cash below", Check.ARGUMENT, () -> x.worth(0, 0, -1));
        x.sorts(0, 0);
        x.hour(1);
        Check.due("11 fresh while nothing is sorted", x.worth(0, 10, 0), 1);
        x.lose(0);
        Check.due("11 fresh though LOST", x.worth(0, 20, 0), 2);
        x.find(0, 0);
        x.sorts(0, 1);
        x.hour(1);
        Check.due("11 sorted in vain", x.where(0), Ropewalk.UNSORTED);
        Check.refused("11 not fresh", Check.STATE, () -> x.worth(0, 10, 0));
        Check.refused("11 argument first", Check.ARGUMENT, () -> x.worth(0, 1001, 0));
    }

    private static void promise() {
        Ropewalk x = new Ropewalk();
        int a = x.address(0, 0);
        x.hour(2);
        x.parcel(0, 0, a, a, 1, false);
        Check.due("12 the clock of it", x.promise(0, 0, 24, 200), 202);
        Check.due("12 the least", x.promise(0, 23, 24, 1), 3);
        Check.due("12 is kept", x.part(0, 4), 3);
        Check.refused("12 parcel", Check.INDEX, () -> x.promise(1, 0, 0, 1));
        Check.refused("12 from", Check.ARGUMENT, () -> x.promise(0, 24, 25, 1));
        Check.refused("12 from below", Check.ARGUMENT, () -> x.promise(0, -1, 5, 1));
        Check.refused("12 to", Check.ARGUMENT, () -> x.promise(0, 5, 5, 1));
        Check.refused("12 to above", Check.ARGUMENT, () -> x.promise(0, 5, 25, 1));
        Check.refused("12 hours", Check.ARGUMENT, () -> x.promise(0, 0, 24, 0));
        Check.refused("12 hours above", Check.ARGUMENT, () -> x.promise(0, 0, 24, 201));
        x.hour(1);
        Check.refused("12 not fresh", Check.STATE, () -> x.promise(0, 0, 24, 1));
        Check.refused("12 argument first", Check.ARGUMENT, () -> x.promise(0, 0, 24, 0));
    }

    private static void doubt() {
        Ropewalk x = new Ropewalk();
        int a = x.address(0, 0);
        int b = x.address(0, 1);
        int c = x.address(1, 1);
        x.parcel(0, 0, a, b, 1, false);
        Check.due("13 had none", x.doubt(0, a), true);
        Check.due("13 had one", x.doubt(0, c), false);
        Check.refused("13 parcel", Check.INDEX, () -> x.doubt(1, 0));
        Check.refused("13 address", Check.INDEX, () -> x.doubt(0, 3));
        Check.refused("13 receiver", Check.ARGUMENT, () -> x.doubt(0, b));
        x.hour(1);
        Check.due("13 HELD by it", x.where(0), Ropewalk.HELD);
        Check.refused("13 not fresh", Check.STATE, () -> x.doubt(0, a));
        Check.refused("13 argument first", Check.ARGUMENT, () -> x.doubt(0, b));
        Check.due("13 the last one is meant", x.resolve(0, true), 1);
    }

    private static void van() {
        Ropewalk x = new Ropewalk();
        Check.due("14 first", x.van(0, 30, 23), 0);
        Check.refused("14 depot", Check.INDEX, () -> x.van(5, 0, 0));
        Check.refused("14 room", Check.ARGUMENT, () -> x.van(0, 0, 0));
        Check.refused("14 room above", Check.ARGUMENT, () -> x.van(0, 31, 0));
        Check.refused("14 start", Check.ARGUMENT, () -> x.van(0, 1, 24));
        Check.refused("14 start below", Check.ARGUMENT, () -> x.van(0, 1, -1));
        for (int i = 1; i < 6; i++) {
            Check.due("14 next", x.van(4, 1, 0), i);
        }
        Check.refused("14 six", Check.STATE, () -> x.van(0, 1, 0));
        Check.refused("14 argument first", Check.ARGUMENT, () -> x.van(0, 31, 0));
    }

    private static void locker() {
        Ropewalk x = new Ropewalk();
        Check.due("15 first", x.locker(0, 0, 5, 0), 0);
        Check.refused("15 depot", Check.INDEX, () -> x.locker(-1, 6, 0, 0));
        Check.refused("15 ones", Check.ARGUMENT, () -> x.locker(0, 6, 0, 0));
        Check.refused("15 ones below", Check.ARGUMENT, () -> x.locker(0, -1, 0, 0));
        Check.refused("15 twos", Check.ARGUMENT, () -> x.locker(0, 0, 6, 0));
        Check.refused("15 twos below", Check.ARGUMENT, () -> x.locker(0, 0, -1, 0));
        Check.refused("15 threes", Check.ARGUMENT, () -> x.locker(0, 0, 0, 6));
        Check.refused("15 threes below", Check.ARGUMENT, () -> x.locker(0, 0, 0, -1));
        for (int i = 1; i < 5; i++) {
            Check.due("15 next", x.locker(4, 1, 2, 3), i);
        }
        Check.refused("15 five", Check.STATE, () -> x.locker(0, 0, 0, 0));
        Check.refused("15 argument first", Check.ARGUMENT, () -> x.locker(0, 0, 0, 6));
        Check.due("15 ones", x.free(4, 1), 1);
        Check.due("15 twos", x.free(4, 2), 2);
        Check.due("15 threes", x.free(4, 3), 3);
    }
}
