import java.util.List;
import java.util.function.Consumer;
import java.util.function.Supplier;

/**
 * The sentences that bind all promises: a refused call throws the exception that its throws clause names first,
 * and changes nothing. Each range of the promises 2 to 44 is tried with the first numbers outside, at both ends.
 */
public final class RefusedTest {
    private static final int[] NO_DEPOT = outside(0, 4);
    private static final int[] NO_CUSTOMER = outside(0, 3);

    /** A state, with its pictures: as it is, as it is told, and as it is some days later. */
    private static final class Scene {
        final Supplier<Ropewalk> make;
        final List<String> asked;
        final List<String> told;
        final List<String> later;

        Scene(Supplier<Ropewalk> make) {
            this.make = make;
            asked = Picture.asked(make);
            told = Picture.told(make);
            later = Picture.asked(() -> later(make.get()));
        }
    }

    private static final Scene BUSY = new Scene(Scenes::busy);
    private static final Scene FULL = new Scene(Scenes::full);

    public static void main(String[] args) {
        depots();
        lanes();
        plans();
        addresses();
        parcels();
        worthAndPromise();
        doubt();
        vansAndLockers();
        hour();
        resolveAndDuty();
        forwardAndGiveBack();
        loseAndFind();
        fetch();
        claim();
        merge();
        asks();
        asksOfParcels();
        full();
        Check.end();
    }

    /** The first ones outside the range and the farthest ones. */
    private static int[] outside(int least, int most) {
        return new int[] {least - 1, most + 1, Integer.MIN_VALUE, Integer.MAX_VALUE};
    }

    private static Ropewalk later(Ropewalk x) {
        if (x.clock() + 49 <= 600) {
            x.hour(1);
            x.hour(24);
            x.hour(24);
        }
        return x;
    }

    private static void refused(String what, Class<?> want, Scene scene, Consumer<Ropewalk> call) {
        Check.refused(what, want, () -> {
            call.accept(scene.make.get());
            return "of a call that is not refused";
        });
        Supplier<Ropewalk> after = () -> {
            Ropewalk x = scene.make.get();
            try {
                call.accept(x);
            } catch (RuntimeException e) {
                return x;
            }
            return x;
        };
        Check.alike(what + " changes nothing that is asked", Picture.asked(after), scene.asked);
        Check.alike(what + " changes nothing that is told", Picture.told(after), scene.told);
        Check.alike(what + " changes nothing that comes", Picture.asked(() -> later(after.get())), scene.later);
    }

    private static void index(String what, Consumer<Ropewalk> call) {
        refused(what, Check.INDEX, BUSY, call);
    }

    private static void argument(String what, Consumer<Ropewalk> call) {
        refused(what, Check.ARGUMENT, BUSY, call);
    }

    private static void state(String what, Consumer<Ropewalk> call) {
        refused(what, Check.STATE, BUSY, call);
    }

    private static void depots() {
        for (int k : NO_DEPOT) {
            index("2 sorts, depot " + k, x -> x.sorts(k, 3));
            index("3 hire, depot " + k, x -> x.hire(k, 3, 3));
            index("4 fail, depot " + k, x -> x.fail(k, 3, true));
        }
        for (int k : outside(0, 40)) {
            argument("2 sorts, many " + k, x -> x.sorts(0, k));
        }
        index("2 sorts, depot first", x -> x.sorts(5, 41));
        for (int k : outside(1, 20)) {
            argument("3 hire, more " + k, x -> x.hire(4, k, 3));
        }
        for (int k : outside(1, 48)) {
            argument("3 hire, hours " + k, x -> x.hire(4, 3, k));
        }
        index("3 hire, depot first", x -> x.hire(-1, 0, 0));
        for (int k : outside(0, 20)) {
            argument("4 fail, blind " + k, x -> x.fail(0, k, false));
            argument("4 fail, stammers " + k, x -> x.fail(0, k, true));
        }
        index("4 fail, depot first", x -> x.fail(5, 21, false));
    }

    private static void lanes() {
        for (int k : NO_DEPOT) {
            index("5 lane, from " + k, x -> x.lane(k, 0, 1, false));
            index("5 lane, to " + k, x -> x.lane(0, k, 1, false));
            index("5 lane, the same, which is none, " + k, x -> x.lane(k, k, 0, false));
        }
        for (int k : outside(1, 24)) {
            argument("5 lane, hours " + k, x -> x.lane(0, 4, k, true));
        }
        for (int k = 0; k < 5; k++) {
            int same = k;
            argument("5 lane, both the same " + k, x -> x.lane(same, same, 1, false));
        }
        for (int k : outside(0, 3)) {
            index("6 timetable, lane " + k, x -> x.timetable(k, 1, 0, 1, 1, 0));
            index("6 timetable, lane first " + k, x -> x.timetable(k, 0, -1, 0, 0, -1));
        }
        for (int k : outside(1, 20)) {
            argument("6 timetable, room " + k, x -> x.timetable(3, k, 0, 1, 1, 0));
            argument("6 timetable, least " + k, x -> x.timetable(3, 1, 0, 1, k, 0));
        }
        for (int k : outside(0, 100)) {
            argument("6 timetable, first " + k, x -> x.timetable(3, 1, k, 1, 1, 0));
        }
        for (int k : outside(1, 48)) {
            argument("6 timetable, every " + k, x -> x.timetable(3, 1, 0, k, 1, 0));
        }
        for (int k : outside(0, 24)) {
            argument("6 timetable, patience " + k, x -> x.timetable(3, 1, 0, 1, 1, k));
        }
    }

    private static void plans() {
        for (int k : NO_DEPOT) {
            index("7 plan, depot " + k, x -> x.plan(k, 0, 0, Ropewalk.NONE));
            index("7 plan, target " + k, x -> x.plan(0, k, 0, Ropewalk.NONE));
            index("7 plan, the same, which is none, " + k, x -> x.plan(k, k, 2, Ropewalk.NONE));
        }
        for (int k : new int[] {-2, 4, Integer.MIN_VALUE, Integer.MAX_VALUE}) {
            index("7 plan, lane " + k, x -> x.plan(0, 1, 0, k));
            index("7 plan, lane first " + k, x -> x.plan(0, 0, 2, k));
        }
        for (int k : outside(0, 1)) {
            argument("7 plan, half " + k, x -> x.plan(0, 1, k, 1));
            argument("7 plan, half of none " + k, x -> x.plan(0, 1, k, Ropewalk.NONE));
        }
        argument("7 plan, the same", x -> x.plan(0, 0, 0, 1));
        argument("7 plan, the same, and no lane", x -> x.plan(4, 4, 1, Ropewalk.NONE));
        argument("7 plan, the lane does not lead from the depot", x -> x.plan(0, 1, 0, 0));
        argument("7 plan, the lane leads to the depot", x -> x.plan(1, 0, 1, 1));
    }

    private static void addresses() {
        for (int k : NO_DEPOT) {
            index("8 address, depot " + k, x -> x.address(k, 0));
            index("8 address, depot first " + k, x -> x.address(k, 61));
        }
        for (int k : outside(0, 60)) {
            argument("8 address, spot " + k, x -> x.address(0, k));
        }
        for (int k : outside(0, 4)) {
            index("9 away, address " + k, x -> x.away(k, 0, 24));
            index("9 away, address first " + k, x -> x.away(k, 25, 24));
        }
        // Nobody is at home at the address 3, and a parcel for it is on its way.
        for (int k : outside(0, 24)) {
            argument("9 away, from " + k, x -> x.away(3, k, 24));
            argument("9 away, from and to " + k, x -> x.away(3, k, k));
        }
        for (int k : outside(7, 24)) {
            argument("9 away, to " + k, x -> x.away(3, 7, k));
        }
        argument("9 away, to below the last from", x -> x.away(3, 24, 23));
    }

    private static void parcels() {
        for (int k : NO_CUSTOMER) {
            index("10 parcel, customer " + k, x -> x.parcel(k, 5, 0, 1, 1, false));
            index("10 parcel, customer first " + k, x -> x.parcel(k, 1000, 0, 1, 0, false));
        }
        for (int k : outside(0, 4)) {
            index("10 parcel, sender " + k, x -> x.parcel(0, 5, k, 1, 1, false));
            index("10 parcel, receiver " + k, x -> x.parcel(0, 5, 0, k, 1, false));
            index("10 parcel, addresses first " + k, x -> x.parcel(0, 0, k, k, 4, false));
        }
        for (int k : outside(0, 999)) {
            argument("10 parcel, reference " + k, x -> x.parcel(0, k, 0, 1, 1, false));
        }
        for (int k : outside(1, 3)) {
            argument("10 parcel, size " + k, x -> x.parcel(0, 5, 0, 1, k, true));
            argument("10 parcel, size first " + k, x -> x.parcel(0, 0, 0, 1, k, true));
        }
        state("10 parcel, the customer has the reference", x -> x.parcel(0, 0, 0, 1, 1, false));
        state("10 parcel, that of one that is HANDED", x -> x.parcel(3, 77, 0, 1, 1, false));
        state("10 parcel, that of one that is LOST", x -> x.parcel(2, 500, 0, 1, 1, false));
    }

    private static void worthAndPromise() {
        for (int k : outside(0, 13)) {
            index("11 worth, parcel " + k, x -> x.worth(k, 1, 1));
            index("11 worth, parcel first " + k, x -> x.worth(k, -1, 501));
            index("12 promise, parcel " + k, x -> x.promise(k, 0, 24, 1));
            index("12 promise, parcel first " + k, x -> x.promise(k, 24, 24, 0));
        }
        for (int k : outside(0, 1000)) {
            argument("11 worth, value " + k, x -> x.worth(11, k, 1));
            argument("11 worth, value first " + k, x -> x.worth(0, k, 1));
        }
        for (int k : outside(0, 500)) {
            argument("11 worth, cash " + k, x -> x.worth(11, 1, k));
            argument("11 worth, cash first " + k, x -> x.worth(0, 1, k));
        }
        for (int k : outside(0, 23)) {
            argument("12 promise, from " + k, x -> x.promise(11, k, 24, 1));
        }
        for (int k : outside(7, 24)) {
            argument("12 promise, to " + k, x -> x.promise(11, 6, k, 1));
        }
        for (int k : outside(1, 200)) {
            argument("12 promise, hours " + k, x -> x.promise(11, 6, 7, k));
            argument("12 promise, hours first " + k, x -> x.promise(0, 6, 7, k));
        }
        // 11 to 13 are fresh; 0 was sorted in vain.
        for (int k = 0; k < 11; k++) {
            if (k != 8) {
                int parcel = k;
                state("11 worth, not fresh " + k, x -> x.worth(parcel, 1, 1));
                state("12 promise, not fresh " + k, x -> x.promise(parcel, 6, 7, 1));
            }
        }
    }

    private static void doubt() {
        for (int k : outside(0, 13)) {
            index("13 doubt, parcel " + k, x -> x.doubt(k, 2));
        }
        for (int k : outside(0, 4)) {
            index("13 doubt, address " + k, x -> x.doubt(11, k));
            index("13 doubt, address first " + k, x -> x.doubt(0, k));
        }
        argument("13 doubt, its receiver", x -> x.doubt(11, 0));
        argument("13 doubt, its receiver first", x -> x.doubt(0, 2));
        for (int k = 0; k < 11; k++) {
            if (k != 8) {
                int parcel = k;
                state("13 doubt, not fresh " + k, x -> x.doubt(parcel, 4));
            }
        }
    }

    private static void vansAndLockers() {
        for (int k : NO_DEPOT) {
            index("14 van, depot " + k, x -> x.van(k, 1, 0));
            index("14 van, depot first " + k, x -> x.van(k, 31, 24));
            index("15 locker, depot " + k, x -> x.locker(k, 1, 1, 1));
            index("15 locker, depot first " + k, x -> x.locker(k, 6, 6, 6));
        }
        for (int k : outside(1, 30)) {
            argument("14 van, room " + k, x -> x.van(0, k, 0));
        }
        for (int k : outside(0, 23)) {
            argument("14 van, start " + k, x -> x.van(0, 1, k));
        }
        for (int k : outside(0, 5)) {
            argument("15 locker, ones " + k, x -> x.locker(0, k, 1, 1));
            argument("15 locker, twos " + k, x -> x.locker(0, 1, k, 1));
            argument("15 locker, threes " + k, x -> x.locker(0, 1, 1, k));
        }
    }

    private static void hour() {
        for (int k : outside(1, 24)) {
            argument("16 hour, hours " + k, x -> x.hour(k));
        }
        Scene last = new Scene(() -> Scenes.at(Scenes.busy(), 600));
        Scene late = new Scene(() -> Scenes.at(Scenes.busy(), 577));
        refused("16 hour, the clock is 600", Check.STATE, last, x -> x.hour(1));
        refused("16 hour, the clock is 600, and 24", Check.STATE, last, x -> x.hour(24));
        refused("16 hour, the clock would be 601", Check.STATE, late, x -> x.hour(24));
        for (int k : outside(1, 24)) {
            refused("16 hour, hours first " + k, Check.ARGUMENT, last, x -> x.hour(k));
        }
    }

    private static void resolveAndDuty() {
        for (int k : outside(0, 13)) {
            index("17 resolve, parcel " + k, x -> x.resolve(k, true));
            index("18 duty, parcel " + k, x -> x.duty(k));
        }
        for (int k = 0; k < 14; k++) {
            int parcel = k;
            if (k != 6 && k != 11) {
                state("17 resolve, no doubt, or LOST " + k, x -> x.resolve(parcel, false));
            }
            if (k != 9) {
                state("18 duty, paid, 0, HANDED or LOST " + k, x -> x.duty(parcel));
            }
        }
    }

    private static void forwardAndGiveBack() {
        for (int k : outside(0, 13)) {
            index("19 forward, parcel " + k, x -> x.forward(k, 0));
            index("20 giveBack, parcel " + k, x -> x.giveBack(k));
        }
        for (int k : outside(0, 4)) {
            index("19 forward, address " + k, x -> x.forward(0, k));
            index("19 forward, address first " + k, x -> x.forward(7, k));
        }
        for (int k : new int[] {4, 5, 7, 8, 10, 12}) {
            state("19 forward, VAN, LOCKER, HANDED or LOST " + k, x -> x.forward(k, 4));
            state("20 giveBack, VAN, LOCKER, HANDED or LOST " + k, x -> x.giveBack(k));
        }
        state("20 giveBack, it is one", x -> x.giveBack(13));
    }

    private static void loseAndFind() {
        for (int k : outside(0, 13)) {
            index("21 lose, parcel " + k, x -> x.lose(k));
            index("22 find, parcel " + k, x -> x.find(k, 0));
        }
        for (int k : NO_DEPOT) {
            index("22 find, depot " + k, x -> x.find(8, k));
            index("22 find, depot first " + k, x -> x.find(0, k));
        }
        for (int k : new int[] {4, 7, 8, 10, 12}) {
            state("21 lose, VAN, HANDED or LOST " + k, x -> x.lose(k));
        }
        for (int k = 0; k < 14; k++) {
            int parcel = k;
            if (k != 8 && k != 12) {
                state("22 find, not LOST " + k, x -> x.find(parcel, 0));
            }
        }
    }

    private static void fetch() {
        // The parcel 5 is in the locker 1 since the clock 25.
        int code = 1000 + 37 * 5 + 101 + 25;
        Check.due("23 its code", Scenes.busy().fetch(1, code), 5);
        for (int k : outside(0, 1)) {
            index("23 fetch, locker " + k, x -> x.fetch(k, code));
            index("23 fetch, locker first " + k, x -> x.fetch(k, 0));
        }
        state("23 fetch, one below", x -> x.fetch(1, code - 1));
        state("23 fetch, one above", x -> x.fetch(1, code + 1));
        state("23 fetch, another locker", x -> x.fetch(0, code));
        state("23 fetch, the code of one that has left", x -> x.fetch(1, code + 2 * 37));
        for (int k : new int[] {0, -1, Ropewalk.NONE, Integer.MIN_VALUE, Integer.MAX_VALUE}) {
            state("23 fetch, code " + k, x -> x.fetch(1, k));
        }
    }

    private static void claim() {
        for (int k : outside(0, 13)) {
            index("24 claim, parcel " + k, x -> x.claim(k, Ropewalk.GONE, true));
            index("24 claim, parcel first " + k, x -> x.claim(k, 2, true));
        }
        for (int k : outside(0, 1)) {
            argument("24 claim, kind " + k, x -> x.claim(0, k, true));
            argument("24 claim, kind first " + k, x -> x.claim(12, k, true));
        }
        for (int k = 0; k < 14; k++) {
            int parcel = k;
            state("24 claim, not GONE, worth 0 or paid " + k, x -> x.claim(parcel, Ropewalk.GONE, true));
            state("24 claim, not LATE " + k, x -> x.claim(parcel, Ropewalk.LATE, true));
        }
    }

    private static void merge() {
        for (int k : NO_CUSTOMER) {
            index("25 merge, customer " + k, x -> x.merge(k, 0));
            index("25 merge, other " + k, x -> x.merge(0, k));
            index("25 merge, the same, which is none, " + k, x -> x.merge(k, k));
        }
        for (int k = 0; k < 4; k++) {
            int same = k;
            argument("25 merge, the same " + k, x -> x.merge(same, same));
        }
    }

    private static void asks() {
        for (int k : outside(0, 8)) {
            argument("30 count, where " + k, x -> x.count(k));
        }
        for (int k : outside(0, 3)) {
            index("32 waits, lane " + k, x -> x.waits(k));
            index("33 onLane, lane " + k, x -> x.onLane(k));
            index("36 account, customer " + k, x -> x.account(k));
        }
        for (int k : outside(0, 1)) {
            index("34 onVan, van " + k, x -> x.onVan(k));
            index("35 free, locker " + k, x -> x.free(k, 1));
            index("35 free, locker first " + k, x -> x.free(k, 0));
        }
        for (int k : outside(1, 3)) {
            argument("35 free, size " + k, x -> x.free(1, k));
        }
        for (int k : NO_DEPOT) {
            index("37 cash, depot " + k, x -> x.cash(k));
            index("42 stock, depot " + k, x -> x.stock(k));
            index("43 stockByScans, depot " + k, x -> x.stockByScans(k));
        }
        int scans = Scenes.busy().scans();
        for (int k : outside(0, scans - 1)) {
            index("39 scan, scan " + k, x -> x.scan(k, 0));
            index("39 scan, scan first " + k, x -> x.scan(k, 4));
        }
        for (int k : outside(0, 3)) {
            argument("39 scan, part " + k, x -> x.scan(0, k));
        }
    }

    private static void asksOfParcels() {
        for (int k : outside(0, 13)) {
            index("27 where, parcel " + k, x -> x.where(k));
            index("28 at, parcel " + k, x -> x.at(k));
            index("29 part, parcel " + k, x -> x.part(k, 0));
            index("29 part, parcel first " + k, x -> x.part(k, 8));
            index("31 place, parcel " + k, x -> x.place(k));
            index("40 way, parcel " + k, x -> x.way(k, 0));
            index("41 wrong, parcel " + k, x -> x.wrong(k));
            index("44 foreseen, parcel " + k, x -> x.foreseen(k));
        }
        for (int k : outside(0, 7)) {
            argument("29 part, part " + k, x -> x.part(0, k));
        }
        index("40 way, place -1", x -> x.way(0, -1));
        index("40 way, place below all", x -> x.way(0, Integer.MIN_VALUE));
    }

    private static void full() {
        refused("5 lane, there are 12", Check.STATE, FULL, x -> x.lane(0, 1, 1, false));
        refused("5 lane, argument first", Check.ARGUMENT, FULL, x -> x.lane(0, 1, 25, false));
        refused("5 lane, index first", Check.INDEX, FULL, x -> x.lane(0, 5, 25, false));
        refused("6 timetable, the lane 12", Check.INDEX, FULL, x -> x.timetable(12, 1, 0, 1, 1, 0));
        refused("8 address, there are 20", Check.STATE, FULL, x -> x.address(0, 0));
        refused("8 address, argument first", Check.ARGUMENT, FULL, x -> x.address(0, 61));
        refused("8 address, index first", Check.INDEX, FULL, x -> x.address(5, 61));
        refused("9 away, the address 20", Check.INDEX, FULL, x -> x.away(20, 0, 24));
        refused("10 parcel, there are 40", Check.STATE, FULL, x -> x.parcel(0, 999, 0, 1, 1, false));
        refused("10 parcel, argument first", Check.ARGUMENT, FULL, x -> x.parcel(0, 999, 0, 1, 4, false));
        refused("10 parcel, index first", Check.INDEX, FULL, x -> x.parcel(0, 999, 0, 20, 4, false));
        refused("14 van, there are 6", Check.STATE, FULL, x -> x.van(0, 1, 0));
        refused("14 van, argument first", Check.ARGUMENT, FULL, x -> x.van(0, 1, 24));
        refused("14 van, index first", Check.INDEX, FULL, x -> x.van(5, 1, 24));
        refused("15 locker, there are 5", Check.STATE, FULL, x -> x.locker(0, 1, 1, 1));
        refused("15 locker, argument first", Check.ARGUMENT, FULL, x -> x.locker(0, 1, 1, 6));
        refused("15 locker, index first", Check.INDEX, FULL, x -> x.locker(5, 1, 1, 6));
        refused("21 lose, the parcel 40", Check.INDEX, FULL, x -> x.lose(40));
        refused("23 fetch, the locker 5", Check.INDEX, FULL, x -> x.fetch(5, 1000));
        refused("34 onVan, the van 6", Check.INDEX, FULL, x -> x.onVan(6));
    }
}
