import java.util.ArrayList;
import java.util.List;

/**
 * Long runs of calls, by a fixed row of numbers: the class and the Model must answer alike. What an object answers
 * behind its 512th call is free: when one has been called so often, a fresh one is told the run again and asked on.
 */
public final class ModelTest {
    private interface Call {
        Object run();
    }

    private static final int RUNS = 400;
    /** So many calls of a run change something, so that some are left of the 512 to ask. */
    private static final int CALLS = 400;
    private static final int MOST_CALLS = 512;
    private static final int CALLS_BETWEEN = 12;

    private long seed;
    private Ropewalk x;
    private Model m;
    private int used = 0;
    private int style;
    private final List<String> told = new ArrayList<>();
    private final List<Call> calls = new ArrayList<>();
    private static final int[] seen = new int[64];

    public static void main(String[] args) {
        int runs = args.length > 0 ? Integer.parseInt(args[0]) : RUNS;
        for (int i = 0; i < runs; i++) {
            if (!new ModelTest().run(i)) {
                System.exit(1);
            }
        }
        if (args.length > 1) {
            for (int i = 0; i < 9; i++) {
                System.out.println("parcels at the end in " + i + ": " + seen[i]);
            }
            for (int i = 0; i < 10; i++) {
                System.out.println("scans of " + i + ": " + seen[10 + i]);
            }
            System.out.println("claims " + seen[20] + ", owed " + seen[22] + ", full books " + seen[23]);
        }
    }

    private int next(int below) {
        seed = seed * 6364136223846793005L + 1442695040888963407L;
        return (int) ((seed >>> 33) % below);
    }

    private boolean maybe(int percent) {
        return next(100) < percent;
    }

    /** A number that is there, most of the time. */
    private int of(int size) {
        if (maybe(3)) {
            return maybe(50) ? -1 : size;
        }
        return size == 0 ? 0 : next(size);
    }

    /** In the runs of the style 0 most of what happens is between two depots. */
    private int depot() {
        return style == 0 && maybe(90) ? next(2) : of(5);
    }

    /** A number in the range, often at its ends, now and then outside. */
    private int in(int a, int b) {
        if (maybe(2)) {
            return maybe(50) ? a - 1 : b + 1;
        }
        if (maybe(15)) {
            return maybe(50) ? a : b;
        }
        return b < a ? a : a + next(b - a + 1);
    }

    /** A call that may change something: it is told again when the run fails. */
    private boolean same(String what, Call a, Call b) {
        Object got = called(a);
        Object want = ended(b, false);
        told.add(what + " = " + want);
        calls.add(a);
        return isSame("", got, want);
    }

    private boolean asked(String what, int n, int k, Call a, Call b) {
        Object got = called(a);
        Object want = ended(b, false);
        return got.equals(want) || isSame(what + "(" + n + ", " + k + ") = " + want, got, want);
    }

    private boolean isSame(String what, Object got, Object want) {
        if (got.equals(want)) {
            return true;
        }
        for (String line : told) {
            System.out.println(line);
        }
        System.out.println(what);
        System.out.println("the class answered " + got);
        return false;
    }

    private Object called(Call call) {
        if (used >= MOST_CALLS) {
            x = new Ropewalk();
            for (Call again : calls) {
                ended(again, false);
            }
            used = calls.size();
        }
        used++;
        return ended(call, true);
    }

    private static Object ended(Call call, boolean isChecked) {
        try {
            return call.run();
        } catch (RuntimeException e) {
            return isChecked && !Check.isThrownByClass(e) ? "thrown by the machine: " + e : e.getClass();
        }
    }

    private boolean run(int number) {
        seed = number * 7919L + 17;
        next(2);
        x = new Ropewalk();
        m = new Model();
        style = number % 4;
        boolean isFine = setUp();
        while (isFine && calls.size() < CALLS) {
            int before = calls.size();
            isFine = any() && (before % CALLS_BETWEEN > 0 || alike(before % (4 * CALLS_BETWEEN) == 0));
        }
        if (!isFine || !alike(true)) {
            System.out.println("in the run " + number);
            return false;
        }
        look();
        return true;
    }

    private void look() {
        for (Model.P p : m.parcels) {
            seen[p.where]++;
            seen[20] += p.paid > 0 ? 1 : 0;
            seen[22] += p.gonePaid && p.where == Ropewalk.HANDED ? 1 : 0;
        }
        for (int[] s : m.scans) {
            seen[10 + s[3]]++;
        }
        seen[23] += m.scans.size() == 400 ? 1 : 0;
    }

    private boolean setUp() {
        boolean isFine = true;
        for (int i = 0; isFine && i < 12; i++) {
            isFine = lane() && (i % 2 == 0 || timetable());
        }
        for (int i = 0; isFine && i < 60; i++) {
            isFine = plan();
        }
        for (int i = 0; isFine && i < 6; i++) {
            isFine = van() && locker() && sorts();
        }
        for (int i = 0; isFine && i < 12; i++) {
            isFine = address() && (maybe(50) || away());
        }
        for (int i = 0; isFine && i < 12; i++) {
            isFine = parcel() && (maybe(50) || worth()) && (maybe(50) || doubt());
        }
        return isFine && alike(true);
    }

    private boolean tell() {
        switch (next(7)) {
            case 0:
                return lane();
            case 1:
                return plan();
            case 2:
                return timetable();
            case 3:
                return address();
            case 4:
                return van();
            case 5:
                return locker();
            default:
                return maybe(50) ? sorts() : away();
        }
    }

    private boolean any() {
        // The runs of the style 3 stammer, so that their books are full at last.
        if (style == 3 && maybe(10)) {
            return fail();
        }
        int k = next(100);
        if (k < 30) {
            return hour();
        }
        if (k < 42) {
            return parcel();
        }
        if (k < 50) {
            return worth();
        }
        if (k < 54) {
            return promise();
        }
        if (k < 58) {
            return doubt();
        }
        if (k < 62) {
            return tell();
        }
        if (k < 64) {
            return maybe(50) ? hire() : fail();
        }
        if (k < 66) {
            return timetable();
        }
        if (k < 68) {
            return plan();
        }
        if (k < 70) {
            return away();
        }
        return event(k);
    }

    private boolean event(int k) {
        int n = of(m.parcels.size());
        boolean is = maybe(50);
        if (k < 73) {
            return same("resolve(" + n + ", " + is + ")", () -> x.resolve(n, is), () -> m.resolve(n, is));
        }
        if (k < 77) {
            return same("duty(" + n + ")", () -> x.duty(n), () -> m.duty(n));
        }
        if (k < 80) {
            int a = of(m.addresses.size());
            return same("forward(" + n + ", " + a + ")", () -> x.forward(n, a), () -> m.forward(n, a));
        }
        if (k < 83) {
            return same("giveBack(" + n + ")", () -> x.giveBack(n), () -> m.giveBack(n));
        }
        if (k < 86) {
            return same("lose(" + n + ")", () -> x.lose(n), () -> m.lose(n));
        }
        if (k < 90) {
            int d = depot();
            int lost = maybe(80) ? someLost(n) : n;
            return same("find(" + lost + ", " + d + ")", () -> x.find(lost, d), () -> m.find(lost, d));
        }
        if (k < 93) {
            return fetch();
        }
        if (k < 99) {
            int kind = in(0, 1);
            int p = maybe(50) ? someLost(n) : n;
            return same("claim(" + p + ", " + kind + ", " + is + ")", () -> x.claim(p, kind, is), () -> m.claim(p, kind, is));
        }
        int c = of(4);
        int o = of(4);
        return maybe(40) ? same("merge(" + c + ", " + o + ")", () -> x.merge(c, o), () -> m.merge(c, o)) : true;
    }

    private int someLost(int other) {
        for (Model.P p : m.parcels) {
            if (p.where == Ropewalk.LOST && maybe(50)) {
                return p.n;
            }
        }
        return other;
    }

    private boolean fetch() {
        int l = of(m.lockers.size());
        int code = 1000 + next(2000);
        for (Model.P p : m.parcels) {
            if (p.where == Ropewalk.LOCKER && maybe(50)) {
                code = p.code;
                l = maybe(90) ? p.at : l;
            }
        }
        int at = l;
        int by = code;
        return same("fetch(" + at + ", " + by + ")", () -> x.fetch(at, by), () -> m.fetch(at, by));
    }

    private boolean hour() {
        int h = maybe(style * 10) ? in(1, 24) : in(1, 4);
        return same("hour(" + h + ")", () -> x.hour(h), () -> m.hour(h));
    }

    private boolean sorts() {
        int d = depot();
        int k = maybe(50) ? in(0, 40) : in(0, 4);
        return same("sorts(" + d + ", " + k + ")", () -> x.sorts(d, k), () -> m.sorts(d, k));
    }

    private boolean hire() {
        int d = depot();
        int k = in(1, 20);
        int h = in(1, 48);
        return same("hire(" + d + ", " + k + ", " + h + ")", () -> x.hire(d, k, h), () -> m.hire(d, k, h));
    }

    private boolean fail() {
        int d = depot();
        int k = in(0, 20);
        boolean is = maybe(style == 3 ? 95 : 50);
        return same("fail(" + d + ", " + k + ", " + is + ")", () -> x.fail(d, k, is), () -> m.fail(d, k, is));
    }

    private boolean lane() {
        int a = depot();
        int b = style == 0 && maybe(90) ? 1 - a : maybe(80) ? (a + 1 + next(4)) % 5 : of(5);
        int h = maybe(60) ? in(1, 4) : in(1, 24);
        boolean is = maybe(30);
        return same("lane(" + a + ", " + b + ", " + h + ", " + is + ")", () -> x.lane(a, b, h, is), () -> m.lane(a, b, h, is));
    }

    private boolean timetable() {
        int l = of(m.lanes.size());
        int room = maybe(50) ? in(1, 3) : in(1, 20);
        int first = maybe(50) ? in(0, 10) : in(0, 100);
        int every = maybe(50) ? in(1, 6) : in(1, 48);
        int least = maybe(style * 30) ? in(1, 3) : in(1, 20);
        int patience = in(0, 24);
        return same("timetable(" + l + ", " + room + ", " + first + ", " + every + ", " + least + ", " + patience + ")",
            () -> x.timetable(l, room, first, every, least, patience), () -> m.timetable(l, room, first, every, least, patience));
    }

    private boolean plan() {
        int l = maybe(5) ? -1 : of(m.lanes.size());
        boolean isThere = l >= 0 && l < m.lanes.size();
        int d = isThere && maybe(95) ? m.lanes.get(l)[0] : of(5);
        int target = isThere && maybe(60) ? m.lanes.get(l)[1] : of(5);
        int half = in(0, 1);
        return same("plan(" + d + ", " + target + ", " + half + ", " + l + ")", () -> x.plan(d, target, half, l), () -> m.plan(d, target, half, l));
    }

    private boolean address() {
        int d = depot();
        int spot = maybe(40) ? in(0, 10) : in(0, 60);
        return same("address(" + d + ", " + spot + ")", () -> x.address(d, spot), () -> m.address(d, spot));
    }

    private boolean away() {
        int a = of(m.addresses.size());
        boolean isLong = maybe(40);
        int from = isLong ? in(0, 3) : in(0, 24);
        int to = in(isLong ? 20 : from, 24);
        return same("away(" + a + ", " + from + ", " + to + ")", () -> x.away(a, from, to), () -> m.away(a, from, to));
    }

    private boolean parcel() {
        int c = of(4);
        int ref = maybe(60) ? in(0, 3) : in(990, 999);
        int s = of(m.addresses.size());
        int r = of(m.addresses.size());
        int size = in(1, 3);
        boolean is = maybe(30);
        return same("parcel(" + c + ", " + ref + ", " + s + ", " + r + ", " + size + ", " + is + ")",
            () -> x.parcel(c, ref, s, r, size, is), () -> m.parcel(c, ref, s, r, size, is));
    }

    private int fresh() {
        int n = of(m.parcels.size());
        return maybe(60) && !m.parcels.isEmpty() ? m.parcels.size() - 1 : n;
    }

    private boolean worth() {
        int n = fresh();
        int value = maybe(30) ? 0 : in(0, 1000);
        int cash = maybe(50) ? 0 : in(0, 500);
        return same("worth(" + n + ", " + value + ", " + cash + ")", () -> x.worth(n, value, cash), () -> m.worth(n, value, cash));
    }

    private boolean promise() {
        int n = fresh();
        int from = in(0, 23);
        int to = in(from + 1, 24);
        int h = in(1, 200);
        return same("promise(" + n + ", " + from + ", " + to + ", " + h + ")", () -> x.promise(n, from, to, h), () -> m.promise(n, from, to, h));
    }

    private boolean doubt() {
        int n = fresh();
        int a = of(m.addresses.size());
        return same("doubt(" + n + ", " + a + ")", () -> x.doubt(n, a), () -> m.doubt(n, a));
    }

    private boolean van() {
        int d = depot();
        int room = in(1, 30);
        int start = in(0, 23);
        return same("van(" + d + ", " + room + ", " + start + ")", () -> x.van(d, room, start), () -> m.van(d, room, start));
    }

    private boolean locker() {
        int d = depot();
        int a = in(0, 2);
        int b = in(0, 2);
        int c = in(0, 5);
        return same("locker(" + d + ", " + a + ", " + b + ", " + c + ")", () -> x.locker(d, a, b, c), () -> m.locker(d, a, b, c));
    }

    /** All that can be asked; what is not there is asked for now and then. */
    private boolean alike(boolean isWide) {
        int over = isWide ? 1 : 0;
        boolean isFine = bookAlike(over);
        for (int i = -over; isFine && i < m.parcels.size() + over; i++) {
            isFine = parcelAlike(i, over);
        }
        for (int i = -over; isFine && i < 5 + over; i++) {
            isFine = depotAlike(i);
        }
        for (int i = -over; isFine && i < m.lanes.size() + over; i++) {
            int n = i;
            isFine = asked("waits", n, 0, () -> x.waits(n), () -> m.waits(n)) && asked("onLane", n, 0, () -> x.onLane(n), () -> m.onLane(n));
        }
        for (int i = -over; isFine && i < m.vans.size() + over; i++) {
            int n = i;
            isFine = asked("onVan", n, 0, () -> x.onVan(n), () -> m.onVan(n));
        }
        for (int i = -over; isFine && i < 5 * (m.lockers.size() + over); i++) {
            int n = i / 5;
            int size = isWide ? i % 5 : 1 + i % 3;
            isFine = asked("free", n, size, () -> x.free(n, size), () -> m.free(n, size));
        }
        for (int i = -over; isFine && i < 9 + over; i++) {
            int n = i;
            isFine = asked("count", n, 0, () -> x.count(n), () -> m.count(n));
        }
        return isFine;
    }

    private boolean depotAlike(int n) {
        return asked("cash", n, 0, () -> x.cash(n), () -> m.cash(n)) && asked("stock", n, 0, () -> x.stock(n), () -> m.stock(n))
            && asked("stockByScans", n, 0, () -> x.stockByScans(n), () -> m.stockByScans(n))
            && (n == 4 || asked("account", n, 0, () -> x.account(n), () -> m.account(n)));
    }

    private boolean parcelAlike(int n, int over) {
        boolean isFine = true;
        for (int i = -over; isFine && i < 8 + over; i++) {
            int k = i;
            isFine = asked("part", n, k, () -> x.part(n, k), () -> m.part(n, k)) && asked("way", n, k, () -> x.way(n, k), () -> m.way(n, k));
        }
        return isFine && asked("where", n, 0, () -> x.where(n), () -> m.where(n)) && asked("at", n, 0, () -> x.at(n), () -> m.at(n))
            && asked("place", n, 0, () -> x.place(n), () -> m.place(n)) && asked("wrong", n, 0, () -> x.wrong(n), () -> m.wrong(n))
            && asked("foreseen", n, 0, () -> x.foreseen(n), () -> m.foreseen(n));
    }

    private boolean bookAlike(int over) {
        boolean isFine = asked("scans", 0, 0, () -> x.scans(), () -> m.scans()) && asked("clock", 0, 0, () -> x.clock(), () -> m.clock());
        for (int i = Math.max(0, m.scans.size() - 20); isFine && i < m.scans.size() + over; i++) {
            for (int k = -over; isFine && k < 4 + over; k++) {
                int s = i;
                int part = k;
                isFine = asked("scan", s, part, () -> x.scan(s, part), () -> m.scan(s, part));
            }
        }
        return isFine;
    }
}
