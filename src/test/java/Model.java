import java.util.ArrayList;
import java.util.Comparator;
import java.util.List;
import java.util.TreeMap;

/** The document told a second time, slowly: no lines are kept, each order is found anew by stamps. */
final class Model {
    static final class P {
        int n, customer, ref, sender, receiver, size, value, cash, from, to = 24, promised, told;
        int doubt = -1, failures, paid, where, at, since, code, compartment, cashAt = -1;
        boolean express, back, touched, dutyPaid, gonePaid, byCustoms;
        long stamp;
    }

    static final class Trailer {
        int lane, comes;
        List<P> load = new ArrayList<>();
    }

    static final class V {
        int depot, room, start, begun, next;
        List<P> round = new ArrayList<>();
        List<Integer> hours = new ArrayList<>();
    }

    int clock;
    long stamps;
    final int[] many = {10, 10, 10, 10, 10};
    final int[] more = new int[5];
    final int[] hired = new int[5];
    final int[][] faults = new int[2][5];
    final int[] accounts = new int[4];
    final TreeMap<String, Integer> plans = new TreeMap<>();
    final List<int[]> lanes = new ArrayList<>();
    final List<int[]> tables = new ArrayList<>();
    final List<Integer> waiting = new ArrayList<>();
    final List<Trailer> trailers = new ArrayList<>();
    final List<int[]> addresses = new ArrayList<>();
    final List<P> parcels = new ArrayList<>();
    final List<V> vans = new ArrayList<>();
    final List<int[]> lockers = new ArrayList<>();
    final List<int[]> scans = new ArrayList<>();

    private static void index(boolean... fine) {
        for (boolean is : fine) {
            if (!is) {
                throw new IndexOutOfBoundsException();
            }
        }
    }

    private static void argument(boolean... fine) {
        for (boolean is : fine) {
            if (!is) {
                throw new IllegalArgumentException();
            }
        }
    }

    private static void state(boolean fine) {
        if (!fine) {
            throw new IllegalStateException();
        }
    }

    private static boolean in(int x, int a, int b) {
        return a <= x && x <= b;
    }

    private static boolean of(int x, List<?> list) {
        return in(x, 0, list.size() - 1);
    }

    int sorts(int d, int k) {
        index(in(d, 0, 4));
        argument(in(k, 0, 40));
        int old = many[d];
        many[d] = k;
        return old;
    }

    int hire(int d, int k, int h) {
        index(in(d, 0, 4));
        argument(in(k, 1, 20), in(h, 1, 48));
        int old = hired[d];
        more[d] = k;
        hired[d] = h;
        return old;
    }

    int fail(int d, int k, boolean stammer) {
        index(in(d, 0, 4));
        argument(in(k, 0, 20));
        int old = faults[stammer ? 1 : 0][d];
        faults[stammer ? 1 : 0][d] = k;
        return old;
    }

    int lane(int a, int b, int h, boolean crosses) {
        index(in(a, 0, 4), in(b, 0, 4));
        argument(a != b, in(h, 1, 24));
        state(lanes.size() < 12);
        lanes.add(new int[] {a, b, h, crosses ? 1 : 0});
        tables.add(new int[] {10, 0, 1, 1, 1});
        waiting.add(-1);
        return lanes.size() - 1;
    }

    int timetable(int l, int room, int first, int every, int least, int patience) {
        index(of(l, lanes));
        argument(in(room, 1, 20), in(first, 0, 100), in(every, 1, 48), in(least, 1, 20), in(patience, 0, 24));
        int[] old = tables.set(l, new int[] {room, first, every, least, patience});
        return 100 * old[0] + old[2];
    }

    private Integer planned(int d, int target, int half) {
        return plans.getOrDefault(d + " " + target + " " + half, -1);
    }

    int plan(int d, int target, int half, int l) {
        index(in(d, 0, 4), in(target, 0, 4), l == -1 || of(l, lanes));
        argument(d != target, in(half, 0, 1), l == -1 || lanes.get(l)[0] == d);
        int old = planned(d, target, half);
        plans.put(d + " " + target + " " + half, l);
        return old;
    }

    int address(int d, int spot) {
        index(in(d, 0, 4));
        argument(in(spot, 0, 60));
        state(addresses.size() < 20);
        addresses.add(new int[] {d, spot, 0, 0});
        return addresses.size() - 1;
    }

    int away(int a, int from, int to) {
        index(of(a, addresses));
        argument(in(from, 0, 24), in(to, from, 24));
        addresses.get(a)[2] = from;
        addresses.get(a)[3] = to;
        int home = 0;
        for (int h = 0; h < 24; h++) {
            home += h >= from && h < to ? 0 : 1;
        }
        return home;
    }

    private boolean has(int customer, int ref) {
        return parcels.stream().anyMatch(p -> p.customer == customer && p.ref == ref);
    }

    int parcel(int c, int ref, int s, int r, int size, boolean express) {
        index(in(c, 0, 3), of(s, addresses), of(r, addresses));
        argument(in(ref, 0, 999), in(size, 1, 3));
        state(parcels.size() < 40 && !has(c, ref));
        P p = new P();
        p.n = parcels.size();
        p.customer = c;
        p.ref = ref;
        p.sender = s;
        p.receiver = r;
        p.size = size;
        p.express = express;
        p.told = clock;
        p.promised = clock + 100;
        parcels.add(p);
        go(p, Ropewalk.UNSORTED, addresses.get(s)[0]);
        scanned(p, p.at, Ropewalk.TAKEN);
        return p.n;
    }

    private int dutyOf(P p) {
        return p.value % 10 == 0 ? p.value / 10 : p.value / 10 + 1;
    }

    int worth(int n, int value, int cash) {
        index(of(n, parcels));
        argument(in(value, 0, 1000), in(cash, 0, 500));
        P p = parcels.get(n);
        state(!p.touched);
        p.value = value;
        p.cash = cash;
        return dutyOf(p);
    }

    int promise(int n, int from, int to, int hours) {
        index(of(n, parcels));
        argument(in(from, 0, 23), to > from, to <= 24, in(hours, 1, 200));
        P p = parcels.get(n);
        state(!p.touched);
        p.from = from;
        p.to = to;
        p.promised = clock + hours;
        return p.promised;
    }

    boolean doubt(int n, int a) {
        index(of(n, parcels), of(a, addresses));
        P p = parcels.get(n);
        argument(a != p.receiver);
        state(!p.touched);
        boolean none = p.doubt < 0;
        p.doubt = a;
        return none;
    }

    int van(int d, int room, int start) {
        index(in(d, 0, 4));
        argument(in(room, 1, 30), in(start, 0, 23));
        state(vans.size() < 6);
        V v = new V();
        v.depot = d;
        v.room = room;
        v.start = start;
        vans.add(v);
        return vans.size() - 1;
    }

    int locker(int d, int a, int b, int c) {
        index(in(d, 0, 4));
        argument(in(a, 0, 5), in(b, 0, 5), in(c, 0, 5));
        state(lockers.size() < 5);
        lockers.add(new int[] {d, a, b, c});
        return lockers.size() - 1;
    }

    // ---- places, scans

    private void go(P p, int where, int at) {
        for (Trailer t : trailers) {
            t.load.remove(p);
        }
        p.where = where;
        p.at = at;
        p.since = clock;
        p.code = 0;
        p.compartment = 0;
        p.byCustoms = false;
        p.stamp = ++stamps;
    }

    private void scanned(P p, int d, int kind) {
        if (faults[0][d] > 0) {
            faults[0][d]--;
        } else if (scans.size() < 400) {
            int times = faults[1][d] > 0 ? 2 : 1;
            faults[1][d] -= times - 1;
            for (int i = 0; i < times && scans.size() < 400; i++) {
                scans.add(new int[] {p.n, d, clock, kind});
            }
        }
    }

    private List<P> line(int where, int at) {
        List<P> all = new ArrayList<>();
        for (P p : parcels) {
            if (p.where == where && p.at == at) {
                all.add(p);
            }
        }
        all.sort(Comparator.comparingLong(p -> p.stamp));
        return all;
    }

    private List<P> expressFirst(List<P> line) {
        List<P> all = new ArrayList<>(line);
        all.sort(Comparator.comparingInt(p -> p.express ? 0 : 1));
        return all;
    }

    private int[] goal(P p) {
        return addresses.get(p.back ? p.sender : p.receiver);
    }

    private void becomeReturn(P p) {
        p.back = true;
        p.doubt = -1;
        p.failures = 0;
    }

    private void hand(P p) {
        go(p, Ropewalk.HANDED, -1);
        if (p.gonePaid) {
            accounts[p.customer] -= p.paid;
        }
    }

    // ---- an hour

    int hour(int hours) {
        argument(in(hours, 1, 24));
        state(clock + hours <= 600);
        int before = count(Ropewalk.HANDED);
        for (int i = 0; i < hours; i++) {
            clock++;
            step1();
            step2();
            step3();
            step4();
            step5();
            if (clock % 24 == 0) {
                step6();
            }
            for (int d = 0; d < 5; d++) {
                hired[d] = Math.max(0, hired[d] - 1);
            }
        }
        return count(Ropewalk.HANDED) - before;
    }

    private void step1() {
        for (int l = 0; l < lanes.size(); l++) {
            for (Trailer t : new ArrayList<>(trailers)) {
                if (t.lane != l || t.comes != clock) {
                    continue;
                }
                trailers.remove(t);
                for (P p : t.load) {
                    int d = lanes.get(l)[1];
                    boolean held = lanes.get(l)[3] == 1 && p.value > 0 && !p.dutyPaid;
                    go(p, held ? Ropewalk.HELD : Ropewalk.UNSORTED, d);
                    p.byCustoms = held;
                    scanned(p, d, Ropewalk.CAME);
                }
            }
        }
    }

    private void step2() {
        for (P p : parcels) {
            if (p.where == Ropewalk.LOCKER && clock >= p.since + 48) {
                int d = lockers.get(p.at)[0];
                scanned(p, d, Ropewalk.BACK);
                becomeReturn(p);
                go(p, Ropewalk.UNSORTED, d);
            }
        }
    }

    private void step3() {
        for (int d = 0; d < 5; d++) {
            int can = many[d] + (hired[d] > 0 ? more[d] : 0);
            for (P p : expressFirst(line(Ropewalk.UNSORTED, d))) {
                if (can-- <= 0) {
                    break;
                }
                p.touched = true;
                int target = goal(p)[0];
                if (target == d) {
                    go(p, p.doubt < 0 ? Ropewalk.READY : Ropewalk.HELD, d);
                } else {
                    int l = planned(d, target, clock % 24 / 12);
                    if (l < 0 || line(Ropewalk.ROW, l).size() == 20) {
                        go(p, Ropewalk.UNSORTED, d);
                        continue;
                    }
                    go(p, Ropewalk.ROW, l);
                }
                scanned(p, d, Ropewalk.SORTED);
            }
        }
    }

    private boolean due(int l, int hour) {
        for (int h = tables.get(l)[1]; h <= hour; h += tables.get(l)[2]) {
            if (h == hour) {
                return true;
            }
        }
        return false;
    }

    private void step4() {
        for (int l = 0; l < lanes.size(); l++) {
            int[] table = tables.get(l);
            if (due(l, clock) && waiting.get(l) < 0) {
                waiting.set(l, clock);
            }
            if (waiting.get(l) < 0) {
                continue;
            }
            List<P> row = line(Ropewalk.ROW, l);
            boolean tired = clock - waiting.get(l) >= table[4];
            if (row.size() >= table[3] || tired && !row.isEmpty()) {
                Trailer t = new Trailer();
                t.lane = l;
                t.comes = clock + lanes.get(l)[2];
                for (P p : expressFirst(row)) {
                    if (t.load.size() < table[0]) {
                        go(p, Ropewalk.LANE, l);
                        t.load.add(p);
                        scanned(p, lanes.get(l)[0], Ropewalk.LEFT);
                    }
                }
                trailers.add(t);
                waiting.set(l, -1);
            } else if (tired) {
                waiting.set(l, -1);
            }
        }
    }

    private void step5() {
        for (int n = 0; n < vans.size(); n++) {
            V v = vans.get(n);
            stops(v);
            if (v.round.isEmpty() && clock % 24 == v.start) {
                begin(v, n);
                stops(v);
            }
        }
    }

    private void begin(V v, int n) {
        List<P> ready = line(Ropewalk.READY, v.depot);
        ready.sort(Comparator.comparingInt((P p) -> p.express ? 0 : 1).thenComparingInt(p -> p.to).thenComparingInt(p -> p.n));
        int room = v.room;
        int minute = v.start * 60;
        int spot = 0;
        v.begun = clock;
        v.next = 0;
        v.hours.clear();
        for (P p : ready) {
            if (p.size > room) {
                continue;
            }
            room -= p.size;
            go(p, Ropewalk.VAN, n);
            scanned(p, v.depot, Ropewalk.OUT);
            v.round.add(p);
            int there = goal(p)[1];
            minute += there > spot ? 2 * (there - spot) : 2 * (spot - there);
            if (minute < p.from * 60) {
                minute = p.from * 60;
            }
            v.hours.add(minute / 60);
            minute += 5;
            spot = there;
        }
    }

    private void stops(V v) {
        if (v.round.isEmpty()) {
            return;
        }
        while (v.next < v.round.size() && v.begun + v.hours.get(v.next) - v.start <= clock) {
            P p = v.round.get(v.next);
            int hour = v.hours.get(v.next++);
            int[] goal = goal(p);
            boolean nobody = hour % 24 >= goal[2] && hour % 24 < goal[3];
            if (hour >= p.to || nobody) {
                p.failures++;
                scanned(p, v.depot, Ropewalk.FAILED);
            } else {
                hand(p);
                scanned(p, v.depot, Ropewalk.GIVEN);
            }
        }
        if (v.next == v.round.size()) {
            for (P p : v.round) {
                if (p.where == Ropewalk.HANDED) {
                    p.cashAt = p.back ? -1 : v.depot;
                }
            }
            for (P p : v.round) {
                if (p.where == Ropewalk.VAN) {
                    back(p, v.depot);
                }
            }
            v.round.clear();
        }
    }

    private void back(P p, int d) {
        if (p.failures >= 2 && !p.back && p.cash == 0) {
            for (int l = 0; l < lockers.size(); l++) {
                for (int size = p.size; size <= 3; size++) {
                    if (lockers.get(l)[0] == d && free(l, size) > 0) {
                        go(p, Ropewalk.LOCKER, l);
                        p.compartment = size;
                        p.code = 1000 + (37 * p.n + 101 * l + clock) % 9000;
                        scanned(p, d, Ropewalk.STORED);
                        return;
                    }
                }
            }
        }
        if (p.failures >= 3 && p.back) {
            go(p, Ropewalk.LOST, -1);
            return;
        }
        if (p.failures >= 3) {
            becomeReturn(p);
            go(p, Ropewalk.UNSORTED, d);
        } else {
            go(p, Ropewalk.READY, d);
        }
        scanned(p, d, Ropewalk.BACK);
    }

    private void step6() {
        for (P p : parcels) {
            if (p.cashAt >= 0) {
                accounts[p.customer] += p.cash;
                p.cashAt = -1;
            }
        }
    }

    // ---- what happens

    int resolve(int n, boolean other) {
        index(of(n, parcels));
        P p = parcels.get(n);
        state(p.doubt >= 0 && p.where < Ropewalk.HANDED);
        p.receiver = other ? p.doubt : p.receiver;
        p.doubt = -1;
        if (p.where == Ropewalk.HELD && !p.byCustoms) {
            go(p, Ropewalk.UNSORTED, p.at);
        }
        return goal(p)[0];
    }

    int duty(int n) {
        index(of(n, parcels));
        P p = parcels.get(n);
        state(!p.dutyPaid && p.value > 0 && p.where < Ropewalk.HANDED);
        p.dutyPaid = true;
        accounts[p.customer] -= dutyOf(p);
        if (p.byCustoms) {
            go(p, Ropewalk.UNSORTED, p.at);
        }
        return dutyOf(p);
    }

    private void again(P p) {
        p.doubt = -1;
        p.failures = 0;
        if (p.where == Ropewalk.ROW) {
            go(p, Ropewalk.UNSORTED, lanes.get(p.at)[0]);
        } else if (p.where == Ropewalk.READY || p.where == Ropewalk.HELD && !p.byCustoms) {
            go(p, Ropewalk.UNSORTED, p.at);
        }
    }

    private static boolean free(P p) {
        return p.where <= Ropewalk.READY || p.where == Ropewalk.HELD;
    }

    int forward(int n, int a) {
        index(of(n, parcels), of(a, addresses));
        P p = parcels.get(n);
        state(free(p));
        p.receiver = a;
        p.back = false;
        again(p);
        return goal(p)[0];
    }

    int giveBack(int n) {
        index(of(n, parcels));
        P p = parcels.get(n);
        state(free(p) && !p.back);
        p.back = true;
        again(p);
        return goal(p)[0];
    }

    int lose(int n) {
        index(of(n, parcels));
        P p = parcels.get(n);
        state(p.where != Ropewalk.VAN && p.where < Ropewalk.HANDED);
        int old = p.where;
        go(p, Ropewalk.LOST, -1);
        return old;
    }

    int find(int n, int d) {
        index(of(n, parcels), in(d, 0, 4));
        P p = parcels.get(n);
        state(p.where == Ropewalk.LOST);
        int hours = clock - p.since;
        go(p, Ropewalk.UNSORTED, d);
        scanned(p, d, Ropewalk.BACK);
        return hours;
    }

    int fetch(int l, int code) {
        index(of(l, lockers));
        for (P p : parcels) {
            if (p.where == Ropewalk.LOCKER && p.at == l && p.code == code) {
                hand(p);
                scanned(p, lockers.get(l)[0], Ropewalk.FETCHED);
                return p.n;
            }
        }
        throw new IllegalStateException();
    }

    private int[] last(P p) {
        for (int i = scans.size() - 1; i >= 0; i--) {
            if (scans.get(i)[0] == p.n) {
                return scans.get(i);
            }
        }
        return null;
    }

    int claim(int n, int kind, boolean proof) {
        index(of(n, parcels));
        argument(in(kind, 0, 1));
        P p = parcels.get(n);
        int worth;
        boolean right;
        if (kind == Ropewalk.GONE) {
            int heard = last(p) == null ? p.told : Math.max(p.told, last(p)[2]);
            right = p.where == Ropewalk.LOST || p.where != Ropewalk.HANDED && heard + 72 <= clock;
            worth = Math.min(500, p.value) / (proof ? 1 : 2);
        } else {
            int over = (p.where == Ropewalk.HANDED ? p.since : clock) - p.promised;
            right = !p.back && over > 0;
            worth = over > 25 ? 50 : 2 * over;
        }
        state(right && worth != 0 && p.paid == 0);
        p.paid = worth;
        p.gonePaid = kind == Ropewalk.GONE;
        accounts[p.customer] += worth;
        return worth;
    }

    int merge(int c, int o) {
        index(in(c, 0, 3), in(o, 0, 3));
        argument(c != o);
        int others = 0;
        for (P p : parcels) {
            if (p.customer == c) {
                boolean changes = has(o, p.ref);
                while (has(o, p.ref)) {
                    p.ref = p.ref == 999 ? 0 : p.ref + 1;
                }
                p.customer = o;
                others += changes ? 1 : 0;
            }
        }
        accounts[o] += accounts[c];
        accounts[c] = 0;
        return others;
    }

    // ---- what is asked

    int clock() {
        return clock;
    }

    int where(int n) {
        index(of(n, parcels));
        return parcels.get(n).where;
    }

    int at(int n) {
        index(of(n, parcels));
        return parcels.get(n).at;
    }

    int part(int n, int part) {
        index(of(n, parcels));
        argument(in(part, 0, 7));
        P p = parcels.get(n);
        return new int[] {p.ref, p.customer, p.failures, p.back ? 1 : 0, p.promised, p.paid, p.code, goal(p)[0]}[part];
    }

    int count(int where) {
        argument(in(where, 0, 8));
        return (int) parcels.stream().filter(p -> p.where == where).count();
    }

    int place(int n) {
        index(of(n, parcels));
        P p = parcels.get(n);
        return p.where > Ropewalk.ROW ? -1 : line(p.where, p.at).indexOf(p);
    }

    int waits(int l) {
        index(of(l, lanes));
        return waiting.get(l) < 0 ? -1 : clock - waiting.get(l);
    }

    int onLane(int l) {
        index(of(l, lanes));
        return line(Ropewalk.LANE, l).size();
    }

    int onVan(int v) {
        index(of(v, vans));
        return line(Ropewalk.VAN, v).size();
    }

    int free(int l, int size) {
        index(of(l, lockers));
        argument(in(size, 1, 3));
        int taken = (int) line(Ropewalk.LOCKER, l).stream().filter(p -> p.compartment == size).count();
        return lockers.get(l)[size] - taken;
    }

    int account(int c) {
        index(in(c, 0, 3));
        return accounts[c];
    }

    int cash(int d) {
        index(in(d, 0, 4));
        return parcels.stream().filter(p -> p.cashAt == d).mapToInt(p -> p.cash).sum();
    }

    int scans() {
        return scans.size();
    }

    int scan(int s, int part) {
        index(of(s, scans));
        argument(in(part, 0, 3));
        return scans.get(s)[part];
    }

    /** Of each depot of the way: the depot, the clock of the first scan there and of the last one. */
    private List<int[]> steps(int n) {
        List<int[]> steps = new ArrayList<>();
        for (int[] s : scans) {
            if (s[0] == n) {
                int[] last = steps.isEmpty() ? null : steps.get(steps.size() - 1);
                if (last == null || last[0] != s[1]) {
                    steps.add(new int[] {s[1], s[2], s[2]});
                } else {
                    last[2] = s[2];
                }
            }
        }
        return steps;
    }

    int way(int n, int place) {
        index(of(n, parcels), place >= 0);
        List<int[]> steps = steps(n);
        return place < steps.size() ? steps.get(place)[0] : -1;
    }

    int wrong(int n) {
        index(of(n, parcels));
        List<int[]> steps = steps(n);
        for (int i = 0; i + 1 < steps.size(); i++) {
            int[] a = steps.get(i);
            int[] b = steps.get(i + 1);
            if (lanes.stream().noneMatch(l -> l[0] == a[0] && l[1] == b[0] && b[1] - a[2] >= l[2])) {
                return i;
            }
        }
        return -1;
    }

    int stock(int d) {
        index(in(d, 0, 4));
        int sum = line(Ropewalk.UNSORTED, d).size() + line(Ropewalk.READY, d).size() + line(Ropewalk.HELD, d).size();
        for (int l = 0; l < lanes.size(); l++) {
            sum += lanes.get(l)[0] == d ? line(Ropewalk.ROW, l).size() : 0;
        }
        for (int l = 0; l < lockers.size(); l++) {
            sum += lockers.get(l)[0] == d ? line(Ropewalk.LOCKER, l).size() : 0;
        }
        return sum;
    }

    int stockByScans(int d) {
        index(in(d, 0, 4));
        int sum = 0;
        for (P p : parcels) {
            int[] s = last(p);
            boolean there = s != null && s[1] == d;
            sum += there && List.of(Ropewalk.TAKEN, Ropewalk.SORTED, Ropewalk.CAME, Ropewalk.STORED, Ropewalk.BACK).contains(s[3]) ? 1 : 0;
        }
        return sum;
    }

    /** Goes on hour by hour: where it is by then is told by lane, which is -1 while it is at a depot. */
    int foreseen(int n) {
        index(of(n, parcels));
        P p = parcels.get(n);
        if (p.where > Ropewalk.READY) {
            return -1;
        }
        int target = goal(p)[0];
        int depot = p.where == Ropewalk.UNSORTED || p.where == Ropewalk.READY ? p.at : -1;
        int row = p.where == Ropewalk.ROW ? p.at : -1;
        int lane = p.where == Ropewalk.LANE ? p.at : -1;
        int comes = lane < 0 ? -1 : p.since + lanes.get(lane)[2];
        int left = row < 0 ? 0 : 1;
        boolean ready = p.where == Ropewalk.READY;
        if (vans.stream().noneMatch(v -> v.depot == target)) {
            return -1;
        }
        for (int hour = clock + 1; hour < 2000; hour++) {
            if (lane >= 0 && comes == hour) {
                if (lanes.get(lane)[3] == 1 && p.value > 0 && !p.dutyPaid) {
                    return -1;
                }
                depot = lanes.get(lane)[1];
                lane = -1;
            }
            if (depot >= 0 && !ready) {
                if (depot == target && p.doubt >= 0) {
                    return -1;
                } else if (depot == target) {
                    ready = true;
                } else {
                    row = planned(depot, target, hour % 24 < 12 ? 0 : 1);
                    depot = -1;
                    if (row < 0 || ++left > 10) {
                        return -1;
                    }
                }
            }
            if (row >= 0 && due(row, hour)) {
                lane = row;
                comes = hour + lanes.get(lane)[2];
                row = -1;
            }
            for (V v : vans) {
                if (ready && v.depot == depot && v.start == hour % 24) {
                    return hour;
                }
            }
        }
        return -1;
    }
}
