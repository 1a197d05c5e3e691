import java.util.ArrayList;

/** A net for parcels, kept by the hour: the promises are numbered in DOC.md. */
public final class Ropewalk {
    public static final int NONE = -1;
    public static final int UNSORTED = 0, ROW = 1, LANE = 2, READY = 3, VAN = 4, LOCKER = 5, HELD = 6, HANDED = 7, LOST = 8;
    public static final int TAKEN = 0, SORTED = 1, LEFT = 2, CAME = 3, OUT = 4, GIVEN = 5, FAILED = 6, STORED = 7, FETCHED = 8, BACK = 9;
    public static final int GONE = 0, LATE = 1;

    private static final int DEPOTS = 5;
    private static final int CUSTOMERS = 4;
    private static final int MOST_LANES = 12;
    private static final int MOST_ADDRESSES = 20;
    private static final int MOST_PARCELS = 40;
    private static final int MOST_VANS = 6;
    private static final int MOST_LOCKERS = 5;
    private static final int MOST_SCANS = 400;
    private static final int MOST_IN_ROW = 20;
    private static final int MOST_LANES_FORESEEN = 10;
    private static final int REFERENCES = 1000;
    private static final int DAY = 24;
    private static final int LAST_CLOCK = 600;
    private static final int HOURS_IN_LOCKER = 48;
    private static final int HOURS_OF_SILENCE = 72;

    private final Depot[] depots = new Depot[DEPOTS];
    private final Customer[] customers = new Customer[CUSTOMERS];
    private final ArrayList<Lane> lanes = new ArrayList<Lane>();
    private final ArrayList<Address> addresses = new ArrayList<Address>();
    private final ArrayList<Parcel> parcels = new ArrayList<Parcel>();
    private final ArrayList<Van> vans = new ArrayList<Van>();
    private final ArrayList<Locker> lockers = new ArrayList<Locker>();
    private final ArrayList<Scan> book = new ArrayList<Scan>();
    // Made once and used again, so that an hour makes no lists.
    private final ArrayList<Parcel> picked = new ArrayList<Parcel>();
    private int clock = 0;

    public Ropewalk() {
        for (int i = 0; i < depots.length; i++) {
            depots[i] = new Depot(i);
        }
        for (int i = 0; i < customers.length; i++) {
            customers[i] = new Customer(i);
        }
    }

    // ---- depots, lanes, plans

    public int sorts(int depot, int many) throws IndexOutOfBoundsException, IllegalArgumentException {
        Depot here = depotOf(depot);
        checkArgument(isWithin(many, 0, 40));
        int before = here.many;
        here.many = many;
        return before;
    }

    public int hire(int depot, int more, int hours) throws IndexOutOfBoundsException, IllegalArgumentException {
        Depot here = depotOf(depot);
        checkArgument(isWithin(more, 1, 20) && isWithin(hours, 1, 48));
        int still = Math.max(0, here.hiredUntil - clock);
        here.more = more;
        here.hiredUntil = clock + hours;
        return still;
    }

    public int fail(int depot, int scans, boolean isStammer) throws IndexOutOfBoundsException, IllegalArgumentException {
        Depot here = depotOf(depot);
        checkArgument(isWithin(scans, 0, 20));
        int before = isStammer ? here.stammers : here.blind;
        if (isStammer) {
            here.stammers = scans;
        } else {
            here.blind = scans;
        }
        return before;
    }

    public int lane(int from, int to, int hours, boolean crosses) throws IndexOutOfBoundsException, IllegalArgumentException, IllegalStateException {
        Depot start = depotOf(from);
        Depot end = depotOf(to);
        checkArgument(from != to && isWithin(hours, 1, 24));
        checkState(lanes.size() < MOST_LANES);
        Lane lane = new Lane(lanes.size(), start, end, hours, crosses);
        lanes.add(lane);
        return lane.number;
    }

    public int timetable(int lane, int room, int first, int every, int least, int patience) throws IndexOutOfBoundsException, IllegalArgumentException {
        Lane it = laneOf(lane);
        checkArgument(isWithin(room, 1, 20) && isWithin(first, 0, 100) && isWithin(every, 1, 48));
        checkArgument(isWithin(least, 1, 20) && isWithin(patience, 0, 24));
        int before = 100 * it.room + it.every;
        it.room = room;
        it.first = first;
        it.every = every;
        it.least = least;
        it.patience = patience;
        return before;
    }

    public int plan(int depot, int target, int half, int lane) throws IndexOutOfBoundsException, IllegalArgumentException {
        Depot here = depotOf(depot);
        Depot there = depotOf(target);
        Lane next = lane == NONE ? null : laneOf(lane);
        checkArgument(here != there && isWithin(half, 0, 1));
        checkArgument(next == null || next.from == here);
        Lane before = here.laneTowards(there, half);
        here.setLaneTowards(there, half, next);
        return before == null ? NONE : before.number;
    }

    // ---- addresses, parcels

    public int address(int depot, int spot) throws IndexOutOfBoundsException, IllegalArgumentException, IllegalStateException {
        Depot here = depotOf(depot);
        checkArgument(isWithin(spot, 0, 60));
        checkState(addresses.size() < MOST_ADDRESSES);
        addresses.add(new Address(here, spot));
        return addresses.size() - 1;
    }

    public int away(int address, int from, int to) throws IndexOutOfBoundsException, IllegalArgumentException {
        Address it = addressOf(address);
        checkArgument(isWithin(from, 0, DAY) && isWithin(to, from, DAY));
        it.awayFrom = from;
        it.awayTo = to;
        return DAY - (to - from);
    }

    public int parcel(int customer, int reference, int sender, int receiver, int size, boolean isExpress) throws IndexOutOfBoundsException, IllegalArgumentException, IllegalStateException {
        Customer owner = customerOf(customer);
        Address origin = addressOf(sender);
        Address end = addressOf(receiver);
        checkArgument(isWithin(reference, 0, REFERENCES - 1) && isWithin(size, 1, 3));
        checkState(parcels.size() < MOST_PARCELS && !hasReference(owner, reference));
        Parcel it = new Parcel(parcels.size(), origin, end, size, isExpress, clock);
        it.customer = owner;
        it.reference = reference;
        parcels.add(it);
        putUnsorted(it, origin.depot);
        note(it, origin.depot, TAKEN);
        return it.number;
    }

    public int worth(int parcel, int value, int cash) throws IndexOutOfBoundsException, IllegalArgumentException, IllegalStateException {
        Parcel it = parcelOf(parcel);
        checkArgument(isWithin(value, 0, 1000) && isWithin(cash, 0, 500));
        checkState(it.isFresh);
        it.money.value = value;
        it.money.cash = cash;
        return it.money.dutyDue();
    }

    public int promise(int parcel, int from, int to, int hours) throws IndexOutOfBoundsException, IllegalArgumentException, IllegalStateException {
        Parcel it = parcelOf(parcel);
        checkArgument(isWithin(from, 0, DAY - 1) && isWithin(to, from + 1, DAY) && isWithin(hours, 1, 200));
        checkState(it.isFresh);
        it.windowFrom = from;
        it.windowTo = to;
        it.promised = clock + hours;
        return it.promised;
    }

    public boolean doubt(int parcel, int address) throws IndexOutOfBoundsException, IllegalArgumentException, IllegalStateException {
        Parcel it = parcelOf(parcel);
        Address second = addressOf(address);
        checkArgument(second != it.receiver);
        checkState(it.isFresh);
        boolean hadNone = it.doubt == null;
        it.doubt = second;
        return hadNone;
    }

    public int van(int depot, int room, int start) throws IndexOutOfBoundsException, IllegalArgumentException, IllegalStateException {
        Depot here = depotOf(depot);
        checkArgument(isWithin(room, 1, 30) && isWithin(start, 0, DAY - 1));
        checkState(vans.size() < MOST_VANS);
        Van van = new Van(vans.size(), here, room, start);
        vans.add(van);
        return van.number;
    }

    public int locker(int depot, int ones, int twos, int threes) throws IndexOutOfBoundsException, IllegalArgumentException, IllegalStateException {
        Depot here = depotOf(depot);
        checkArgument(isWithin(ones, 0, 5) && isWithin(twos, 0, 5) && isWithin(threes, 0, 5));
        checkState(lockers.size() < MOST_LOCKERS);
        Locker locker = new Locker(lockers.size(), here, ones, twos, threes);
        lockers.add(locker);
        return locker.number;
    }

    // ---- what happens

    public int hour(int hours) throws IllegalArgumentException, IllegalStateException {
        checkArgument(isWithin(hours, 1, 24));
        checkState(clock + hours <= LAST_CLOCK);
        int handed = 0;
        for (int i = 0; i < hours; i++) {
            clock++;
            bringTrailers();
            emptyLockers();
            sortEverywhere();
            sendTrailers();
            handed += driveVans();
            if (clock % DAY == 0) {
                payCash();
            }
        }
        return handed;
    }

    public int resolve(int parcel, boolean isOther) throws IndexOutOfBoundsException, IllegalStateException {
        Parcel it = parcelOf(parcel);
        Address second = it.doubt;
        checkState(second != null && !it.isAtEnd());
        if (isOther && second != null) {
            it.receiver = second;
        }
        it.doubt = null;
        if (it.isHeldByDoubt()) {
            putUnsortedThere(it);
        }
        return it.target().number;
    }

    public int duty(int parcel) throws IndexOutOfBoundsException, IllegalStateException {
        Parcel it = parcelOf(parcel);
        int due = it.money.dutyDue();
        checkState(!it.money.isDutyPaid && due > 0 && !it.isAtEnd());
        it.money.isDutyPaid = true;
        it.customer.account -= due;
        if (it.isHeldByCustoms()) {
            putUnsortedThere(it);
        }
        return due;
    }

    public int forward(int parcel, int address) throws IndexOutOfBoundsException, IllegalStateException {
        Parcel it = parcelOf(parcel);
        Address next = addressOf(address);
        checkState(it.canTurn());
        it.receiver = next;
        it.isReturn = false;
        turn(it);
        return it.target().number;
    }

    public int giveBack(int parcel) throws IndexOutOfBoundsException, IllegalStateException {
        Parcel it = parcelOf(parcel);
        checkState(!it.isReturn && it.canTurn());
        it.isReturn = true;
        turn(it);
        return it.target().number;
    }

    public int lose(int parcel) throws IndexOutOfBoundsException, IllegalStateException {
        Parcel it = parcelOf(parcel);
        checkState(it.stay.kind != VAN && !it.isAtEnd());
        int before = it.stay.kind;
        it.move(LOST, NONE, null, null, clock);
        return before;
    }

    public int find(int parcel, int depot) throws IndexOutOfBoundsException, IllegalStateException {
        Parcel it = parcelOf(parcel);
        Depot here = depotOf(depot);
        checkState(it.stay.kind == LOST);
        int hours = clock - it.stay.since;
        putUnsorted(it, here);
        note(it, here, BACK);
        return hours;
    }

    public int fetch(int locker, int code) throws IndexOutOfBoundsException, IllegalStateException {
        Locker box = lockerOf(locker);
        Parcel it = parcelByCode(box, code);
        if (it == null) {
            throw new IllegalStateException();
        }
        handOver(it);
        note(it, box.depot, FETCHED);
        return it.number;
    }

    public int claim(int parcel, int kind, boolean hasProof) throws IndexOutOfBoundsException, IllegalArgumentException, IllegalStateException {
        Parcel it = parcelOf(parcel);
        checkArgument(kind == GONE || kind == LATE);
        int due = kind == GONE ? dueForGone(it, hasProof) : dueForLate(it);
        // A claim worth 0 is refused, so what was paid is above 0 if one was paid.
        checkState(due > 0 && it.money.paid == 0);
        it.money.paid = due;
        it.money.isGonePaid = kind == GONE;
        it.customer.account += due;
        return due;
    }

    public int merge(int customer, int other) throws IndexOutOfBoundsException, IllegalArgumentException {
        Customer old = customerOf(customer);
        Customer next = customerOf(other);
        checkArgument(old != next);
        int changed = 0;
        for (int i = 0; i < parcels.size(); i++) {
            Parcel it = parcels.get(i);
            if (it.customer == old) {
                int reference = freeReference(next, it.reference);
                changed += reference == it.reference ? 0 : 1;
                it.reference = reference;
                it.customer = next;
            }
        }
        next.account += old.account;
        old.account = 0;
        return changed;
    }

    // ---- what is asked

    public int clock() {
        return clock;
    }

    public int where(int parcel) throws IndexOutOfBoundsException {
        return parcelOf(parcel).stay.kind;
    }

    public int at(int parcel) throws IndexOutOfBoundsException {
        return parcelOf(parcel).stay.number;
    }

    public int part(int parcel, int part) throws IndexOutOfBoundsException, IllegalArgumentException {
        Parcel it = parcelOf(parcel);
        checkArgument(isWithin(part, 0, 7));
        switch (part) {
            case 0:
                return it.reference;
            case 1:
                return it.customer.number;
            case 2:
                return it.failures;
            case 3:
                return it.isReturn ? 1 : 0;
            case 4:
                return it.promised;
            case 5:
                return it.money.paid;
            case 6:
                return it.stay.code;
            default:
                return it.target().number;
        }
    }

    public int count(int where) throws IllegalArgumentException {
        checkArgument(isWithin(where, UNSORTED, LOST));
        int many = 0;
        for (int i = 0; i < parcels.size(); i++) {
            many += parcels.get(i).stay.kind == where ? 1 : 0;
        }
        return many;
    }

    public int place(int parcel) throws IndexOutOfBoundsException {
        Parcel it = parcelOf(parcel);
        ArrayList<Parcel> line = it.stay.line;
        boolean hasPlace = it.stay.kind == UNSORTED || it.stay.kind == ROW;
        return hasPlace && line != null ? indexIn(line, it) : NONE;
    }

    public int waits(int lane) throws IndexOutOfBoundsException {
        Lane it = laneOf(lane);
        return it.waitsSince == NONE ? NONE : clock - it.waitsSince;
    }

    public int onLane(int lane) throws IndexOutOfBoundsException {
        return laneOf(lane).load.size();
    }

    public int onVan(int van) throws IndexOutOfBoundsException {
        Van it = vanOf(van);
        int many = 0;
        for (int i = 0; i < it.round.size(); i++) {
            many += it.round.get(i).stay.kind == VAN ? 1 : 0;
        }
        return many;
    }

    public int free(int locker, int size) throws IndexOutOfBoundsException, IllegalArgumentException {
        Locker it = lockerOf(locker);
        checkArgument(isWithin(size, 1, 3));
        return it.freeOf(size);
    }

    public int account(int customer) throws IndexOutOfBoundsException {
        return customerOf(customer).account;
    }

    public int cash(int depot) throws IndexOutOfBoundsException {
        Depot here = depotOf(depot);
        int sum = 0;
        for (int i = 0; i < parcels.size(); i++) {
            Money money = parcels.get(i).money;
            sum += money.cashDepot == here ? money.cash : 0;
        }
        return sum;
    }

    public int scans() {
        return book.size();
    }

    public int scan(int scan, int part) throws IndexOutOfBoundsException, IllegalArgumentException {
        checkIndex(isWithin(scan, 0, book.size() - 1));
        checkArgument(isWithin(part, 0, 3));
        Scan it = book.get(scan);
        switch (part) {
            case 0:
                return it.parcel;
            case 1:
                return it.depot.number;
            case 2:
                return it.clock;
            default:
                return it.kind;
        }
    }

    public int way(int parcel, int place) throws IndexOutOfBoundsException {
        Parcel it = parcelOf(parcel);
        checkIndex(place >= 0);
        Depot last = null;
        int many = 0;
        for (int i = 0; i < it.scans.size(); i++) {
            Depot here = it.scans.get(i).depot;
            if (here != last) {
                if (many == place) {
                    return here.number;
                }
                many++;
                last = here;
            }
        }
        return NONE;
    }

    public int wrong(int parcel) throws IndexOutOfBoundsException {
        Parcel it = parcelOf(parcel);
        int step = 0;
        for (int i = 1; i < it.scans.size(); i++) {
            Scan ahead = it.scans.get(i - 1);
            Scan next = it.scans.get(i);
            if (ahead.depot != next.depot) {
                int least = quickest(ahead.depot, next.depot);
                if (least == NONE || next.clock - ahead.clock < least) {
                    return step;
                }
                step++;
            }
        }
        return NONE;
    }

    public int stock(int depot) throws IndexOutOfBoundsException {
        Depot here = depotOf(depot);
        int many = 0;
        for (int i = 0; i < parcels.size(); i++) {
            many += parcels.get(i).stay.depot == here ? 1 : 0;
        }
        return many;
    }

    public int stockByScans(int depot) throws IndexOutOfBoundsException {
        Depot here = depotOf(depot);
        int many = 0;
        for (int i = 0; i < parcels.size(); i++) {
            Scan last = parcels.get(i).lastScan();
            many += last != null && last.depot == here && last.tellsOfStock() ? 1 : 0;
        }
        return many;
    }

    public int foreseen(int parcel) throws IndexOutOfBoundsException {
        Parcel it = parcelOf(parcel);
        switch (it.stay.kind) {
            case UNSORTED:
                return foreseenFrom(it, it.stay.depot, clock + 1, 0);
            case ROW:
                return foreseenInRow(it, laneOrNull(it.stay.number));
            case LANE:
                return foreseenOver(it, laneOrNull(it.stay.number), it.stay.since, 0);
            case READY:
                return nextStart(it.stay.depot, clock + 1);
            default:
                return NONE;
        }
    }

    // ---- what an hour does

    private void bringTrailers() {
        for (int i = 0; i < lanes.size(); i++) {
            Lane lane = lanes.get(i);
            // Trailers come in the order in which they left, so those that come now stand first.
            for (int left = lane.load.size(); left > 0 && !lane.load.isEmpty(); left--) {
                Parcel it = lane.load.get(0);
                if (it.stay.since + lane.hours > clock) {
                    break;
                }
                bring(it, lane);
            }
        }
    }

    private void bring(Parcel it, Lane lane) {
        if (isStoppedOn(lane, it)) {
            hold(it, lane.to, true);
        } else {
            putUnsorted(it, lane.to);
        }
        note(it, lane.to, CAME);
    }

    private void emptyLockers() {
        for (int i = 0; i < parcels.size(); i++) {
            Parcel it = parcels.get(i);
            Depot here = it.stay.depot;
            if (it.stay.kind == LOCKER && here != null && clock - it.stay.since >= HOURS_IN_LOCKER) {
                sendBack(it, here);
            }
        }
    }

    private void sortEverywhere() {
        for (Depot here : depots) {
            // A parcel that is sorted in vain must not be met twice in an hour: hence the list aside.
            pickExpressFirst(here.unsorted);
            int many = here.manyAt(clock);
            for (int i = 0; i < picked.size() && i < many; i++) {
                sortOne(picked.get(i), here);
            }
        }
    }

    private void sortOne(Parcel it, Depot here) {
        it.isFresh = false;
        Depot target = it.target();
        if (target != here) {
            Lane lane = here.laneTowards(target, halfOf(clock));
            if (lane == null || lane.row.size() >= MOST_IN_ROW) {
                putUnsorted(it, here);
                return;
            }
            it.move(ROW, lane.number, here, lane.row, clock);
        } else if (it.doubt != null) {
            hold(it, here, false);
        } else {
            putReady(it, here);
        }
        note(it, here, SORTED);
    }

    private void sendTrailers() {
        for (int i = 0; i < lanes.size(); i++) {
            Lane lane = lanes.get(i);
            if (lane.isDue(clock) && lane.waitsSince == NONE) {
                lane.waitsSince = clock;
            }
            if (lane.waitsSince != NONE && lane.hasEnough(clock)) {
                lane.waitsSince = NONE;
                load(lane);
            }
        }
    }

    private void load(Lane lane) {
        pickExpressFirst(lane.row);
        for (int i = 0; i < picked.size() && i < lane.room; i++) {
            Parcel it = picked.get(i);
            it.move(LANE, lane.number, null, lane.load, clock);
            note(it, lane.from, LEFT);
        }
    }

    private void pickExpressFirst(ArrayList<Parcel> line) {
        picked.clear();
        addThose(line, true);
        addThose(line, false);
    }

    private void addThose(ArrayList<Parcel> line, boolean isExpress) {
        for (int i = 0; i < line.size(); i++) {
            Parcel it = line.get(i);
            if (it.isExpress == isExpress) {
                picked.add(it);
            }
        }
    }

    private void payCash() {
        for (int i = 0; i < parcels.size(); i++) {
            Parcel it = parcels.get(i);
            if (it.money.cashDepot != null) {
                it.money.cashDepot = null;
                it.customer.account += it.money.cash;
            }
        }
    }

    // ---- rounds

    private int driveVans() {
        int handed = 0;
        for (int i = 0; i < vans.size(); i++) {
            Van van = vans.get(i);
            handed += doStops(van);
            endRound(van);
            if (van.round.isEmpty() && clock % DAY == van.start) {
                beginRound(van);
                handed += doStops(van);
                endRound(van);
            }
        }
        return handed;
    }

    private void beginRound(Van van) {
        van.begun = clock;
        van.done = 0;
        int room = van.room;
        for (int i = 0; i < MOST_PARCELS; i++) {
            Parcel it = nextForRound(van.depot, room);
            if (it == null) {
                break;
            }
            room -= it.size;
            it.move(VAN, van.number, null, null, clock);
            van.round.add(it);
            note(it, van.depot, OUT);
        }
        van.findStops();
    }

    private Parcel nextForRound(Depot depot, int room) {
        Parcel best = null;
        for (int i = 0; i < parcels.size(); i++) {
            Parcel it = parcels.get(i);
            boolean fits = it.stay.kind == READY && it.stay.depot == depot && it.size <= room;
            if (fits && (best == null || it.goesAheadOf(best))) {
                best = it;
            }
        }
        return best;
    }

    private int doStops(Van van) {
        int handed = 0;
        for (int i = van.done; i >= 0 && i < van.round.size(); i++) {
            Parcel it = van.round.get(i);
            if (it.stay.stop - van.start > clock - van.begun) {
                return handed;
            }
            van.done = i + 1;
            if (it.isMetAt(it.stay.stop)) {
                handOver(it);
                note(it, van.depot, GIVEN);
                handed++;
            } else {
                it.failures++;
                note(it, van.depot, FAILED);
            }
        }
        return handed;
    }

    private void endRound(Van van) {
        if (van.done < van.round.size()) {
            return;
        }
        for (int i = 0; i < van.round.size(); i++) {
            Parcel it = van.round.get(i);
            if (it.stay.kind == VAN) {
                bringBack(it, van.depot);
            } else if (!it.isReturn) {
                it.money.cashDepot = van.depot;
            }
        }
        van.round.clear();
    }

    private void bringBack(Parcel it, Depot here) {
        boolean mayBeStored = it.failures >= 2 && !it.isReturn && it.money.cash == 0;
        Locker locker = mayBeStored ? lockerWithRoom(here, it.size) : null;
        if (locker != null) {
            locker.store(it, clock);
            note(it, here, STORED);
        } else if (it.failures < 3) {
            putReady(it, here);
            note(it, here, BACK);
        } else if (it.isReturn) {
            it.move(LOST, NONE, null, null, clock);
        } else {
            sendBack(it, here);
        }
    }

    private Locker lockerWithRoom(Depot here, int size) {
        for (int i = 0; i < lockers.size(); i++) {
            Locker locker = lockers.get(i);
            if (locker.depot == here && locker.leastFree(size) != NONE) {
                return locker;
            }
        }
        return null;
    }

    // ---- moves

    private void putUnsorted(Parcel it, Depot here) {
        it.move(UNSORTED, here.number, here, here.unsorted, clock);
    }

    private void putUnsortedThere(Parcel it) {
        Depot here = it.stay.depot;
        if (here != null) {
            putUnsorted(it, here);
        }
    }

    private void putReady(Parcel it, Depot here) {
        it.move(READY, here.number, here, null, clock);
    }

    private void hold(Parcel it, Depot here, boolean isByCustoms) {
        it.move(HELD, here.number, here, null, clock);
        it.stay.isByCustoms = isByCustoms;
    }

    private void handOver(Parcel it) {
        it.move(HANDED, NONE, null, null, clock);
        if (it.money.isGonePaid) {
            it.customer.account -= it.money.paid;
        }
    }

    private void sendBack(Parcel it, Depot here) {
        it.isReturn = true;
        it.forgetTrouble();
        it.move(UNSORTED, here.number, here, here.unsorted, clock);
        note(it, here, BACK);
    }

    private void turn(Parcel it) {
        it.forgetTrouble();
        if (it.stay.kind == ROW || it.stay.kind == READY || it.isHeldByDoubt()) {
            putUnsortedThere(it);
        }
    }

    private void note(Parcel it, Depot here, int kind) {
        if (here.blind > 0) {
            here.blind--;
            return;
        }
        if (book.size() >= MOST_SCANS) {
            return;
        }
        Scan scan = new Scan(it.number, here, clock, kind);
        book.add(scan);
        it.scans.add(scan);
        if (here.stammers > 0) {
            here.stammers--;
            if (book.size() < MOST_SCANS) {
                book.add(scan);
                it.scans.add(scan);
            }
        }
    }

    // ---- claims, references, ways, what is foreseen

    private int dueForGone(Parcel it, boolean hasProof) {
        Scan last = it.lastScan();
        int heard = last == null ? it.told : Math.max(it.told, last.clock);
        boolean isSilent = it.stay.kind != HANDED && clock - heard >= HOURS_OF_SILENCE;
        if (it.stay.kind != LOST && !isSilent) {
            return 0;
        }
        int most = Math.min(it.money.value, 500);
        return hasProof ? most : most / 2;
    }

    private int dueForLate(Parcel it) {
        int end = it.stay.kind == HANDED ? it.stay.since : clock;
        if (it.isReturn || end <= it.promised) {
            return 0;
        }
        return Math.min(2 * (end - it.promised), 50);
    }

    private boolean hasReference(Customer customer, int reference) {
        for (int i = 0; i < parcels.size(); i++) {
            Parcel it = parcels.get(i);
            if (it.customer == customer && it.reference == reference) {
                return true;
            }
        }
        return false;
    }

    private int freeReference(Customer customer, int wanted) {
        for (int k = 0; k < REFERENCES; k++) {
            int reference = (wanted + k) % REFERENCES;
            if (!hasReference(customer, reference)) {
                return reference;
            }
        }
        return wanted;
    }

    private Parcel parcelByCode(Locker locker, int code) {
        for (int i = 0; i < parcels.size(); i++) {
            Parcel it = parcels.get(i);
            if (it.stay.locker == locker && it.stay.code == code) {
                return it;
            }
        }
        return null;
    }

    private int quickest(Depot from, Depot to) {
        int best = NONE;
        for (int i = 0; i < lanes.size(); i++) {
            Lane lane = lanes.get(i);
            if (lane.from == from && lane.to == to && (best == NONE || lane.hours < best)) {
                best = lane.hours;
            }
        }
        return best;
    }

    private int foreseenInRow(Parcel it, Lane lane) {
        return lane == null ? NONE : foreseenOver(it, lane, lane.departureFrom(clock + 1), 1);
    }

    private int foreseenOver(Parcel it, Lane lane, int leaves, int lanesLeft) {
        if (lane == null || isStoppedOn(lane, it)) {
            return NONE;
        }
        return foreseenFrom(it, lane.to, leaves + lane.hours, lanesLeft);
    }

    private int foreseenFrom(Parcel it, Depot start, int hour, int lanesLeft) {
        Depot target = it.target();
        Depot here = start;
        int now = hour;
        for (int many = lanesLeft; here != null && many <= MOST_LANES_FORESEEN; many++) {
            if (here == target) {
                return it.doubt == null ? nextStart(here, now) : NONE;
            }
            Lane lane = here.laneTowards(target, halfOf(now));
            if (lane == null || isStoppedOn(lane, it)) {
                return NONE;
            }
            now = lane.departureFrom(now) + lane.hours;
            here = lane.to;
        }
        return NONE;
    }

    private int nextStart(Depot here, int hour) {
        int best = NONE;
        for (int i = 0; i < vans.size(); i++) {
            Van van = vans.get(i);
            if (van.depot == here) {
                int start = hour + Math.floorMod(van.start - hour, DAY);
                best = best == NONE ? start : Math.min(best, start);
            }
        }
        return best;
    }

    private static boolean isStoppedOn(Lane lane, Parcel it) {
        return lane.crosses && it.money.value > 0 && !it.money.isDutyPaid;
    }

    private static int halfOf(int hour) {
        return hour % DAY < 12 ? 0 : 1;
    }

    private static int indexIn(ArrayList<Parcel> line, Parcel it) {
        for (int i = 0; i < line.size(); i++) {
            if (line.get(i) == it) {
                return i;
            }
        }
        return NONE;
    }

    // ---- what is looked up, and refused

    private static boolean isWithin(int number, int least, int most) {
        return number >= least && number <= most;
    }

    private static void checkIndex(boolean isThere) throws IndexOutOfBoundsException {
        if (!isThere) {
            throw new IndexOutOfBoundsException();
        }
    }

    private static void checkArgument(boolean isInRange) throws IllegalArgumentException {
        if (!isInRange) {
            throw new IllegalArgumentException();
        }
    }

    private static void checkState(boolean isAllowed) throws IllegalStateException {
        if (!isAllowed) {
            throw new IllegalStateException();
        }
    }

    private Depot depotOf(int number) throws IndexOutOfBoundsException {
        if (number < 0 || number >= depots.length) {
            throw new IndexOutOfBoundsException();
        }
        return depots[number];
    }

    private Customer customerOf(int number) throws IndexOutOfBoundsException {
        if (number < 0 || number >= customers.length) {
            throw new IndexOutOfBoundsException();
        }
        return customers[number];
    }

    private Lane laneOf(int number) throws IndexOutOfBoundsException {
        if (number < 0 || number >= lanes.size()) {
            throw new IndexOutOfBoundsException();
        }
        return lanes.get(number);
    }

    private Lane laneOrNull(int number) {
        return number >= 0 && number < lanes.size() ? lanes.get(number) : null;
    }

    private Address addressOf(int number) throws IndexOutOfBoundsException {
        if (number < 0 || number >= addresses.size()) {
            throw new IndexOutOfBoundsException();
        }
        return addresses.get(number);
    }

    private Parcel parcelOf(int number) throws IndexOutOfBoundsException {
        if (number < 0 || number >= parcels.size()) {
            throw new IndexOutOfBoundsException();
        }
        return parcels.get(number);
    }

    private Van vanOf(int number) throws IndexOutOfBoundsException {
        if (number < 0 || number >= vans.size()) {
            throw new IndexOutOfBoundsException();
        }
        return vans.get(number);
    }

    private Locker lockerOf(int number) throws IndexOutOfBoundsException {
        if (number < 0 || number >= lockers.size()) {
            throw new IndexOutOfBoundsException();
        }
        return lockers.get(number);
    }

    private static final class Customer {
        final int number;
        int account = 0;

        Customer(int number) {
            this.number = number;
        }
    }

    private static final class Depot {
        final int number;
        final ArrayList<Parcel> unsorted = new ArrayList<Parcel>();
        // Two for each depot, by the half of the day; null where the plan tells none.
        final Lane[] lanesTowards = new Lane[2 * DEPOTS];
        int many = 10;
        int more = 0;
        int hiredUntil = 0;
        int blind = 0;
        int stammers = 0;

        Depot(int number) {
            this.number = number;
        }

        int manyAt(int clock) {
            return clock <= hiredUntil ? many + more : many;
        }

        Lane laneTowards(Depot target, int half) {
            int i = 2 * target.number + half;
            return i >= 0 && i < lanesTowards.length ? lanesTowards[i] : null;
        }

        void setLaneTowards(Depot target, int half, Lane lane) {
            int i = 2 * target.number + half;
            if (i >= 0 && i < lanesTowards.length) {
                lanesTowards[i] = lane;
            }
        }
    }

    private static final class Lane {
        final int number;
        final Depot from;
        final Depot to;
        final int hours;
        final boolean crosses;
        final ArrayList<Parcel> row = new ArrayList<Parcel>();
        final ArrayList<Parcel> load = new ArrayList<Parcel>();
        int room = 10;
        int first = 0;
        int every = 1;
        int least = 1;
        int patience = 1;
        int waitsSince = NONE;

        Lane(int number, Depot from, Depot to, int hours, boolean crosses) {
            this.number = number;
            this.from = from;
            this.to = to;
            this.hours = hours;
            this.crosses = crosses;
        }

        boolean isDue(int clock) {
            return departureFrom(clock) == clock;
        }

        int departureFrom(int hour) {
            if (hour <= first || every <= 0) {
                return Math.max(first, hour);
            }
            int over = (hour - first) % every;
            return over == 0 ? hour : hour + every - over;
        }

        /** With an empty row too, when the patience is at its end: the trailer goes away then. */
        boolean hasEnough(int clock) {
            return row.size() >= least || clock - waitsSince >= patience;
        }
    }

    private static final class Address {
        final Depot depot;
        final int spot;
        int awayFrom = 0;
        int awayTo = 0;

        Address(Depot depot, int spot) {
            this.depot = depot;
            this.spot = spot;
        }
    }

    private static final class Parcel {
        final int number;
        final Address sender;
        final int size;
        final boolean isExpress;
        final int told;
        final Money money = new Money();
        final Stay stay = new Stay();
        final ArrayList<Scan> scans = new ArrayList<Scan>();
        Customer customer;
        int reference;
        Address receiver;
        Address doubt = null;
        int windowFrom = 0;
        int windowTo = DAY;
        int promised;
        int failures = 0;
        boolean isReturn = false;
        boolean isFresh = true;

        Parcel(int number, Address sender, Address receiver, int size, boolean isExpress, int told) {
            this.number = number;
            this.sender = sender;
            this.receiver = receiver;
            this.size = size;
            this.isExpress = isExpress;
            this.told = told;
            this.promised = told + 100;
        }

        Address goal() {
            return isReturn ? sender : receiver;
        }

        Depot target() {
            return goal().depot;
        }

        boolean isAtEnd() {
            return stay.kind == HANDED || stay.kind == LOST;
        }

        boolean canTurn() {
            return stay.kind != VAN && stay.kind != LOCKER && !isAtEnd();
        }

        boolean isHeldByDoubt() {
            return stay.kind == HELD && !stay.isByCustoms;
        }

        boolean isHeldByCustoms() {
            return stay.kind == HELD && stay.isByCustoms;
        }

        boolean goesAheadOf(Parcel other) {
            if (isExpress != other.isExpress) {
                return isExpress;
            }
            return windowTo == other.windowTo ? number < other.number : windowTo < other.windowTo;
        }

        /** The hour is of the day of the start, so from 24 on it is behind midnight and all windows. */
        boolean isMetAt(int hour) {
            Address goal = goal();
            boolean isAway = hour >= goal.awayFrom && hour < goal.awayTo;
            return hour < windowTo && !isAway;
        }

        void forgetTrouble() {
            doubt = null;
            failures = 0;
        }

        Scan lastScan() {
            return scans.isEmpty() ? null : scans.get(scans.size() - 1);
        }

        void move(int kind, int at, Depot depot, ArrayList<Parcel> line, int clock) {
            ArrayList<Parcel> old = stay.line;
            int i = old == null ? NONE : indexIn(old, this);
            if (old != null && i >= 0 && i < old.size()) {
                old.remove(i);
            }
            if (stay.locker != null) {
                stay.locker.change(stay.compartment, 1);
            }
            stay.locker = null;
            stay.compartment = 0;
            stay.code = 0;
            stay.kind = kind;
            stay.number = at;
            stay.depot = depot;
            stay.line = line;
            stay.since = clock;
            if (line != null) {
                line.add(this);
            }
        }
    }

    private static final class Money {
        int value = 0;
        int cash = 0;
        boolean isDutyPaid = false;
        int paid = 0;
        boolean isGonePaid = false;
        // The depot that has its cash; null if none has.
        Depot cashDepot = null;

        int dutyDue() {
            return (value + 9) / 10;
        }
    }

    private static final class Stay {
        int kind = UNSORTED;
        int number = NONE;
        int since = 0;
        // The depot whose stock it is of; null on vehicles and at the end.
        Depot depot = null;
        // The line in which it has its place; null where there is no order.
        ArrayList<Parcel> line = null;
        Locker locker = null;
        int compartment = 0;
        int code = 0;
        boolean isByCustoms = false;
        int stop = 0;
    }

    private static final class Van {
        final int number;
        final Depot depot;
        final int room;
        final int start;
        final ArrayList<Parcel> round = new ArrayList<Parcel>();
        int begun = 0;
        int done = 0;

        Van(int number, Depot depot, int room, int start) {
            this.number = number;
            this.depot = depot;
            this.room = room;
            this.start = start;
        }

        void findStops() {
            int minute = 60 * start;
            int spot = 0;
            for (int i = 0; i < round.size(); i++) {
                Parcel it = round.get(i);
                int next = it.goal().spot;
                minute += 2 * Math.abs(next - spot);
                minute = Math.max(minute, 60 * it.windowFrom);
                it.stay.stop = minute / 60;
                minute += 5;
                spot = next;
            }
        }
    }

    private static final class Locker {
        final int number;
        final Depot depot;
        // By size; none has the size 0.
        final int[] free;

        Locker(int number, Depot depot, int ones, int twos, int threes) {
            this.number = number;
            this.depot = depot;
            this.free = new int[] {0, ones, twos, threes};
        }

        int freeOf(int size) {
            return size >= 0 && size < free.length ? free[size] : 0;
        }

        void change(int size, int by) {
            if (size >= 0 && size < free.length) {
                free[size] += by;
            }
        }

        int leastFree(int size) {
            for (int i = size; i < free.length; i++) {
                if (freeOf(i) > 0) {
                    return i;
                }
            }
            return NONE;
        }

        void store(Parcel it, int clock) {
            it.move(LOCKER, number, depot, null, clock);
            it.stay.locker = this;
            it.stay.compartment = leastFree(it.size);
            it.stay.code = 1000 + (37 * it.number + 101 * number + clock) % 9000;
            change(it.stay.compartment, -1);
        }
    }

    private static final class Scan {
        final int parcel;
        final Depot depot;
        final int clock;
        final int kind;

        Scan(int parcel, Depot depot, int clock, int kind) {
            this.parcel = parcel;
            this.depot = depot;
            this.clock = clock;
            this.kind = kind;
        }

        boolean tellsOfStock() {
            return kind == TAKEN || kind == SORTED || kind == CAME || kind == STORED || kind == BACK;
        }
    }
}
