/** Promise 16: the steps of an hour and the rounds, sentence by sentence, one ahead of each bound, at it and behind it. */
public final class HourEdgeTest {
    public static void main(String[] args) {
        clockFirst();
        stepsInOrder();
        lanesByNumbers();
        comesInItsHour();
        customs();
        lockersByNumbers();
        fortyEightHours();
        depotsByNumbers();
        expressFirst();
        inVain();
        allCount();
        planOfTheHour();
        rowOfTwenty();
        rowHasRoomAgain();
        fullRowForAll();
        halves();
        firstDeparture();
        everySoManyHours();
        dueWhileOneWaits();
        leastLoad();
        patience();
        emptyRow();
        room();
        restOfRow();
        lanesLeaveByNumbers();
        severalTrailers();
        midnight();
        handedAreCounted();
        Check.end();
    }

    /** Told at the clock 0, taken by a lane of one hour at 1, come and READY at 2. */
    private static void clockFirst() {
        Ropewalk x = new Ropewalk();
        x.lane(0, 1, 1, false);
        x.plan(0, 1, 0, 0);
        x.address(0, 0);
        x.address(1, 0);
        x.parcel(0, 0, 0, 1, 1, false);
        x.hour(2);
        int[][] want = {{0, Ropewalk.TAKEN, 0}, {1, Ropewalk.SORTED, 0}, {1, Ropewalk.LEFT, 0}, {2, Ropewalk.CAME, 1}, {2, Ropewalk.SORTED, 1}};
        Check.due("16 five scans", x.scans(), want.length);
        for (int i = 0; i < want.length; i++) {
            Check.due("16 the clock becomes 1 more ahead of the steps, scan " + i, x.scan(i, 2), want[i][0]);
            Check.due("16 the kind of the scan " + i, x.scan(i, 3), want[i][1]);
            Check.due("16 LEFT where the lane leads from, CAME where it leads to, scan " + i, x.scan(i, 1), want[i][2]);
        }
    }

    /** In the hour 49 a trailer comes, a locker is emptied, all depots sort, a trailer leaves and a van starts. */
    private static void stepsInOrder() {
        Ropewalk x = new Ropewalk();
        x.lane(0, 1, 1, false);
        x.plan(0, 1, 0, 0);
        x.plan(0, 1, 1, 0);
        x.address(0, 0);
        x.address(1, 0);
        x.away(1, 0, 24);
        x.van(1, 1, 1);
        x.van(1, 1, 1);
        x.locker(1, 1, 0, 0);
        x.parcel(0, 0, 1, 1, 1, false);
        Scenes.at(x, 47);
        x.parcel(0, 1, 0, 1, 1, false);
        x.hour(1);
        x.parcel(0, 2, 0, 1, 1, false);
        int[] kinds = {Ropewalk.CAME, Ropewalk.BACK, Ropewalk.SORTED, Ropewalk.SORTED, Ropewalk.SORTED, Ropewalk.LEFT, Ropewalk.OUT};
        int[] parcels = {1, 0, 2, 1, 0, 2, 0};
        int first = x.scans();
        x.hour(1);
        for (int i = 0; i < kinds.length; i++) {
            Check.due("16 the order of the steps, kind " + i, x.scan(first + i, 3), kinds[i]);
            Check.due("16 the order of the steps, parcel " + i, x.scan(first + i, 0), parcels[i]);
        }
    }

    /** Two trailers come in one hour: that of the lower lane first, though its parcel has the higher number. */
    private static void lanesByNumbers() {
        Ropewalk x = new Ropewalk();
        x.lane(1, 2, 3, false);
        x.lane(0, 2, 3, false);
        x.plan(1, 2, 0, 0);
        x.plan(0, 2, 0, 1);
        x.address(0, 0);
        x.address(1, 0);
        x.address(2, 0);
        x.sorts(2, 0);
        x.parcel(0, 0, 0, 2, 1, false);
        x.parcel(0, 1, 1, 2, 1, false);
        x.parcel(0, 2, 1, 2, 1, true);
        x.hour(4);
        Check.due("16 step 1: the lower lane first, as it was loaded", x.place(2), 0);
        Check.due("16 step 1: then its next one", x.place(1), 1);
        Check.due("16 step 1: the higher lane behind", x.place(0), 2);
        Check.due("16 step 1: scanned in that order", x.scan(x.scans() - 3, 0), 2);
        Check.due("16 step 1: the last one", x.scan(x.scans() - 1, 0), 0);
    }

    private static void comesInItsHour() {
        int[] hours = {1, 2, 23, 24};
        for (int k : hours) {
            Ropewalk x = new Ropewalk();
            x.lane(0, 1, k, false);
            x.plan(0, 1, 0, 0);
            x.address(0, 0);
            x.address(1, 0);
            x.parcel(0, 0, 0, 1, 1, false);
            Scenes.at(x, k);
            Check.due("16 step 1: not an hour ahead, of " + k, x.where(0), Ropewalk.LANE);
            x.hour(1);
            Check.due("16 step 1: it comes now, of " + k, x.where(0), Ropewalk.READY);
        }
    }

    private static void customs() {
        Check.due("16 step 1: crosses, value 0", whereFrom(true, 0, false), Ropewalk.READY);
        Check.due("16 step 1: crosses, value 1", whereFrom(true, 1, false), Ropewalk.HELD);
        Check.due("16 step 1: crosses, value 1000", whereFrom(true, 1000, false), Ropewalk.HELD);
        Check.due("16 step 1: crosses, its duty was paid", whereFrom(true, 1, true), Ropewalk.READY);
        Check.due("16 step 1: crosses none, value 1", whereFrom(false, 1, false), Ropewalk.READY);
        Check.due("16 step 1: crosses none, value 1000", whereFrom(false, 1000, false), Ropewalk.READY);
    }

    private static int whereFrom(boolean crosses, int value, boolean isPaid) {
        Ropewalk x = Scenes.pair(crosses);
        x.parcel(0, 0, 0, 2, 1, false);
        x.worth(0, value, 0);
        if (isPaid) {
            x.duty(0);
        }
        x.hour(4);
        return x.where(0);
    }

    /** The express parcel 2 has the locker 0, the others the locker 1: they come out by their own numbers. */
    private static void lockersByNumbers() {
        Ropewalk x = new Ropewalk();
        x.address(0, 0);
        x.address(0, 0);
        x.away(1, 0, 24);
        x.van(0, 9, 1);
        x.van(0, 9, 1);
        x.locker(0, 1, 0, 0);
        x.locker(0, 2, 0, 0);
        for (int i = 0; i < 3; i++) {
            x.parcel(0, i, 0, 1, 1, i == 2);
        }
        x.hour(1);
        Check.due("16 step 2: the express one is in the first locker", x.at(2), 0);
        Check.due("16 step 2: the others in the next one", x.at(0), 1);
        x.sorts(0, 0);
        Scenes.at(x, 49);
        for (int i = 0; i < 3; i++) {
            Check.due("16 step 2: by rising numbers " + i, x.place(i), i);
            Check.due("16 step 2: scanned by rising numbers " + i, x.scan(x.scans() - 3 + i, 0), i);
        }
    }

    private static void fortyEightHours() {
        Ropewalk x = new Ropewalk();
        x.address(3, 0);
        x.address(3, 0);
        x.away(1, 0, 24);
        x.van(3, 9, 1);
        x.van(3, 9, 1);
        x.locker(3, 0, 0, 1);
        x.parcel(0, 0, 0, 1, 2, false);
        x.hour(1);
        x.sorts(3, 0);
        Scenes.at(x, 48);
        Check.due("16 step 2: there for 47 hours", x.where(0), Ropewalk.LOCKER);
        Check.due("16 step 2: its compartment is taken", x.free(0, 3), 0);
        Check.due("16 step 2: its failures", x.part(0, 2), 2);
        x.hour(1);
        Check.due("16 step 2: there for 48 hours", x.where(0), Ropewalk.UNSORTED);
        Check.due("16 step 2: at the locker's depot", x.at(0), 3);
        Check.due("16 step 2: its compartment is free", x.free(0, 3), 1);
        Check.due("16 step 2: a return", x.part(0, 3), 1);
        Check.due("16 step 2: its failures are 0", x.part(0, 2), 0);
        Check.due("16 step 2: its code is 0", x.part(0, 6), 0);
        Check.due("16 step 2: scanned BACK", x.scan(x.scans() - 1, 3), Ropewalk.BACK);
        Check.due("16 step 2: scanned now", x.scan(x.scans() - 1, 2), 49);
        Check.due("16 step 2: scanned there", x.scan(x.scans() - 1, 1), 3);
    }

    private static void depotsByNumbers() {
        Ropewalk x = new Ropewalk();
        for (int i = 0; i < 5; i++) {
            x.address(i, 0);
        }
        for (int i = 0; i < 5; i++) {
            x.parcel(0, i, 4 - i, 4 - i, 1, false);
        }
        x.hour(1);
        for (int i = 0; i < 5; i++) {
            Check.due("16 step 3: by rising numbers " + i, x.scan(5 + i, 1), i);
            Check.due("16 step 3: SORTED " + i, x.scan(5 + i, 3), Ropewalk.SORTED);
        }
    }

    private static void expressFirst() {
        Ropewalk x = new Ropewalk();
        x.address(0, 0);
        boolean[] isExpress = {false, true, false, true, true};
        for (int i = 0; i < 5; i++) {
            x.parcel(0, i, 0, 0, 1, isExpress[i]);
        }
        int[] order = {1, 3, 4, 0, 2};
        x.sorts(0, 1);
        for (int i = 0; i < 5; i++) {
            x.hour(1);
            Check.due("16 step 3: express ones, otherwise their order, " + i, x.scan(5 + i, 0), order[i]);
        }
        Check.due("16 step 3: one an hour", x.scans(), 10);
    }

    /** Three that the plan leads nowhere, and one for here; the depot sorts some of them. */
    private static void inVain() {
        for (int many = 0; many < 5; many++) {
            Ropewalk x = new Ropewalk();
            x.address(0, 0);
            x.address(1, 0);
            for (int i = 0; i < 3; i++) {
                x.parcel(0, i, 0, 1, 1, false);
            }
            x.parcel(0, 3, 0, 0, 1, false);
            x.sorts(0, many);
            x.hour(1);
            Check.due("16 step 3: those in vain count, of " + many, x.where(3), many < 4 ? Ropewalk.UNSORTED : Ropewalk.READY);
            for (int i = 0; i < 3; i++) {
                int ahead = Math.min(many, 3);
                int stay = many < 4 ? 4 : 3;
                int place = i < ahead ? stay - ahead + i : i - ahead;
                Check.due("16 step 3: behind all others, " + i + " of " + many, x.place(i), place);
            }
            Check.due("16 step 3: not scanned, of " + many, x.scans(), many < 4 ? 4 : 5);
        }
    }

    /** Those that come into a row, that are READY and that are HELD count among as many as the depot can. */
    private static void allCount() {
        for (int many = 0; many < 7; many++) {
            Ropewalk x = Scenes.pair(false);
            x.timetable(0, 20, 100, 1, 1, 0);
            for (int i = 0; i < 6; i++) {
                x.parcel(0, i, 0, i % 3 == 0 ? 2 : 1, 1, false);
                if (i % 3 == 1) {
                    x.doubt(i, 3);
                }
            }
            x.sorts(0, many);
            x.hour(1);
            Check.due("16 step 3: in a row, of " + many, x.count(Ropewalk.ROW), (many + 2) / 3);
            Check.due("16 step 3: HELD, of " + many, x.count(Ropewalk.HELD), (many + 1) / 3);
            Check.due("16 step 3: READY, of " + many, x.count(Ropewalk.READY), many / 3);
            Check.due("16 step 3: not sorted yet, of " + many, x.count(Ropewalk.UNSORTED), 6 - many);
            for (int i = 0; i < 6; i++) {
                int parcel = i;
                if (i < many) {
                    Check.refused("Terms: sorted, not fresh, " + i + " of " + many, Check.STATE, () -> x.worth(parcel, 1, 1));
                } else {
                    Check.due("Terms: fresh, " + i + " of " + many, x.worth(i, 1, 1), 1);
                    Check.due("16 step 3: its place, " + i + " of " + many, x.place(i), i - many);
                }
            }
        }
    }

    /** The plan tells none for this half: no lane is taken, though one leads there, and the other half has one. */
    private static void planOfTheHour() {
        for (int half = 0; half < 2; half++) {
            Ropewalk x = Scenes.at(Scenes.pair(false), half == 0 ? 0 : 12);
            x.plan(0, 1, half, Ropewalk.NONE);
            x.parcel(0, 0, 0, 2, 1, false);
            x.hour(1);
            Check.due("16 step 3: the plan tells none, half " + half, x.where(0), Ropewalk.UNSORTED);
            Check.due("16 step 3: at its depot still, half " + half, x.at(0), 0);
            Scenes.at(x, half == 0 ? 11 : 23);
            Check.due("16 step 3: till the half ends, half " + half, x.where(0), Ropewalk.UNSORTED);
            x.hour(1);
            Check.due("16 step 3: the other half's lane, half " + half, x.where(0), Ropewalk.LANE);
        }
    }

    /** The lane 0 leaves at 100, so that its row fills. */
    private static Ropewalk rowOf(int parcels) {
        Ropewalk x = Scenes.pair(false);
        x.timetable(0, 20, 100, 1, 1, 0);
        x.sorts(0, 40);
        for (int i = 0; i < parcels; i++) {
            x.parcel(0, i, 0, 2, 1, i == 20);
        }
        return x;
    }

    private static void rowOfTwenty() {
        Ropewalk x = rowOf(20);
        x.hour(1);
        Check.due("16 step 3: twenty in a row", x.count(Ropewalk.ROW), 20);
        Check.due("31 the last place of a row", x.place(19), 19);
        Ropewalk y = rowOf(20);
        y.parcel(0, 20, 0, 2, 1, false);
        y.hour(1);
        Check.due("16 step 3: not twenty-one", y.count(Ropewalk.ROW), 20);
        Check.due("16 step 3: it stays UNSORTED", y.where(20), Ropewalk.UNSORTED);
        Check.refused("16 step 3: it was sorted in vain", Check.STATE, () -> y.worth(20, 1, 0));
        Check.due("16 step 3: the row is its depot's", y.stock(0), 21);
        y.parcel(0, 21, 0, 1, 1, false);
        y.hour(1);
        Check.due("16 step 3: others go by", y.where(21), Ropewalk.READY);
        y.lane(0, 2, 1, false);
        y.address(2, 0);
        y.plan(0, 2, 0, 2);
        y.parcel(0, 22, 0, 4, 1, false);
        y.hour(1);
        Check.due("16 step 3: and by another lane", y.where(22), Ropewalk.LANE);
        Check.due("16 step 3: the first one waits", y.place(20), 0);
    }

    private static void rowHasRoomAgain() {
        Ropewalk x = rowOf(22);
        x.hour(1);
        Check.due("16 step 3: the express one is in the row", x.place(20), 0);
        Check.due("16 step 3: two of the others are not", x.count(Ropewalk.UNSORTED), 2);
        x.lose(0);
        x.hour(1);
        Check.due("16 step 3: room for one", x.where(19), Ropewalk.ROW);
        Check.due("16 step 3: behind others", x.place(19), 19);
        Check.due("16 step 3: none for the next one", x.where(21), Ropewalk.UNSORTED);
        x.timetable(0, 20, 3, 1, 20, 0);
        x.hour(1);
        Check.due("16 step 4: all twenty leave, behind the sorting", x.onLane(0), 20);
        Check.due("16 step 3: the row was full by then", x.where(21), Ropewalk.UNSORTED);
        x.hour(1);
        Check.due("16 step 3: the row is empty, so there is room", x.onLane(0), 21);
    }

    /** A full row is full for express ones too, and the lane of the other half is not taken in place of it. */
    private static void fullRowForAll() {
        Ropewalk x = rowOf(20);
        x.lane(0, 1, 1, false);
        x.plan(0, 1, 1, 2);
        x.hour(1);
        x.parcel(0, 20, 0, 2, 1, true);
        x.parcel(0, 21, 0, 2, 1, false);
        x.hour(1);
        Check.due("16 step 3: full for an express one", x.where(20), Ropewalk.UNSORTED);
        Check.due("16 step 3: full for another one", x.where(21), Ropewalk.UNSORTED);
        Check.due("16 step 3: twenty still", x.count(Ropewalk.ROW), 20);
    }

    /** The lane 0 is that of the first half, the lane 1 of the second. */
    private static void halves() {
        int[] hours = {1, 11, 12, 13, 23, 24, 25, 35, 36, 47, 48, 59, 60};
        for (int hour : hours) {
            Ropewalk x = new Ropewalk();
            x.lane(0, 1, 24, false);
            x.lane(0, 1, 24, false);
            x.plan(0, 1, 0, 0);
            x.plan(0, 1, 1, 1);
            x.address(0, 0);
            x.address(1, 0);
            Scenes.at(x, hour - 1);
            x.parcel(0, 0, 0, 1, 1, false);
            x.hour(1);
            Check.due("16 step 3: the half of the day at " + hour, x.at(0), hour % 24 < 12 ? 0 : 1);
        }
    }

    private static int waitsAt(int first, int every, int hour) {
        Ropewalk x = Scenes.pair(false);
        x.timetable(0, 1, first, every, 20, 0);
        Scenes.at(x, hour - 1);
        x.timetable(0, 1, first, every, 20, 24);
        x.hour(1);
        return x.waits(0);
    }

    private static void firstDeparture() {
        int[] firsts = {1, 2, 50, 99, 100};
        for (int first : firsts) {
            if (first > 1) {
                Check.due("16 step 4: not due ahead of the first one " + first, waitsAt(first, 1, first - 1), Ropewalk.NONE);
            }
            Check.due("16 step 4: due at the first one " + first, waitsAt(first, 48, first), 0);
            Check.due("16 step 4: not due behind it " + first, waitsAt(first, 48, first + 1), Ropewalk.NONE);
            Check.due("16 step 4: due behind it, each hour " + first, waitsAt(first, 1, first + 1), 0);
        }
        Check.due("16 step 4: the first one at 0, each hour", waitsAt(0, 1, 1), 0);
        Check.due("16 step 4: the first one at 0, not each hour", waitsAt(0, 2, 1), Ropewalk.NONE);
    }

    private static void everySoManyHours() {
        int[][] tables = {{0, 2}, {0, 48}, {3, 5}, {100, 48}, {100, 2}, {7, 24}};
        for (int[] table : tables) {
            for (int k = 1; k < 4; k++) {
                int due = table[0] + k * table[1];
                Check.due("16 step 4: not due ahead of " + due, waitsAt(table[0], table[1], due - 1), Ropewalk.NONE);
                Check.due("16 step 4: due at " + due, waitsAt(table[0], table[1], due), 0);
                Check.due("16 step 4: not due behind " + due, waitsAt(table[0], table[1], due + 1), Ropewalk.NONE);
            }
        }
    }

    private static void dueWhileOneWaits() {
        Ropewalk x = Scenes.pair(false);
        x.timetable(0, 1, 5, 3, 20, 24);
        Scenes.at(x, 5);
        for (int i = 0; i < 24; i++) {
            Check.due("16 step 4: it waits since the first one", x.waits(0), i);
            x.hour(1);
        }
        Check.due("16 step 4: 24 hours, with nothing it waits no more", x.waits(0), Ropewalk.NONE);
        x.hour(2);
        Check.due("16 step 4: none due at 31", x.waits(0), Ropewalk.NONE);
        x.hour(1);
        Check.due("16 step 4: the next one at 32", x.waits(0), 0);
    }

    private static int leftAtOnce(int parcels, int least) {
        Ropewalk x = Scenes.pair(false);
        x.timetable(0, 20, 1, 1, least, 1);
        x.sorts(0, 40);
        for (int i = 0; i < parcels; i++) {
            x.parcel(0, i, 0, 2, 1, false);
        }
        x.hour(1);
        return x.onLane(0);
    }

    private static void leastLoad() {
        Check.due("16 step 4: one is the least of 1", leftAtOnce(1, 1), 1);
        Check.due("16 step 4: none is less", leftAtOnce(0, 1), 0);
        Check.due("16 step 4: one is less than 2", leftAtOnce(1, 2), 0);
        Check.due("16 step 4: two are the least of 2", leftAtOnce(2, 2), 2);
        Check.due("16 step 4: three are more", leftAtOnce(3, 2), 3);
        Check.due("16 step 4: nineteen are less than 20", leftAtOnce(19, 20), 0);
        Check.due("16 step 4: twenty are the least of 20", leftAtOnce(20, 20), 20);
    }

    private static void patience() {
        int[] patiences = {0, 1, 2, 23, 24};
        for (int patience : patiences) {
            Ropewalk x = Scenes.pair(false);
            x.timetable(0, 10, 2, 48, 2, patience);
            x.parcel(0, 0, 0, 2, 1, false);
            if (patience > 0) {
                Scenes.at(x, 2 + patience - 1);
                Check.due("16 step 4: not as many hours yet " + patience, x.waits(0), patience - 1);
                Check.due("16 step 4: it waits for a load " + patience, x.where(0), Ropewalk.ROW);
            }
            Scenes.at(x, 2 + patience);
            Check.due("16 step 4: as many hours, with something " + patience, x.onLane(0), 1);
            Check.due("16 step 4: it waits no more " + patience, x.waits(0), Ropewalk.NONE);
        }
    }

    private static void emptyRow() {
        int[] patiences = {0, 1, 24};
        for (int patience : patiences) {
            Ropewalk x = Scenes.pair(false);
            x.timetable(0, 10, 2, 48, 1, patience);
            Scenes.at(x, 2 + patience);
            Check.due("16 step 4: with nothing it waits no more " + patience, x.waits(0), Ropewalk.NONE);
            Check.due("16 step 4: nothing left " + patience, x.onLane(0), 0);
            x.parcel(0, 0, 0, 2, 1, false);
            x.hour(1);
            Check.due("16 step 4: it has gone " + patience, x.where(0), Ropewalk.ROW);
        }
        Ropewalk y = Scenes.pair(false);
        y.timetable(0, 10, 2, 48, 1, 3);
        Scenes.at(y, 4);
        y.parcel(0, 0, 0, 2, 1, false);
        y.hour(1);
        Check.due("16 step 4: something in the row by then", y.onLane(0), 1);
        Ropewalk z = Scenes.pair(false);
        z.timetable(0, 10, 2, 48, 2, 24);
        Scenes.at(z, 5);
        z.parcel(0, 0, 0, 2, 1, false);
        z.timetable(0, 10, 2, 48, 2, 2);
        z.hour(1);
        Check.due("6 it goes on to wait, beyond a lesser patience", z.onLane(0), 1);
    }

    private static void room() {
        int[][] cases = {{1, 1, 1}, {1, 2, 1}, {2, 2, 2}, {2, 3, 2}, {19, 20, 19}, {20, 20, 20}};
        for (int[] c : cases) {
            Ropewalk x = Scenes.pair(false);
            x.timetable(0, c[0], 1, 48, 1, 0);
            x.sorts(0, 40);
            for (int i = 0; i < c[1]; i++) {
                x.parcel(0, i, 0, 2, 3, i == c[1] - 1);
            }
            x.hour(1);
            Check.due("16 step 4: a room of " + c[0] + " for " + c[1] + ", whatever their sizes", x.onLane(0), c[2]);
            Check.due("16 step 4: the express one is on it", x.where(c[1] - 1), Ropewalk.LANE);
            Check.due("16 step 4: the others stay", x.count(Ropewalk.ROW), c[1] - c[2]);
            Check.due("16 step 4: no trailer waits for them", x.waits(0), Ropewalk.NONE);
        }
    }

    /** Those that a trailer leaves behind keep their order; a place is told by that, express or not. */
    private static void restOfRow() {
        Ropewalk x = Scenes.pair(false);
        x.timetable(0, 1, 6, 1, 1, 0);
        for (int i = 0; i < 5; i++) {
            x.parcel(0, i, 0, 2, 1, i > 2);
            x.hour(1);
            Check.due("31 behind others in the row, express or not " + i, x.place(i), i);
        }
        x.hour(1);
        Check.due("16 step 4: the first express one left", x.where(3), Ropewalk.LANE);
        int[] places = {0, 1, 2, Ropewalk.NONE, 3};
        for (int i = 0; i < 5; i++) {
            Check.due("31 the others keep their order " + i, x.place(i), places[i]);
        }
        int[] order = {4, 0, 1, 2};
        for (int parcel : order) {
            x.hour(1);
            Check.due("16 step 4: then one an hour, " + parcel, x.scan(x.scans() - 1, 0), parcel);
            Check.due("31 it has no place, " + parcel, x.place(parcel), Ropewalk.NONE);
        }
        Ropewalk y = Scenes.pair(false);
        y.timetable(0, 1, 2, 48, 2, 24);
        y.parcel(0, 0, 0, 2, 1, false);
        y.hour(3);
        y.timetable(0, 1, 2, 48, 1, 24);
        Check.due("32 it waits still, until the next hour", y.waits(0), 1);
        y.hour(1);
        Check.due("32 it has left", y.waits(0), Ropewalk.NONE);
    }

    private static void lanesLeaveByNumbers() {
        Ropewalk x = new Ropewalk();
        x.lane(1, 2, 3, false);
        x.lane(0, 2, 3, false);
        x.plan(1, 2, 0, 0);
        x.plan(0, 2, 0, 1);
        x.address(0, 0);
        x.address(1, 0);
        x.address(2, 0);
        x.parcel(0, 0, 0, 2, 1, false);
        x.parcel(0, 1, 1, 2, 1, false);
        x.hour(1);
        Check.due("16 step 4: the lower lane first", x.scan(4, 0), 1);
        Check.due("16 step 4: LEFT", x.scan(4, 3), Ropewalk.LEFT);
        Check.due("16 step 4: the depot from which it leads", x.scan(4, 1), 1);
        Check.due("16 step 4: then the higher", x.scan(5, 0), 0);
    }

    private static void severalTrailers() {
        Ropewalk x = Scenes.pair(false);
        x.sorts(1, 0);
        for (int i = 0; i < 4; i++) {
            x.parcel(0, i, 0, 2, 1, false);
            x.hour(1);
            Check.due("16 step 4: trailers of an hour each " + i, x.onLane(0), Math.min(i + 1, 3));
        }
        for (int i = 0; i < 4; i++) {
            Check.due("16 step 1: each comes in its hour " + i, x.where(i), i == 0 ? Ropewalk.UNSORTED : Ropewalk.LANE);
        }
        x.hour(3);
        for (int i = 0; i < 4; i++) {
            Check.due("16 step 1: one behind the other " + i, x.place(i), i);
        }
    }

    /** Cash of a van that is back at the hours 23, 24 and 25. */
    private static void midnight() {
        int[] starts = {23, 0, 1};
        for (int start : starts) {
            Ropewalk x = new Ropewalk();
            x.address(4, 0);
            x.sorts(4, 0);
            x.parcel(2, 0, 0, 0, 1, false);
            x.worth(0, 0, 500);
            x.van(4, 1, start);
            x.hour(22);
            x.sorts(4, 1);
            Scenes.at(x, start == 23 ? 23 : 24 + start);
            Check.due("16 handed at the start " + start, x.where(0), Ropewalk.HANDED);
            Check.due("16 step 6: cash is paid in the hour 0 alone, " + start, x.cash(4), start == 0 ? 0 : 500);
            Check.due("16 step 6: to the customer, " + start, x.account(2), start == 0 ? 500 : 0);
            Scenes.at(x, start == 1 ? 47 : 24);
            Check.due("16 step 6: by midnight, not ahead of it, " + start, x.account(2), start == 1 ? 0 : 500);
            Scenes.at(x, 48);
            Check.due("16 step 6: once, " + start, x.account(2), 500);
            Check.due("16 step 6: none is left, " + start, x.cash(4), 0);
        }
    }

    /** Two days with a parcel each: the answer is for all hours of the call. */
    private static void handedAreCounted() {
        Ropewalk x = new Ropewalk();
        x.address(0, 0);
        x.away(0, 0, 24);
        x.van(0, 1, 1);
        x.van(1, 1, 24 - 1);
        x.address(1, 0);
        x.parcel(0, 0, 0, 0, 1, false);
        x.parcel(0, 1, 1, 1, 1, false);
        Check.due("16 one in the hour 23", x.hour(23), 1);
        Check.due("16 none of those that failed", x.part(0, 2), 1);
        x.away(0, 0, 0);
        x.parcel(0, 2, 1, 1, 1, false);
        x.hour(1);
        Check.due("16 both, in the hours 25 and 47", x.hour(24), 2);
        Check.due("16 three are", x.count(Ropewalk.HANDED), 3);
    }
}
