/** Promise 44: what is foreseen, sentence by sentence, with each bound. */
public final class ForeseenEdgeTest {
    public static void main(String[] args) {
        vanThenOrLater();
        readyOnes();
        readyFromNextHour();
        halves();
        departures();
        fromRow();
        fromRowAndBack();
        onTheWay();
        roomEverywhere();
        noLoadNobodyAhead();
        lastOfForty();
        customs();
        doubts();
        noneAtOnce();
        nowhere();
        tenLanes();
        returns();
        behindSixHundred();
        Check.end();
    }

    /** A parcel of the depot 0 for itself, told at this clock, and a van of this start. */
    private static int foreseenAt(int clock, int start) {
        Ropewalk x = new Ropewalk();
        x.address(0, 0);
        x.van(0, 1, start);
        Scenes.at(x, clock);
        x.parcel(0, 0, 0, 0, 1, false);
        return x.foreseen(0);
    }

    private static void vanThenOrLater() {
        Check.due("44 the start in the hour in which it is sorted", foreseenAt(0, 1), 1);
        Check.due("44 the start an hour later", foreseenAt(0, 2), 2);
        Check.due("44 the start an hour ahead is a day later", foreseenAt(0, 0), 24);
        Check.due("44 the last start of the day", foreseenAt(0, 23), 23);
        Check.due("44 sorted in the hour 23", foreseenAt(22, 23), 23);
        Check.due("44 sorted at midnight", foreseenAt(23, 0), 24);
        Check.due("44 sorted at midnight, a start at 23", foreseenAt(23, 23), 47);
        Check.due("44 sorted behind midnight", foreseenAt(24, 0), 48);
        Check.due("44 days later", foreseenAt(100, 5), 101);
        Check.due("44 days later, an hour too late", foreseenAt(101, 5), 125);
        Ropewalk x = new Ropewalk();
        x.address(0, 0);
        x.parcel(0, 0, 0, 0, 1, false);
        Check.due("44 no van", x.foreseen(0), Ropewalk.NONE);
        x.van(4, 1, 1);
        Check.due("44 none there", x.foreseen(0), Ropewalk.NONE);
        x.van(0, 1, 0);
        x.van(0, 1, 20);
        x.van(0, 1, 10);
        Check.due("44 the first of all vans there", x.foreseen(0), 10);
    }

    /** What is foreseen comes so. */
    private static void readyOnes() {
        for (int start = 0; start < 24; start++) {
            Ropewalk x = Scenes.pair(false);
            x.van(1, 9, start);
            x.timetable(0, 1, 6, 5, 1, 0);
            x.parcel(0, 0, 0, 2, 1, false);
            int due = x.foreseen(0);
            Scenes.at(x, due - 1);
            Check.due("44 not given an hour ahead of what was foreseen, start " + start, x.count(Ropewalk.HANDED), 0);
            Check.due("44 foreseen still, start " + start, x.foreseen(0), due);
            Check.due("44 given then, start " + start, x.hour(1), 1);
        }
    }

    private static void readyFromNextHour() {
        Ropewalk x = new Ropewalk();
        x.address(0, 0);
        x.parcel(0, 0, 0, 0, 1, false);
        x.hour(5);
        x.van(0, 1, 5);
        Check.due("44 READY, the start in this hour has gone", x.foreseen(0), 29);
        x.van(0, 1, 4);
        Check.due("44 the start an hour ahead too", x.foreseen(0), 28);
        x.van(0, 1, 6);
        Check.due("44 READY, the start in the next hour", x.foreseen(0), 6);
    }

    /** The lane 0, of one hour, is that of the first half; the lane 1, of two, that of the second. */
    private static void halves() {
        int[][] cases = {{0, 2}, {10, 12}, {11, 14}, {12, 15}, {22, 25}, {23, 25}, {24, 26}, {34, 36}, {35, 38}};
        for (int[] c : cases) {
            Ropewalk x = new Ropewalk();
            x.lane(0, 1, 1, false);
            x.lane(0, 1, 2, false);
            x.plan(0, 1, 0, 0);
            x.plan(0, 1, 1, 1);
            x.address(0, 0);
            x.address(1, 0);
            x.van(1, 1, c[1] % 24);
            Scenes.at(x, c[0]);
            x.parcel(0, 0, 0, 1, 1, false);
            Check.due("44 by the plan of the hour behind " + c[0], x.foreseen(0), c[1]);
            Ropewalk y = new Ropewalk();
            y.lane(0, 1, 1, false);
            y.lane(0, 1, 2, false);
            y.plan(0, 1, 0, 0);
            y.plan(0, 1, 1, 1);
            y.address(0, 0);
            y.address(1, 0);
            y.van(1, 1, (c[1] + 23) % 24);
            Scenes.at(y, c[0]);
            y.parcel(0, 0, 0, 1, 1, false);
            Check.due("44 not an hour ahead of that, behind " + c[0], y.foreseen(0), c[1] + 23);
        }
    }

    /** The hour at which a lane is left, told by a van of each hour at its end. */
    private static Ropewalk everyHour(int first, int every) {
        Ropewalk x = new Ropewalk();
        x.lane(0, 1, 1, false);
        x.timetable(0, 1, first, every, 1, 0);
        x.plan(0, 1, 0, 0);
        x.plan(0, 1, 1, 0);
        x.address(0, 0);
        x.address(1, 0);
        return x;
    }

    /** What is foreseen is the first start of six vans; each of the day's hours has a van in one of four objects. */
    private static int leftAt(int first, int every, int clock) {
        int best = Integer.MAX_VALUE;
        for (int k = 0; k < 4; k++) {
            Ropewalk x = everyHour(first, every);
            for (int i = 0; i < 6; i++) {
                x.van(1, 1, 6 * k + i);
            }
            Scenes.at(x, clock);
            x.parcel(0, 0, 0, 1, 1, false);
            best = Math.min(best, x.foreseen(0));
        }
        return best - 1;
    }

    private static void departures() {
        int[][] cases = {
            // first, every, clock, and when it is left
            {0, 1, 0, 1}, {1, 48, 0, 1}, {2, 48, 0, 2}, {1, 48, 1, 49}, {100, 48, 0, 100}, {100, 48, 98, 100},
            {100, 48, 99, 100}, {100, 48, 100, 148}, {100, 1, 100, 101}, {0, 48, 0, 48}, {0, 48, 47, 48}, {0, 48, 48, 96},
            {3, 5, 0, 3}, {3, 5, 2, 3}, {3, 5, 3, 8}, {3, 5, 6, 8}, {3, 5, 7, 8}, {3, 5, 8, 13},
        };
        for (int[] c : cases) {
            String what = "44 the first one " + c[0] + ", each " + c[1] + " hours, told at " + c[2];
            Check.due(what, leftAt(c[0], c[1], c[2]), c[3]);
        }
    }

    private static void fromRow() {
        Ropewalk x = everyHour(6, 5);
        x.van(1, 1, 7);
        x.van(1, 1, 12);
        x.timetable(0, 1, 90, 5, 1, 0);
        x.parcel(0, 0, 0, 1, 1, false);
        x.hour(5);
        Check.due("44 in the row", x.where(0), Ropewalk.ROW);
        x.timetable(0, 1, 6, 5, 1, 0);
        Check.due("44 left in the next hour", x.foreseen(0), 7);
        x.timetable(0, 1, 5, 6, 1, 0);
        Check.due("44 not in this hour", x.foreseen(0), 12);
        x.plan(0, 1, 0, Ropewalk.NONE);
        x.plan(0, 1, 1, Ropewalk.NONE);
        Check.due("44 by the lane of the row, whatever the plan tells now", x.foreseen(0), 12);
    }

    /** In the row it is resolved to be for the depot where it is: it goes all the same, and comes back. */
    private static void fromRowAndBack() {
        Ropewalk x = Scenes.pair(false);
        x.timetable(0, 1, 5, 1, 1, 1);
        x.van(0, 1, 11);
        x.van(0, 1, 10);
        x.parcel(0, 0, 0, 2, 1, false);
        x.doubt(0, 1);
        x.hour(1);
        Check.due("17 the depot where it is", x.resolve(0, true), 0);
        Check.due("17 only one that is HELD is UNSORTED then", x.where(0), Ropewalk.ROW);
        Check.due("31 its place in the row stays", x.place(0), 0);
        Check.due("44 left at 5, at the other end at 8, back at 11", x.foreseen(0), 11);
        Scenes.at(x, 10);
        Check.due("44 on its way back", x.foreseen(0), 11);
        Check.due("44 it comes so", x.hour(1), 1);
    }

    private static void onTheWay() {
        Ropewalk x = Scenes.pair(false);
        x.van(1, 1, 4);
        x.parcel(0, 0, 0, 2, 1, false);
        x.hour(1);
        Check.due("44 left at 1, it comes at 4", x.foreseen(0), 4);
        x.hour(2);
        Check.due("44 an hour ahead of that", x.foreseen(0), 4);
        x.hour(1);
        Check.due("44 HANDED", x.foreseen(0), Ropewalk.NONE);
        Ropewalk y = Scenes.pair(false);
        y.van(0, 1, 7);
        y.van(1, 1, 5);
        y.parcel(0, 0, 0, 2, 1, false);
        y.hour(2);
        y.giveBack(0);
        Check.due("44 comes at 4, is sorted then, and back at 7", y.foreseen(0), 7);
        y.plan(1, 0, 0, Ropewalk.NONE);
        Check.due("44 no plan back", y.foreseen(0), Ropewalk.NONE);
        y.forward(0, 3);
        Check.due("44 forwarded to where it goes", y.foreseen(0), 5);
    }

    private static void roomEverywhere() {
        Ropewalk x = Scenes.pair(false);
        x.timetable(0, 1, 90, 1, 1, 0);
        x.sorts(0, 40);
        for (int i = 0; i < 20; i++) {
            x.parcel(0, i, 0, 2, 3, false);
        }
        x.hour(1);
        x.van(1, 1, 10);
        x.timetable(0, 1, 5, 1, 1, 0);
        x.parcel(0, 20, 0, 2, 3, false);
        Check.due("44 as if there was room in the row, the trailer and the van", x.foreseen(20), 10);
        x.sorts(0, 0);
        x.sorts(1, 0);
        Check.due("44 as if the depots sorted", x.foreseen(20), 10);
        Check.due("44 the last one of the row as the first one", x.foreseen(19), x.foreseen(0));
    }

    private static void noLoadNobodyAhead() {
        Ropewalk x = Scenes.pair(false);
        x.timetable(0, 1, 2, 48, 20, 24);
        x.van(1, 1, 5);
        x.parcel(0, 0, 0, 2, 1, false);
        x.parcel(0, 1, 0, 2, 1, true);
        Check.due("44 left at 2, though it will wait for a load", x.foreseen(0), 5);
        Check.due("44 as one that is express", x.foreseen(1), 5);
        x.hour(2);
        Check.due("44 a trailer waits", x.waits(0), 0);
        Check.due("44 but what is asked is the first departure that is due, at 50", x.foreseen(0), 53);
    }

    private static void lastOfForty() {
        Ropewalk x = Scenes.pair(false);
        x.van(1, 1, 4);
        for (int i = 0; i < 40; i++) {
            x.parcel(0, i, 0, 2, 1, i < 39);
        }
        Check.due("44 no parcel ahead, though 39 are", x.foreseen(39), 4);
        x.hour(1);
        Check.due("44 UNSORTED behind many", x.foreseen(39), 28);
    }

    private static int overBorder(boolean crosses, int value, boolean isPaid) {
        Ropewalk x = Scenes.pair(crosses);
        x.van(1, 1, 4);
        x.parcel(0, 0, 0, 2, 1, false);
        x.worth(0, value, 0);
        if (isPaid) {
            x.duty(0);
        }
        int foreseen = x.foreseen(0);
        x.timetable(0, 1, 9, 1, 1, 0);
        x.hour(1);
        int row = x.foreseen(0);
        Check.due("44 in the row likewise", row, foreseen == Ropewalk.NONE ? Ropewalk.NONE : 28);
        x.timetable(0, 1, 2, 1, 1, 0);
        x.hour(1);
        Check.due("44 on the lane likewise", x.foreseen(0), foreseen == Ropewalk.NONE ? Ropewalk.NONE : 28);
        return foreseen;
    }

    private static void customs() {
        Check.due("44 a border, the value 0", overBorder(true, 0, false), 4);
        Check.due("44 a border, the value 1: would be HELD", overBorder(true, 1, false), Ropewalk.NONE);
        Check.due("44 a border, its duty was paid", overBorder(true, 1, true), 4);
        Check.due("44 no border, the value 1000", overBorder(false, 1000, false), 4);
        Ropewalk x = Scenes.pair(true);
        x.van(0, 1, 4);
        x.parcel(0, 0, 0, 1, 1, false);
        x.worth(0, 1000, 0);
        Check.due("44 no lane, no border", x.foreseen(0), 4);
    }

    private static void doubts() {
        Ropewalk x = Scenes.pair(false);
        x.van(0, 1, 4);
        x.van(1, 1, 4);
        x.parcel(0, 0, 0, 2, 1, false);
        x.doubt(0, 1);
        Check.due("44 would be HELD at its target", x.foreseen(0), Ropewalk.NONE);
        x.hour(1);
        Check.due("44 on its way likewise", x.foreseen(0), Ropewalk.NONE);
        x.resolve(0, false);
        Check.due("44 resolved, it would not", x.foreseen(0), 4);
    }

    private static void noneAtOnce() {
        Ropewalk x = Scenes.busy();
        for (int depot = 0; depot < 4; depot++) {
            x.van(depot, 1, 5);
        }
        int[] none = {0, 4, 5, 6, 7, 8, 9, 10, 11, 12};
        for (int parcel : none) {
            Check.due("44 nowhere, VAN, LOCKER, HELD, HANDED, LOST or with a doubt " + parcel, x.foreseen(parcel), Ropewalk.NONE);
        }
        Check.due("44 ROW has one", x.foreseen(1), 125);
        Check.due("44 LANE has one", x.foreseen(2), 73);
        Check.due("44 READY has one", x.foreseen(3), 53);
        Check.due("44 no van there", x.foreseen(13), Ropewalk.NONE);
    }

    private static void nowhere() {
        Ropewalk x = Scenes.pair(false);
        x.address(2, 0);
        x.van(2, 1, 1);
        x.parcel(0, 0, 0, 4, 1, false);
        Check.due("44 no plan towards it", x.foreseen(0), Ropewalk.NONE);
        for (int half = 0; half < 2; half++) {
            x.plan(0, 2, half, 0);
        }
        Check.due("44 none from the next depot", x.foreseen(0), Ropewalk.NONE);
        for (int half = 0; half < 2; half++) {
            x.plan(1, 2, half, 1);
        }
        Check.due("44 to and fro without an end", x.foreseen(0), Ropewalk.NONE);
        x.lane(1, 2, 24, false);
        x.plan(1, 2, 1, 2);
        // To and fro in the first halves; from 1, in a second half, to 2.
        Check.due("44 1 to 4, 4 to 7, 7 to 10, 10 to 13, then 24 hours", x.foreseen(0), 49);
    }

    /** A ring of four depots: towards the depot 4 the plan leads around, until the second half. */
    private static int around(int lanes, int where) {
        Ropewalk x = new Ropewalk();
        for (int i = 0; i < 4; i++) {
            x.lane(i, (i + 1) % 4, 1, false);
            x.plan(i, 4, 0, i);
        }
        for (int i = 0; i < 4; i++) {
            x.lane(i, 4, 1, false);
            x.plan(i, 4, 1, 4 + i);
        }
        x.address(0, 0);
        x.address(4, 0);
        x.van(4, 1, 13);
        // Each lane takes an hour, and at 12 the last one is left.
        int sorted = 13 - lanes;
        if (where == Ropewalk.ROW) {
            x.timetable(0, 1, sorted + 1, 1, 1, 0);
        }
        Scenes.at(x, sorted - 1);
        x.parcel(0, 0, 0, 1, 1, false);
        if (where != Ropewalk.UNSORTED) {
            x.hour(1);
        }
        Check.due("44 it is there", x.where(0), where);
        return x.foreseen(0);
    }

    private static void tenLanes() {
        Check.due("44 one lane", around(1, Ropewalk.UNSORTED), 13);
        Check.due("44 nine lanes", around(9, Ropewalk.UNSORTED), 13);
        Check.due("44 ten lanes", around(10, Ropewalk.UNSORTED), 13);
        Check.due("44 eleven lanes", around(11, Ropewalk.UNSORTED), Ropewalk.NONE);
        Check.due("44 twelve lanes", around(12, Ropewalk.UNSORTED), Ropewalk.NONE);
        // In the row an hour goes by, and on its way the first lane was left: one lane less is to be left.
        Check.due("44 ten lanes from the row", around(11, Ropewalk.ROW), 13);
        Check.due("44 eleven lanes from the row", around(12, Ropewalk.ROW), Ropewalk.NONE);
        Check.due("44 ten lanes behind the one that it is on", around(11, Ropewalk.LANE), 13);
        Check.due("44 eleven lanes behind the one that it is on", around(12, Ropewalk.LANE), Ropewalk.NONE);
    }

    private static void returns() {
        Ropewalk x = Scenes.pair(false);
        x.van(0, 1, 5);
        x.van(1, 1, 6);
        x.parcel(0, 0, 0, 2, 1, false);
        Check.due("44 to its receiver", x.foreseen(0), 6);
        x.giveBack(0);
        Check.due("44 a return to its sender", x.foreseen(0), 5);
        x.doubt(0, 1);
        Check.due("44 a return with a doubt would be HELD", x.foreseen(0), Ropewalk.NONE);
    }

    private static void behindSixHundred() {
        Ropewalk x = Scenes.at(Scenes.pair(false), 600);
        x.van(1, 1, 5);
        x.parcel(0, 0, 0, 2, 1, false);
        Check.due("44 the hour foreseen may be one that never comes", x.foreseen(0), 605);
        x.parcel(0, 1, 2, 2, 1, false);
        Check.due("44 likewise", x.foreseen(1), 605);
    }
}
