/** Promise 16, what is told under Rounds and Lockers, sentence by sentence, with each bound; and promise 23, fetch. */
public final class RoundEdgeTest {
    public static void main(String[] args) {
        vansByNumbers();
        vanBehindVan();
        ownDepot();
        fits();
        order();
        steps();
        spotZero();
        fiveMinutes();
        fiveMinutesBehindWindow();
        waitsForWindow();
        endOfWindow();
        behindMidnight();
        nobodyAtHome();
        awayOfReturn();
        hoursBehindTheStart();
        cashOnVan();
        cashOfReturn();
        backAtOnce();
        beginsWhenBack();
        emptyRound();
        twoFailures();
        threeFailures();
        returnsThreeFailures();
        noReturnInLocker();
        compartments();
        orderOfFailed();
        codes();
        leavesLocker();
        Check.end();
    }

    private static Ropewalk depot(int spot) {
        Ropewalk x = new Ropewalk();
        x.address(0, spot);
        x.sorts(0, 40);
        return x;
    }

    private static void vansByNumbers() {
        Ropewalk x = depot(60);
        x.van(0, 1, 5);
        x.van(0, 1, 5);
        for (int i = 0; i < 3; i++) {
            x.parcel(0, i, 0, 0, 1, false);
        }
        x.hour(5);
        Check.due("16 step 5: the lower van takes the first one", x.at(0), 0);
        Check.due("16 step 5: the next van the next one", x.at(1), 1);
        Check.due("16 step 5: the last one stays", x.where(2), Ropewalk.READY);
        Check.due("34 one each", x.onVan(0) + x.onVan(1), 2);
    }

    /** At 6 one van comes back with a parcel that failed, and one starts: it takes it if its number is the higher one. */
    private static void vanBehindVan() {
        for (int first = 5; first < 7; first++) {
            Ropewalk x = depot(30);
            x.away(0, 0, 24);
            x.van(0, 9, first);
            x.van(0, 9, 11 - first);
            x.parcel(0, 0, 0, 0, 1, false);
            x.hour(6);
            Check.due("16 step 5: it failed once, the lower van starts at " + first, x.part(0, 2), 1);
            int due = first == 5 ? Ropewalk.VAN : Ropewalk.READY;
            Check.due("16 step 5: a van ends and begins ahead of the next one, the lower starts at " + first, x.where(0), due);
        }
    }

    private static void ownDepot() {
        Ropewalk x = depot(60);
        x.address(1, 60);
        x.van(1, 9, 5);
        x.parcel(0, 0, 0, 0, 1, false);
        x.parcel(0, 1, 1, 1, 1, false);
        x.hour(4);
        Check.due("16 step 5: not an hour ahead of its start", x.onVan(0), 0);
        x.hour(1);
        Check.due("16 of its depot alone", x.onVan(0), 1);
        Check.due("16 that of another one stays", x.where(0), Ropewalk.READY);
        Check.due("16 OUT is scanned at the van's depot", x.scan(x.scans() - 1, 1), 1);
    }

    /** By their order: sizes 2, 2, 3 and 1. */
    private static void fits() {
        int[][] cases = {{1, 0b1000}, {2, 0b0001}, {3, 0b1001}, {4, 0b0011}, {5, 0b1011}, {6, 0b1011}, {7, 0b0111}, {8, 0b1111}};
        int[] sizes = {2, 2, 3, 1};
        for (int[] c : cases) {
            Ropewalk x = depot(60);
            x.van(0, c[0], 5);
            for (int i = 0; i < 4; i++) {
                x.parcel(0, i, 0, 0, sizes[i], false);
            }
            x.hour(5);
            for (int i = 0; i < 4; i++) {
                int due = (c[1] >> i & 1) == 1 ? Ropewalk.VAN : Ropewalk.READY;
                Check.due("16 the first that fits, room " + c[0] + ", parcel " + i, x.where(i), due);
            }
        }
    }

    /** Express, then the earlier end, then the lower number; the begin of the window does not count. */
    private static void order() {
        Ropewalk x = depot(60);
        x.van(0, 30, 5);
        int[][] windows = {{0, 24}, {9, 23}, {0, 24}, {0, 24}, {0, 20}, {8, 9}, {22, 24}, {7, 20}};
        for (int i = 0; i < windows.length; i++) {
            x.parcel(0, i, 0, 0, 1, i == 2 || i == 6);
            x.promise(i, windows[i][0], windows[i][1], 100);
        }
        x.hour(5);
        int[] order = {2, 6, 5, 4, 7, 1, 0, 3};
        for (int i = 0; i < order.length; i++) {
            Check.due("16 the order of a round, " + i, x.scan(16 + i, 0), order[i]);
            Check.due("16 scanned OUT, " + i, x.scan(16 + i, 3), Ropewalk.OUT);
        }
    }

    /** The hour of the clock at which a parcel was GIVEN or FAILED; NONE if it was not. */
    private static int hourOf(Ropewalk x, int parcel, int kind) {
        for (int i = 0; i < x.scans(); i++) {
            if (x.scan(i, 0) == parcel && x.scan(i, 3) == kind) {
                return x.scan(i, 2);
            }
        }
        return Ropewalk.NONE;
    }

    /** Two parcels, of these spots; the second one's stop is at the minute 5 + 2 first + 2 between. */
    private static int hourOfSecond(int first, int second) {
        Ropewalk x = depot(first);
        x.address(0, second);
        x.van(0, 30, 5);
        x.parcel(0, 0, 0, 0, 1, false);
        x.parcel(0, 1, 0, 1, 1, false);
        Scenes.at(x, 12);
        return hourOf(x, 1, Ropewalk.GIVEN) - 5;
    }

    private static void steps() {
        Check.due("16 the minute 59", hourOfSecond(0, 27), 0);
        Check.due("16 the minute 61", hourOfSecond(0, 28), 1);
        Check.due("16 the minute 59, to and fro", hourOfSecond(15, 3), 0);
        Check.due("16 the minute 61, to and fro", hourOfSecond(15, 2), 1);
        Check.due("16 the minute 119", hourOfSecond(27, 57), 1);
        Check.due("16 the minute 121", hourOfSecond(28, 58), 2);
        Check.due("16 the same spot", hourOfSecond(27, 27), 0);
        Check.due("16 the farthest", hourOfSecond(60, 0), 4);
    }

    /** The second round begins at the spot 0 again. */
    private static void spotZero() {
        Ropewalk x = depot(60);
        x.van(0, 30, 5);
        x.parcel(0, 0, 0, 0, 1, false);
        Scenes.at(x, 8);
        x.parcel(0, 1, 0, 0, 1, false);
        Scenes.at(x, 32);
        Check.due("16 the first round", hourOf(x, 0, Ropewalk.GIVEN), 7);
        Check.due("16 the van stands at the spot 0 again", hourOf(x, 1, Ropewalk.GIVEN), 31);
    }

    /** Three stops at one spot, at the minutes 50, 55 and 60; the first one fails. */
    private static void fiveMinutes() {
        Ropewalk x = depot(25);
        x.address(0, 25);
        x.away(0, 0, 24);
        x.van(0, 30, 5);
        x.parcel(0, 0, 0, 0, 1, false);
        x.parcel(0, 1, 0, 1, 1, false);
        x.parcel(0, 2, 0, 1, 1, false);
        Check.due("16 at the minute 55", x.hour(5), 1);
        Check.due("16 one failed", x.part(0, 2), 1);
        Check.due("16 it stays on the van", x.where(0), Ropewalk.VAN);
        Check.due("16 at the minute 60, whatever came of the first one", x.hour(1), 1);
        Check.due("16 READY behind the last stop", x.where(0), Ropewalk.READY);
    }

    /** The first one's window has ended by the start; its stop takes its minutes all the same. */
    private static void fiveMinutesBehindWindow() {
        Ropewalk x = depot(25);
        x.van(0, 30, 5);
        for (int i = 0; i < 3; i++) {
            x.parcel(0, i, 0, 0, 1, false);
        }
        x.promise(0, 0, 5, 100);
        Check.due("16 at the minute 55, behind one that failed", x.hour(5), 1);
        Check.due("16 behind its window it failed", x.part(0, 2), 1);
        Check.due("16 at the minute 60", x.hour(1), 1);
    }

    private static Ropewalk withWindow(int spot, int start, int from, int to) {
        Ropewalk x = depot(spot);
        x.van(0, 30, start);
        x.parcel(0, 0, 0, 0, 1, false);
        x.promise(0, from, to, 100);
        Scenes.at(x, 24);
        return x;
    }

    private static void waitsForWindow() {
        Check.due("16 in the window at once", hourOf(withWindow(0, 9, 9, 10), 0, Ropewalk.GIVEN), 9);
        Check.due("16 an hour ahead, it waits", hourOf(withWindow(0, 9, 10, 11), 0, Ropewalk.GIVEN), 10);
        Check.due("16 a minute ahead or two, it waits", hourOf(withWindow(29, 9, 10, 11), 0, Ropewalk.GIVEN), 10);
        Check.due("16 there when it begins", hourOf(withWindow(30, 9, 10, 11), 0, Ropewalk.GIVEN), 10);
        Check.due("16 many hours ahead", hourOf(withWindow(0, 1, 23, 24), 0, Ropewalk.GIVEN), 23);
        Ropewalk x = depot(0);
        x.address(0, 27);
        x.address(0, 28);
        x.van(0, 30, 5);
        for (int i = 0; i < 3; i++) {
            x.parcel(0, i, 0, i % 2, 1, i == 0);
        }
        x.promise(0, 9, 10, 100);
        Scenes.at(x, 15);
        Check.due("16 waits until 9 o'clock", hourOf(x, 0, Ropewalk.GIVEN), 9);
        Check.due("16 goes on from there, at the minute 59", hourOf(x, 1, Ropewalk.GIVEN), 9);
        Check.due("16 and back, at the minute 118", hourOf(x, 2, Ropewalk.GIVEN), 10);
    }

    private static void endOfWindow() {
        Check.due("16 the last hour of the window", hourOf(withWindow(29, 9, 0, 10), 0, Ropewalk.GIVEN), 9);
        Ropewalk x = withWindow(30, 9, 0, 10);
        Check.due("16 the end of the window", hourOf(x, 0, Ropewalk.FAILED), 10);
        Check.due("16 it failed once", x.part(0, 2), 1);
        Check.due("16 behind the end", hourOf(withWindow(60, 9, 0, 10), 0, Ropewalk.FAILED), 11);
        Check.due("16 a start behind the end", hourOf(withWindow(0, 9, 0, 1), 0, Ropewalk.FAILED), 9);
        Check.due("16 the end is not ahead", hourOf(withWindow(30, 9, 0, 11), 0, Ropewalk.GIVEN), 10);
    }

    /** A stop at 23 o'clock, and one behind it, of so many steps: at the minute 5 + 2 steps. */
    private static Ropewalk lateStop(int steps) {
        Ropewalk x = depot(0);
        x.address(0, steps);
        x.van(0, 30, 9);
        x.parcel(0, 0, 0, 0, 1, true);
        x.parcel(0, 1, 0, 1, 1, false);
        x.promise(0, 23, 24, 100);
        Scenes.at(x, 30);
        return x;
    }

    private static void behindMidnight() {
        Ropewalk x = lateStop(27);
        Check.due("16 in the last minute of the day", hourOf(x, 1, Ropewalk.GIVEN), 23);
        Ropewalk y = lateStop(28);
        Check.due("16 the first one", hourOf(y, 0, Ropewalk.GIVEN), 23);
        Check.due("16 behind midnight it fails, though its window is all day", hourOf(y, 1, Ropewalk.FAILED), 24);
        Check.due("16 in the hour 0 it is READY again", y.where(1), Ropewalk.READY);
    }

    private static Ropewalk awayAt(int hour, int days) {
        Ropewalk x = depot(0);
        x.away(0, 9, 11);
        x.van(0, 1, hour);
        Scenes.at(x, 24 * days + hour - 1);
        x.parcel(0, 0, 0, 0, 1, false);
        x.hour(1);
        return x;
    }

    private static void nobodyAtHome() {
        int[] hours = {8, 9, 10, 11};
        for (int days = 0; days < 3; days++) {
            for (int hour : hours) {
                int due = hour == 9 || hour == 10 ? Ropewalk.READY : Ropewalk.HANDED;
                Check.due("16 nobody at home from 9 to 11: at " + hour + " behind " + days + " days", awayAt(hour, days).where(0), due);
            }
        }
        Ropewalk x = depot(60);
        x.van(0, 1, 9);
        x.parcel(0, 0, 0, 0, 1, false);
        x.hour(10);
        x.away(0, 11, 12);
        x.hour(1);
        Check.due("16 what is told while it is on its way", x.part(0, 2), 1);
    }

    /** The sender of a return is asked for, not its receiver; its spot is that of the sender too. */
    private static void awayOfReturn() {
        Ropewalk x = depot(0);
        x.address(0, 60);
        x.away(1, 0, 24);
        x.van(0, 9, 9);
        x.parcel(0, 0, 0, 1, 1, false);
        x.parcel(0, 1, 1, 0, 1, false);
        x.giveBack(0);
        x.giveBack(1);
        x.hour(9);
        Check.due("16 its sender is at home", hourOf(x, 0, Ropewalk.GIVEN), 9);
        x.hour(2);
        Check.due("16 its sender is not", hourOf(x, 1, Ropewalk.FAILED), 11);
        Check.due("16 a return keeps its failures", x.part(1, 2), 1);
    }

    /** Stops at the minutes 0, 120 + 5 and 240 + 10 behind 22 o'clock, over midnight. */
    private static void hoursBehindTheStart() {
        Ropewalk x = depot(0);
        x.address(0, 60);
        x.van(0, 9, 22);
        for (int i = 0; i < 3; i++) {
            x.parcel(0, i, 0, i % 2, 1, false);
        }
        x.hour(21);
        Check.due("16 in the hour of the start at once", x.hour(1), 1);
        Check.due("16 none an hour behind", x.hour(1), 0);
        Check.due("16 none failed yet", x.part(1, 2), 0);
        x.hour(1);
        Check.due("16 one failed two hours behind", x.part(1, 2), 1);
        Check.due("16 none is put back yet", x.onVan(0), 2);
        x.hour(1);
        Check.due("16 the last one not yet", x.part(2, 2), 0);
        x.hour(1);
        Check.due("16 the last one failed four hours behind", x.part(2, 2), 1);
        Check.due("16 the van is back", x.onVan(0), 0);
    }

    private static void cashOnVan() {
        Ropewalk x = depot(0);
        x.address(0, 30);
        x.van(0, 9, 22);
        x.parcel(0, 0, 0, 0, 1, false);
        x.parcel(0, 1, 0, 1, 1, false);
        x.worth(0, 0, 7);
        x.worth(1, 0, 20);
        x.hour(22);
        Check.due("16 cash of one that is HANDED is on the van", x.cash(0), 0);
        x.hour(1);
        Check.due("16 it comes with the van", x.cash(0), 27);
        Ropewalk y = depot(0);
        y.address(0, 30);
        y.van(0, 9, 23);
        y.parcel(1, 0, 0, 0, 1, false);
        y.parcel(1, 1, 0, 1, 1, false);
        y.worth(0, 0, 7);
        y.hour(24);
        Check.due("16 a van back at midnight, its cash is paid at once", y.account(1), 7);
        Check.due("16 none is at the depot", y.cash(0), 0);
        Ropewalk z = depot(0);
        z.address(0, 60);
        z.van(0, 9, 23);
        z.parcel(1, 0, 0, 0, 1, false);
        z.parcel(1, 1, 0, 1, 1, false);
        z.worth(0, 0, 7);
        z.worth(1, 0, 9);
        z.hour(24);
        Check.due("16 cash on a van is not paid out", z.account(1), 0);
        z.hour(1);
        Check.due("16 back at 25, without that of one that failed", z.cash(0), 7);
        z.hour(23);
        Check.due("16 paid out a day later", z.account(1), 7);
    }

    private static void cashOfReturn() {
        Ropewalk x = depot(0);
        x.van(0, 9, 5);
        for (int i = 0; i < 2; i++) {
            x.parcel(0, i, 0, 0, 1, false);
            x.worth(i, 0, 100 + i);
        }
        x.giveBack(0);
        Check.due("16 both are handed", x.hour(5), 2);
        Check.due("16 but a return pays none", x.cash(0), 101);
        x.hour(19);
        Check.due("16 nor later", x.account(0), 101);
    }

    private static void backAtOnce() {
        Ropewalk x = depot(0);
        x.away(0, 0, 24);
        x.van(0, 9, 5);
        x.parcel(0, 0, 0, 0, 1, false);
        x.hour(5);
        int n = x.scans();
        Check.due("16 OUT", x.scan(n - 3, 3), Ropewalk.OUT);
        Check.due("16 FAILED", x.scan(n - 2, 3), Ropewalk.FAILED);
        Check.due("16 BACK in the same hour", x.scan(n - 1, 3), Ropewalk.BACK);
        Check.due("16 at the clock of the last stop", x.scan(n - 1, 2), 5);
        Check.due("16 READY", x.where(0), Ropewalk.READY);
        Check.due("16 not UNSORTED", x.place(0), Ropewalk.NONE);
    }

    /** Stops 125 minutes apart: the last of 12 is 24 hours behind the start, when the next round begins. */
    private static void beginsWhenBack() {
        int[] handed = {1, 2, 0};
        for (int many = 11; many < 14; many++) {
            Ropewalk x = depot(60);
            x.address(0, 0);
            x.van(0, 30, 0);
            for (int i = 0; i < many; i++) {
                x.parcel(0, i, 0, i % 2, 1, false);
            }
            Scenes.at(x, 47);
            x.parcel(0, many, 1, 1, 1, false);
            Check.due("16 a round begins if none is on, with one that failed by then, behind " + many, x.hour(1), handed[many - 11]);
            Check.due("16 those of a round that is on, of " + many, x.onVan(0), many == 13 ? 2 : 0);
            x.hour(4);
            int due = many == 13 ? Ropewalk.READY : Ropewalk.HANDED;
            Check.due("16 none begins when the van is back later, behind " + many, x.where(many), due);
        }
    }

    private static void emptyRound() {
        Ropewalk x = depot(0);
        x.van(0, 9, 5);
        x.hour(5);
        Check.due("16 a round without parcels is none", x.scans(), 0);
        x.parcel(0, 0, 0, 0, 1, false);
        x.hour(1);
        Check.due("16 it does not begin later", x.where(0), Ropewalk.READY);
        x.hour(22);
        Check.due("16 not an hour ahead", x.where(0), Ropewalk.READY);
        Check.due("16 a day later", x.hour(1), 1);
    }

    /** A parcel that fails once an hour, by the vans of the depot 0; a locker of these compartments. */
    private static Ropewalk failing(int cash, int size, int ones, int threes) {
        Ropewalk x = depot(0);
        x.address(0, 0);
        x.away(1, 0, 24);
        for (int i = 1; i < 7; i++) {
            x.van(0, 9, i);
        }
        x.locker(0, ones, 0, threes);
        x.parcel(0, 0, 0, 1, size, false);
        x.worth(0, 0, cash);
        x.hour(1);
        return x;
    }

    private static void twoFailures() {
        Ropewalk x = failing(0, 1, 1, 0);
        Check.due("16 failed once: READY", x.where(0), Ropewalk.READY);
        x.hour(1);
        Check.due("16 failed twice: in a locker", x.where(0), Ropewalk.LOCKER);
        Check.due("16 scanned STORED", x.scan(x.scans() - 1, 3), Ropewalk.STORED);
        Check.due("16 not BACK", x.scan(x.scans() - 2, 3), Ropewalk.FAILED);
        Check.due("16 its compartment", x.free(0, 1), 0);
        Ropewalk y = failing(1, 1, 1, 0);
        y.hour(1);
        Check.due("16 failed twice, with cash of 1: READY", y.where(0), Ropewalk.READY);
        Check.due("16 scanned BACK", y.scan(y.scans() - 1, 3), Ropewalk.BACK);
        Ropewalk z = failing(0, 2, 5, 0);
        z.hour(1);
        Check.due("16 failed twice, no room for its size: READY", z.where(0), Ropewalk.READY);
        Ropewalk w = failing(0, 2, 0, 1);
        w.hour(1);
        Check.due("16 failed twice, a greater one has room", w.where(0), Ropewalk.LOCKER);
    }

    private static void threeFailures() {
        Ropewalk x = failing(1, 1, 1, 0);
        x.hour(2);
        Check.due("16 failed three times, with cash: UNSORTED", x.where(0), Ropewalk.UNSORTED);
        Check.due("16 as a return", x.part(0, 3), 1);
        Check.due("16 its failures are 0 then", x.part(0, 2), 0);
        Check.due("16 scanned BACK", x.scan(x.scans() - 1, 3), Ropewalk.BACK);
        Ropewalk y = failing(0, 1, 0, 0);
        y.hour(1);
        Check.due("16 failed twice, no compartment: READY", y.where(0), Ropewalk.READY);
        Check.due("16 its failures", y.part(0, 2), 2);
        y.locker(0, 0, 1, 0);
        y.hour(1);
        Check.due("16 failed three times, room by now: in a locker", y.where(0), Ropewalk.LOCKER);
        Check.due("16 its failures then", y.part(0, 2), 3);
        Check.due("28 the locker", y.at(0), 1);
        y.lose(0);
        y.find(0, 0);
        y.hour(1);
        Check.due("16 failed four times: in the locker again", y.where(0), Ropewalk.LOCKER);
    }

    private static void returnsThreeFailures() {
        Ropewalk x = depot(0);
        x.away(0, 0, 24);
        for (int i = 1; i < 7; i++) {
            x.van(0, 9, i);
        }
        x.locker(0, 5, 5, 5);
        x.parcel(0, 0, 0, 0, 1, false);
        x.giveBack(0);
        x.hour(2);
        Check.due("16 a return failed twice: READY, not in a locker", x.where(0), Ropewalk.READY);
        x.hour(1);
        Check.due("16 a return failed three times: LOST", x.where(0), Ropewalk.LOST);
        Check.due("16 FAILED is its last scan", x.scan(x.scans() - 1, 3), Ropewalk.FAILED);
        Check.due("16 its failures stay", x.part(0, 2), 3);
        Check.due("16 at no place", x.at(0), Ropewalk.NONE);
        x.find(0, 0);
        x.hour(1);
        Check.due("16 found, and failed once more: LOST", x.where(0), Ropewalk.LOST);
        x.find(0, 0);
        x.forward(0, 0);
        x.hour(1);
        Check.due("16 forwarded it is no return, and failed once", x.where(0), Ropewalk.READY);
    }

    private static void noReturnInLocker() {
        Ropewalk x = failing(0, 1, 0, 0);
        x.away(0, 0, 24);
        x.hour(2);
        Check.due("16 a return behind three failures", x.part(0, 3), 1);
        x.locker(0, 5, 5, 5);
        x.hour(2);
        Check.due("16 failed twice as one", x.part(0, 2), 2);
        Check.due("16 and is READY", x.where(0), Ropewalk.READY);
        x.hour(1);
        Check.due("16 three times", x.where(0), Ropewalk.LOST);
    }

    /** A parcel of each size, with one compartment of each size alone, and with all. */
    private static void compartments() {
        for (int size = 1; size < 4; size++) {
            for (int has = 1; has < 4; has++) {
                Ropewalk x = failing(0, size, has == 1 ? 1 : 0, has == 3 ? 1 : 0);
                x.locker(0, 0, has == 2 ? 1 : 0, 0);
                x.hour(1);
                int due = has >= size ? Ropewalk.LOCKER : Ropewalk.READY;
                Check.due("16 the size " + size + " in a compartment of " + has, x.where(0), due);
            }
            Ropewalk y = failing(0, size, 0, 0);
            y.locker(1, 5, 5, 5);
            y.locker(0, 2, 2, 2);
            y.locker(0, 5, 5, 5);
            y.hour(1);
            Check.due("16 the lowest number of the depot, " + size, y.at(0), 2);
            for (int k = 1; k < 4; k++) {
                Check.due("16 the least of them, " + size + " of " + k, y.free(2, k), k == size ? 1 : 2);
            }
        }
        Ropewalk z = failing(0, 1, 0, 1);
        z.locker(0, 5, 5, 5);
        z.hour(1);
        Check.due("16 a greater one of the lower locker is ahead", z.at(0), 0);
    }

    /** Two failed in one round; the express one is ahead, though its number is higher. */
    private static void orderOfFailed() {
        Ropewalk x = depot(0);
        x.address(0, 0);
        x.away(1, 0, 24);
        for (int i = 1; i < 4; i++) {
            x.van(0, 9, i);
        }
        x.locker(0, 1, 0, 0);
        x.parcel(0, 0, 0, 1, 1, false);
        x.parcel(0, 1, 0, 1, 1, true);
        x.hour(2);
        Check.due("16 the first of the round is stored", x.where(1), Ropewalk.LOCKER);
        Check.due("16 no room for the next one", x.where(0), Ropewalk.READY);
        Check.due("16 the order of the scans", x.scan(x.scans() - 2, 0), 1);
        x.hour(1);
        Check.due("16 a return then", x.part(0, 3), 1);
        Ropewalk y = depot(0);
        y.away(0, 0, 24);
        for (int i = 1; i < 4; i++) {
            y.van(0, 9, i);
        }
        y.sorts(0, 40);
        for (int i = 0; i < 3; i++) {
            y.parcel(0, i, 0, 0, 1, i == 2);
        }
        y.hour(3);
        Check.due("16 UNSORTED in the order of the round", y.place(2), 0);
        Check.due("16 then by numbers", y.place(0), 1);
        Check.due("16 the last one", y.place(1), 2);
    }

    private static void codes() {
        Ropewalk x = Scenes.at(depot(0), 574);
        x.away(0, 0, 24);
        x.van(0, 30, 23);
        x.van(0, 30, 23);
        for (int i = 0; i < 4; i++) {
            x.locker(1, 0, 0, 0);
        }
        x.locker(0, 5, 5, 5);
        for (int i = 0; i < 40; i++) {
            x.parcel(0, i, 0, 0, 2, false);
            if (i > 0 && i < 39) {
                x.lose(i);
            }
        }
        x.hour(1);
        Check.due("16 the code of the first parcel", x.part(0, 6), 1000 + 4 * 101 + 575);
        Check.due("16 the code of the last parcel", x.part(39, 6), 1000 + 39 * 37 + 4 * 101 + 575);
        Check.due("23 opens for it", x.fetch(4, 1000 + 39 * 37 + 4 * 101 + 575), 39);
        Check.due("29 no code behind that", x.part(39, 6), 0);
    }

    /** A small parcel in a great compartment makes the great one free, however it leaves. */
    private static void leavesLocker() {
        for (int how = 0; how < 3; how++) {
            Ropewalk x = failing(0, 1, 0, 1);
            x.hour(1);
            Check.due("16 the compartment is taken " + how, x.free(0, 3), 0);
            Check.due("42 it is of the depot's stock " + how, x.stock(0), 1);
            if (how == 0) {
                x.fetch(0, 1002);
                Check.due("23 HANDED", x.where(0), Ropewalk.HANDED);
                Check.due("23 FETCHED", x.scan(x.scans() - 1, 3), Ropewalk.FETCHED);
                Check.due("23 now", x.scan(x.scans() - 1, 2), 2);
                Check.due("23 at the locker's depot", x.scan(x.scans() - 1, 1), 0);
            } else if (how == 1) {
                Check.due("21 out of a locker", x.lose(0), Ropewalk.LOCKER);
            } else {
                x.sorts(0, 0);
                Scenes.at(x, 50);
                Check.due("16 UNSORTED behind 48 hours", x.where(0), Ropewalk.UNSORTED);
            }
            Check.due("16 the compartment is free " + how, x.free(0, 3), 1);
            Check.due("16 none of another size " + how, x.free(0, 1), 0);
            Check.refused("23 the code opens no more " + how, Check.STATE, () -> x.fetch(0, 1002));
        }
    }
}
