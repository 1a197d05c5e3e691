import java.util.function.Consumer;

/** What the calls and the hours leave as it was: promises, windows, cash, duties, failures, express, and the book. */
public final class KeptTest {
    /** What becomes of a parcel of the depot 0, told with the receiver 1, ahead of its delivery. */
    private static final String[] WAYS = {"nothing", "lost and found", "forwarded", "a return", "a return that is forwarded",
        "its doubt resolved", "merged"};

    public static void main(String[] args) {
        promises();
        windows();
        windowOfFailed();
        waitOfReturn();
        cash();
        duties();
        dutyAndWorth();
        express();
        failures();
        failuresOfFound();
        notScanned();
        hands();
        Check.end();
    }

    /** A depot with the sender 0 and the receivers 1 and 2, all at the spot 0. */
    private static Ropewalk depot() {
        Ropewalk x = new Ropewalk();
        x.address(0, 0);
        x.address(0, 0);
        x.address(0, 0);
        x.sorts(0, 40);
        return x;
    }

    private static void go(Ropewalk x, int parcel, int way) {
        switch (way) {
            case 1:
                x.lose(parcel);
                x.find(parcel, 0);
                break;
            case 2:
                x.forward(parcel, 2);
                break;
            case 3:
                x.giveBack(parcel);
                break;
            case 4:
                x.giveBack(parcel);
                x.forward(parcel, 2);
                break;
            case 5:
                x.doubt(parcel, 2);
                x.resolve(parcel, true);
                break;
            case 6:
                x.merge(0, 3);
                break;
            default:
                break;
        }
    }

    private static void promises() {
        for (int way = 0; way < WAYS.length; way++) {
            Ropewalk x = depot();
            x.parcel(0, 0, 0, 1, 1, false);
            x.promise(0, 0, 24, 7);
            x.hour(3);
            x.lose(0);
            x.hour(2);
            x.find(0, 0);
            if (way != 5) {
                go(x, 0, way);
            }
            Check.due("12 its promise stays: " + WAYS[way], x.part(0, 4), 7);
            x.hour(3);
            Check.due("12 and does not move on: " + WAYS[way], x.part(0, 4), 7);
        }
    }

    /** A window of the hour 9 alone, and a van of this start: the hour at which it is HANDED, or NONE. */
    private static int handedAt(int start, int way) {
        Ropewalk x = depot();
        x.van(0, 1, start);
        x.parcel(0, 0, 0, 1, 1, false);
        x.promise(0, 9, 10, 200);
        go(x, 0, way);
        for (int i = 0; i < 23; i++) {
            if (x.hour(1) == 1) {
                return x.clock();
            }
        }
        return Ropewalk.NONE;
    }

    private static void windows() {
        for (int way = 0; way < WAYS.length; way++) {
            Check.due("16 it waits for its window: " + WAYS[way], handedAt(7, way), 9);
            Check.due("16 in its window: " + WAYS[way], handedAt(9, way), 9);
            Check.due("16 not behind it: " + WAYS[way], handedAt(10, way), Ropewalk.NONE);
        }
    }

    /** Three failures at 9 make it a return; its window is that of the hour 9 still. */
    private static Ropewalk failedThrice(int start) {
        Ropewalk x = depot();
        x.away(1, 0, 24);
        for (int i = 0; i < 3; i++) {
            x.van(0, 1, 9);
        }
        x.parcel(0, 0, 0, 1, 1, false);
        x.promise(0, 9, 10, 200);
        x.hour(9);
        Check.due("16 a return by failures", x.part(0, 3), 1);
        x.van(0, 1, start);
        return x;
    }

    private static void windowOfFailed() {
        Ropewalk x = failedThrice(10);
        x.hour(1);
        Check.due("16 behind its window it fails as a return too", x.part(0, 2), 1);
        Ropewalk y = failedThrice(8);
        Check.due("16 none ahead of the window of a return", y.hour(23), 0);
        Check.due("16 it is on the van", y.where(0), Ropewalk.VAN);
        Check.due("16 given when the window begins", y.hour(1), 1);
    }

    /** Two returns of one round: the second one's way begins when the window of the first one has begun. */
    private static void waitOfReturn() {
        Ropewalk x = depot();
        x.van(0, 9, 5);
        x.parcel(0, 0, 0, 1, 1, true);
        x.parcel(0, 1, 0, 1, 1, false);
        x.promise(0, 8, 24, 200);
        x.giveBack(0);
        x.giveBack(1);
        Check.due("16 none ahead of the window", x.hour(7), 0);
        Check.due("16 both when it has begun", x.hour(1), 2);
    }

    private static void cash() {
        for (int way = 0; way < WAYS.length; way++) {
            Ropewalk x = depot();
            x.van(0, 1, 1);
            x.parcel(0, 0, 0, 1, 1, false);
            x.worth(0, 0, 30);
            go(x, 0, way);
            x.hour(1);
            Check.due("16 it is HANDED: " + WAYS[way], x.where(0), Ropewalk.HANDED);
            Check.due("37 its cash, unless it is a return: " + WAYS[way], x.cash(0), way == 3 ? 0 : 30);
            x.hour(23);
            Check.due("36 paid to the customer: " + WAYS[way], x.account(way == 6 ? 3 : 0), way == 3 ? 0 : 30);
        }
        Ropewalk y = depot();
        y.away(1, 0, 24);
        for (int i = 1; i < 5; i++) {
            y.van(0, 1, i);
        }
        y.parcel(0, 0, 0, 1, 1, false);
        y.worth(0, 0, 30);
        y.hour(3);
        Check.due("16 a return by failures", y.part(0, 3), 1);
        y.forward(0, 2);
        y.hour(1);
        Check.due("37 forwarded it has its cash still", y.cash(0), 30);
    }

    /** A duty that was paid is paid for all borders, whatever becomes of the parcel. */
    private static void duties() {
        for (int way = 1; way < WAYS.length; way++) {
            Ropewalk x = Scenes.pair(true);
            x.lane(1, 2, 1, true);
            x.lane(2, 1, 1, true);
            x.address(2, 0);
            for (int half = 0; half < 2; half++) {
                x.plan(0, 2, half, 0);
                x.plan(1, 2, half, 2);
                x.plan(2, 0, half, 3);
                x.plan(2, 1, half, 3);
            }
            x.parcel(0, 0, 0, 4, 1, false);
            x.worth(0, 500, 0);
            if (way == 5) {
                x.doubt(0, 2);
            }
            x.duty(0);
            x.hour(5);
            Check.due("18 two borders: " + WAYS[way], x.at(0), 2);
            if (way == 1) {
                x.lose(0);
                x.find(0, 0);
            } else if (way == 2) {
                x.forward(0, 3);
            } else if (way == 3) {
                x.giveBack(0);
            } else if (way == 4) {
                x.giveBack(0);
                x.forward(0, 0);
            } else if (way == 5) {
                x.resolve(0, true);
            } else {
                x.merge(0, 1);
                x.forward(0, 0);
            }
            x.hour(5);
            Check.due("18 none holds it: " + WAYS[way], x.where(0), Ropewalk.READY);
            Check.refused("18 it was paid: " + WAYS[way], Check.STATE, () -> x.duty(0));
        }
    }

    private static void dutyAndWorth() {
        Ropewalk x = Scenes.pair(true);
        x.parcel(0, 0, 0, 2, 1, false);
        x.worth(0, 10, 0);
        x.duty(0);
        Check.due("11 the value may change when its duty was paid", x.worth(0, 1000, 0), 100);
        Check.refused("18 its duty was paid", Check.STATE, () -> x.duty(0));
        Check.due("36 what was paid", x.account(0), -1);
        x.hour(4);
        Check.due("16 customs do not hold it", x.where(0), Ropewalk.READY);
    }

    /** Express ones stay ahead: in the sorting, in the row and in the round. */
    private static void express() {
        for (int way = 0; way < WAYS.length; way++) {
            Ropewalk x = depot();
            x.van(0, 1, 2);
            x.parcel(1, 0, 1, 1, 1, false);
            x.parcel(0, 0, 0, 1, 1, true);
            go(x, 1, way);
            x.sorts(0, 1);
            x.hour(1);
            Check.due("16 sorted first: " + WAYS[way], x.where(1), Ropewalk.READY);
            x.hour(1);
            Check.due("16 first on the round: " + WAYS[way], x.where(1), Ropewalk.HANDED);
            Check.due("16 the other one is READY: " + WAYS[way], x.where(0), Ropewalk.READY);
        }
        Ropewalk y = Scenes.pair(false);
        y.timetable(1, 1, 2, 1, 1, 0);
        y.parcel(0, 0, 0, 2, 1, false);
        y.parcel(0, 1, 0, 3, 1, true);
        y.giveBack(0);
        y.giveBack(1);
        y.lose(0);
        y.lose(1);
        y.find(0, 1);
        y.find(1, 1);
        y.hour(2);
        Check.due("16 an express return leaves first", y.where(1), Ropewalk.LANE);
        Check.due("16 the other one stays in the row", y.where(0), Ropewalk.ROW);
    }

    private static void failures() {
        Ropewalk x = depot();
        x.away(1, 0, 2);
        x.van(0, 1, 1);
        x.van(0, 1, 2);
        x.parcel(0, 0, 0, 1, 1, false);
        x.hour(2);
        Check.due("16 HANDED behind a failure", x.where(0), Ropewalk.HANDED);
        Check.due("29 its failure stays told", x.part(0, 2), 1);
        Ropewalk y = depot();
        y.away(1, 0, 24);
        y.van(0, 1, 1);
        y.van(0, 1, 1);
        y.locker(0, 1, 0, 0);
        y.parcel(0, 0, 0, 1, 1, false);
        y.hour(1);
        y.fetch(0, y.part(0, 6));
        Check.due("29 FETCHED behind two failures", y.part(0, 2), 2);
    }

    private static void failuresOfFound() {
        Ropewalk x = depot();
        x.away(1, 0, 24);
        x.van(0, 1, 1);
        x.van(0, 1, 2);
        x.van(0, 1, 4);
        x.parcel(0, 0, 0, 1, 1, false);
        x.hour(2);
        x.lose(0);
        Check.due("29 LOST with two failures", x.part(0, 2), 2);
        x.find(0, 0);
        x.hour(1);
        Check.due("29 SORTED with two failures", x.part(0, 2), 2);
        x.hour(1);
        Check.due("16 the third one makes it a return", x.part(0, 3), 1);
    }

    /** None of these calls is scanned, wherever the parcel is. */
    private static void notScanned() {
        for (int parcel = 0; parcel < 14; parcel++) {
            int p = parcel;
            same("13 doubt", p, x -> x.doubt(p, 4));
            same("11 worth", p, x -> x.worth(p, 1, 1));
            same("12 promise", p, x -> x.promise(p, 0, 24, 1));
            same("17 resolve", p, x -> x.resolve(p, false));
            same("17 resolve, the other", p, x -> x.resolve(p, true));
            same("18 duty", p, x -> x.duty(p));
            same("19 forward", p, x -> x.forward(p, 4));
            same("20 giveBack", p, x -> x.giveBack(p));
            same("21 lose", p, x -> x.lose(p));
            same("24 claim GONE", p, x -> x.claim(p, Ropewalk.GONE, true));
            same("24 claim LATE", p, x -> x.claim(p, Ropewalk.LATE, true));
        }
        same("25 merge", 0, x -> x.merge(0, 1));
        same("9 away", 0, x -> x.away(0, 0, 24));
        same("7 plan", 0, x -> x.plan(0, 1, 0, Ropewalk.NONE));
        same("6 timetable", 0, x -> x.timetable(1, 1, 0, 1, 1, 0));
    }

    private static void same(String what, int parcel, Consumer<Ropewalk> call) {
        Ropewalk x = Scenes.busy();
        x.fail(0, 0, false);
        x.fail(0, 0, true);
        x.fail(3, 0, true);
        int before = x.scans();
        try {
            call.accept(x);
        } catch (IllegalStateException e) {
            return;
        }
        Check.due("Terms: " + what + " is not scanned, parcel " + parcel, x.scans(), before);
    }

    /** Hands are as many more as told, beside those of the depot. */
    private static void hands() {
        int[][] cases = {{0, 1}, {1, 1}, {2, 3}, {3, 2}, {10, 20}, {20, 20}, {39, 1}};
        for (int[] c : cases) {
            Ropewalk x = depot();
            for (int i = 0; i < 40; i++) {
                x.parcel(0, i, 0, 0, 1, false);
            }
            x.sorts(0, c[0]);
            x.hire(0, c[1], 1);
            x.hour(1);
            Check.due("3 " + c[1] + " more than " + c[0], x.count(Ropewalk.READY), c[0] + c[1]);
            x.hour(1);
            int due = Math.min(40, 2 * c[0] + c[1]);
            Check.due("3 and then " + c[0], x.count(Ropewalk.READY), due);
        }
    }
}
