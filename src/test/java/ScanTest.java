import java.util.ArrayList;
import java.util.List;

/** Scans of each of the ten kinds: missed by a blind depot, noted twice by one that stammers, missed by a full book. */
public final class ScanTest {
    private static final int DEPOTS = 2;

    public static void main(String[] args) {
        allKinds();
        blindAndStammering();
        blindAgain();
        fullBook();
        Check.end();
    }

    /** Depots 0 and 1, a lane of one hour; two vans and a locker at 1, where the address 1 is never at home. */
    private static Ropewalk net() {
        Ropewalk x = new Ropewalk();
        x.lane(0, 1, 1, false);
        x.plan(0, 1, 0, 0);
        x.address(0, 0);
        x.address(1, 0);
        x.address(1, 0);
        x.away(1, 0, 24);
        x.van(1, 9, 3);
        x.van(1, 9, 4);
        x.locker(1, 1, 0, 0);
        return x;
    }

    /** From midnight on: one parcel fails twice and is fetched, the next one is given at once. Each kind is scanned. */
    private static void play(Ropewalk x) {
        int first = x.parcel(0, 0, 0, 1, 1, false);
        int next = x.parcel(0, 1, 0, 2, 1, false);
        x.hour(4);
        Check.due("4 whatever is scanned, it is in the locker", x.where(first), Ropewalk.LOCKER);
        x.fetch(0, x.part(first, 6));
        Check.due("4 whatever is scanned, it is fetched", x.where(first), Ropewalk.HANDED);
        Check.due("4 whatever is scanned, it is given", x.where(next), Ropewalk.HANDED);
        Check.due("4 whatever is scanned, its failures", x.part(first, 2), 2);
    }

    private static List<int[]> book(Ropewalk x) {
        List<int[]> all = new ArrayList<>();
        for (int i = 0; i < x.scans(); i++) {
            all.add(new int[] {x.scan(i, 0), x.scan(i, 1), x.scan(i, 2), x.scan(i, 3)});
        }
        return all;
    }

    private static void same(String what, List<int[]> got, List<int[]> want) {
        Check.due("38 " + what + ", how many", got.size(), want.size());
        for (int i = 0; i < got.size() && i < want.size(); i++) {
            for (int part = 0; part < 4; part++) {
                Check.due("39 " + what + ", scan " + i + " part " + part, got.get(i)[part], want.get(i)[part]);
            }
        }
    }

    private static List<int[]> played() {
        Ropewalk x = net();
        play(x);
        return book(x);
    }

    private static void allKinds() {
        int[][] want = {
            {0, 0, 0, Ropewalk.TAKEN}, {1, 0, 0, Ropewalk.TAKEN}, {0, 0, 1, Ropewalk.SORTED}, {1, 0, 1, Ropewalk.SORTED},
            {0, 0, 1, Ropewalk.LEFT}, {1, 0, 1, Ropewalk.LEFT}, {0, 1, 2, Ropewalk.CAME}, {1, 1, 2, Ropewalk.CAME},
            {0, 1, 2, Ropewalk.SORTED}, {1, 1, 2, Ropewalk.SORTED}, {0, 1, 3, Ropewalk.OUT}, {1, 1, 3, Ropewalk.OUT},
            {0, 1, 3, Ropewalk.FAILED}, {1, 1, 3, Ropewalk.GIVEN}, {0, 1, 3, Ropewalk.BACK}, {0, 1, 4, Ropewalk.OUT},
            {0, 1, 4, Ropewalk.FAILED}, {0, 1, 4, Ropewalk.STORED}, {0, 1, 4, Ropewalk.FETCHED},
        };
        same("each kind", played(), List.of(want));
    }

    /** What is left of a book: of each depot the first scans are missed, and the next ones noted twice. */
    private static List<int[]> expected(List<int[]> book, int blind, int stammers) {
        int[] scans = new int[DEPOTS];
        List<int[]> all = new ArrayList<>();
        for (int[] scan : book) {
            int number = scans[scan[1]]++;
            if (number >= blind) {
                all.add(scan);
                if (number < blind + stammers) {
                    all.add(scan);
                }
            }
        }
        return all;
    }

    private static void blindAndStammering() {
        List<int[]> book = played();
        for (int blind = 0; blind < 15; blind++) {
            for (int stammers = 0; stammers < 15; stammers++) {
                Ropewalk x = net();
                for (int depot = 0; depot < DEPOTS; depot++) {
                    x.fail(depot, blind, false);
                    x.fail(depot, stammers, true);
                }
                play(x);
                same("blind for " + blind + ", stammers for " + stammers, book(x), expected(book, blind, stammers));
            }
        }
    }

    /** Told again while it is blind, and while it stammers: in place of what was told of this kind before. */
    private static void blindAgain() {
        Ropewalk x = net();
        x.fail(0, 20, false);
        x.fail(0, 20, true);
        x.parcel(0, 0, 0, 1, 1, false);
        Check.due("4 nineteen still", x.fail(0, 1, false), 19);
        Check.due("4 twenty still of the other kind", x.fail(0, 1, true), 20);
        x.parcel(0, 1, 0, 1, 1, false);
        Check.due("4 the second one is missed", x.scans(), 0);
        x.parcel(0, 2, 0, 1, 1, false);
        Check.due("4 the third one is noted twice", x.scans(), 2);
        x.parcel(0, 3, 0, 1, 1, false);
        Check.due("4 the fourth one once", x.scans(), 3);
    }

    /** 400 scans by thirty parcels of the depot 2 that nobody takes; then all is done that is scanned. */
    private static void fullBook() {
        Ropewalk x = net();
        x.address(2, 0);
        x.away(3, 0, 24);
        x.sorts(2, 40);
        for (int i = 0; i < 3; i++) {
            x.van(2, 30, 1 + 3 * i);
        }
        for (int i = 0; i < 30; i++) {
            x.parcel(1, i, 3, 3, 1, false);
        }
        x.hour(10);
        Check.due("38 TAKEN, SORTED twice, OUT, FAILED and BACK three times", x.scans(), 360);
        x.fail(2, 20, true);
        for (int i = 0; i < 20; i++) {
            Check.due("38 two a time", x.scans(), 360 + 2 * i);
            x.lose(0);
            x.find(0, 2);
        }
        Check.due("38 as many as there may be", x.scans(), 400);
        Scenes.at(x, 24);
        play(x);
        Check.due("38 none of any kind is noted further", x.scans(), 400);
        Check.due("39 the last one", x.scan(399, 0), 0);
        Check.due("40 no way without scans", x.way(30, 0), Ropewalk.NONE);
        Check.due("41 nor a step", x.wrong(30), Ropewalk.NONE);
        Check.due("43 none at the depot 1", x.stockByScans(1), 0);
        Check.due("43 all thirty at the depot 2", x.stockByScans(2), 30);
    }
}
