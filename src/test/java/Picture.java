import java.util.ArrayList;
import java.util.List;
import java.util.function.Supplier;

/** All that an object answers, line by line. Many fresh objects are asked, so that none is called 512 times. */
final class Picture {
    private static final int MOST_QUESTIONS = 150;

    private interface Question {
        Object ask(Ropewalk x);
    }

    private interface Probe {
        int ask(int number);
    }

    private final List<String> names = new ArrayList<>();
    private final List<Question> questions = new ArrayList<>();
    private final Supplier<Ropewalk> make;
    private final int lanes;
    private final int vans;
    private final int lockers;
    private final int parcels;
    private final int scans;

    private Picture(Supplier<Ropewalk> make) {
        this.make = make;
        Ropewalk x = make.get();
        lanes = howMany(x::waits);
        vans = howMany(x::onVan);
        lockers = howMany(i -> x.free(i, 1));
        parcels = howMany(x::where);
        scans = x.scans();
    }

    /** What the asking calls answer. */
    static List<String> asked(Supplier<Ropewalk> make) {
        Picture picture = new Picture(make);
        picture.askNet();
        picture.askVehicles();
        for (int i = 0; i < picture.parcels; i++) {
            picture.askParcel(i);
        }
        for (int i = 0; i < picture.scans; i++) {
            picture.askScan(i);
        }
        return picture.answers();
    }

    /** What the telling calls answer: most of them tell what was so before. */
    static List<String> told(Supplier<Ropewalk> make) {
        Picture picture = new Picture(make);
        picture.tellDepots();
        picture.tellLanes();
        picture.tellMore();
        return picture.answers();
    }

    /** The lines in which two pictures differ; the first one of each alone, for there may be many. */
    static String difference(List<String> got, List<String> want) {
        for (int i = 0; i < got.size() && i < want.size(); i++) {
            if (!got.get(i).equals(want.get(i))) {
                return got.get(i) + ", due is " + want.get(i);
            }
        }
        return got.size() == want.size() ? "" : got.size() + " lines, due are " + want.size();
    }

    private static int howMany(Probe probe) {
        for (int i = 0; i < 50; i++) {
            try {
                probe.ask(i);
            } catch (IndexOutOfBoundsException e) {
                return i;
            }
        }
        return 50;
    }

    private void add(String name, Question question) {
        names.add(name);
        questions.add(question);
    }

    private List<String> answers() {
        List<String> all = new ArrayList<>();
        Ropewalk x = null;
        for (int i = 0; i < questions.size(); i++) {
            if (i % MOST_QUESTIONS == 0) {
                x = make.get();
            }
            all.add(names.get(i) + " " + answer(questions.get(i), x));
        }
        return all;
    }

    private static Object answer(Question question, Ropewalk x) {
        try {
            return question.ask(x);
        } catch (RuntimeException e) {
            return e.toString();
        }
    }

    private void askNet() {
        add("clock", x -> x.clock());
        add("scans", x -> x.scans());
        for (int i = 0; i < 9; i++) {
            int k = i;
            add("count " + k, x -> x.count(k));
        }
        for (int i = 0; i < 4; i++) {
            int k = i;
            add("account " + k, x -> x.account(k));
        }
        for (int i = 0; i < 5; i++) {
            int k = i;
            add("cash " + k, x -> x.cash(k));
            add("stock " + k, x -> x.stock(k));
            add("stockByScans " + k, x -> x.stockByScans(k));
        }
    }

    private void askVehicles() {
        for (int i = 0; i < lanes; i++) {
            int k = i;
            add("waits " + k, x -> x.waits(k));
            add("onLane " + k, x -> x.onLane(k));
        }
        for (int i = 0; i < vans; i++) {
            int k = i;
            add("onVan " + k, x -> x.onVan(k));
        }
        for (int i = 0; i < 3 * lockers; i++) {
            int k = i;
            add("free " + k / 3 + " " + (k % 3 + 1), x -> x.free(k / 3, k % 3 + 1));
        }
    }

    private void askParcel(int i) {
        add("where " + i, x -> x.where(i));
        add("at " + i, x -> x.at(i));
        add("place " + i, x -> x.place(i));
        add("wrong " + i, x -> x.wrong(i));
        add("foreseen " + i, x -> x.foreseen(i));
        for (int part = 0; part < 8; part++) {
            int k = part;
            add("part " + i + " " + k, x -> x.part(i, k));
        }
        for (int place = 0; place < 4; place++) {
            int k = place;
            add("way " + i + " " + k, x -> x.way(i, k));
        }
    }

    private void askScan(int i) {
        for (int part = 0; part < 4; part++) {
            int k = part;
            add("scan " + i + " " + k, x -> x.scan(i, k));
        }
    }

    private void tellDepots() {
        for (int i = 0; i < 5; i++) {
            int k = i;
            add("sorts " + k, x -> x.sorts(k, 10));
            add("hire " + k, x -> x.hire(k, 1, 1));
            add("fail " + k, x -> x.fail(k, 0, false));
            add("stammer " + k, x -> x.fail(k, 0, true));
        }
        for (int i = 0; i < 50; i++) {
            int from = i / 10;
            int to = i / 2 % 5;
            int half = i % 2;
            if (from != to) {
                add("plan " + from + " " + to + " " + half, x -> x.plan(from, to, half, Ropewalk.NONE));
            }
        }
    }

    private void tellLanes() {
        for (int i = 0; i < lanes; i++) {
            int k = i;
            add("timetable " + k, x -> x.timetable(k, 10, 0, 1, 1, 1));
        }
    }

    private void tellMore() {
        add("lane", x -> x.lane(0, 1, 1, false));
        add("address", x -> x.address(0, 0));
        add("van", x -> x.van(0, 1, 0));
        add("locker", x -> x.locker(0, 0, 0, 0));
        add("parcel", x -> x.parcel(3, 999, 0, 0, 1, false));
        for (int i = 0; i < parcels; i++) {
            int k = i;
            add("doubt " + k, x -> x.doubt(k, 0));
            add("duty " + k, x -> x.duty(k));
        }
        add("merge 0 1", x -> x.merge(0, 1));
        add("merge 1 2", x -> x.merge(1, 2));
    }
}
