import java.lang.reflect.InvocationTargetException;
import java.lang.reflect.Method;
import java.util.ArrayList;
import java.util.List;
import java.util.Map;
import java.util.TreeMap;
import java.util.function.Supplier;

/**
 * What the tests of the boundary cases share. Each case is a method of its own whose name tells the
 * promise and the case: p02_type_21st_byte_is_FULL. All methods of such a name are run.
 */
class Edges {
    static final int NONE = HillHours.NONE, BAD = HillHours.BAD, NOT = HillHours.NOT, FULL = HillHours.FULL;
    static final int NULL = -11, INDEX = -12, CAST = -13, STORE = -14, SIZE = -15;
    static final int LEAST = Integer.MIN_VALUE, MOST = Integer.MAX_VALUE;
    static final long BAD_LONG = Long.MIN_VALUE + 2;
    static final int BAD_NUMBER = -1000002;
    /** A hill of twelve cells, all alike: none has shade. */
    static final String EVEN = "5555;5555;5555";

    private static String running = "";
    private static int place;

    /** One call, so that a refusal can be asked of it. */
    interface Call {
        long on(HillHours x);
    }

    static void run(Class<?> tests, int from, int to) {
        Map<String, Method> cases = new TreeMap<>();
        for (Method m : tests.getDeclaredMethods()) {
            if (m.getName().matches("p[0-9][0-9]_[A-Za-z0-9_]+")) {
                cases.put(m.getName(), m);
            }
        }
        for (int promise = from; promise <= to; promise++) {
            String head = String.format("p%02d_", promise);
            Check.due("cases of promise " + promise, cases.keySet().stream().anyMatch(n -> n.startsWith(head)) ? 1 : 0, 1);
        }
        for (Method m : cases.values()) {
            runCase(m);
        }
        System.out.println(cases.size() + " boundary cases");
        Check.end();
    }

    private static void runCase(Method m) {
        running = m.getName();
        place = 0;
        try {
            m.setAccessible(true);
            m.invoke(null);
        } catch (InvocationTargetException e) {
            Check.due(running + " was broken off by " + e.getCause(), 0, 1);
        } catch (IllegalAccessException e) {
            Check.due(running + " cannot be run", 0, 1);
        }
        Check.due(running + " asks something", place > 0 ? 1 : 0, 1);
    }

    static void is(long got, long due) {
        place++;
        Check.due(running + ", answer " + place, got, due);
    }

    /** Each of these numbers is refused as BAD where only a small one may stand. */
    static int[] far() {
        return Check.FAR;
    }

    static HillHours hill(String text) {
        return Check.hill(text);
    }

    /** A refusal: its answer, the finding that count(8) tells, and that all else is as without it. */
    static void refused(Supplier<HillHours> scene, long due, Call call) {
        boolean finding = due <= NULL && due >= SIZE;
        refused(scene, due, finding ? (int) (-10 - due) : scene.get().count(8), call);
    }

    static void refused(Supplier<HillHours> scene, long due, int finding, Call call) {
        HillHours without = scene.get();
        HillHours with = scene.get();
        is(call.on(with), due);
        is(with.count(8), finding);
        List<Long> left = told(without);
        List<Long> right = told(with);
        is(right.size(), left.size());
        for (int i = 0; i < Math.min(left.size(), right.size()); i++) {
            is(right.get(i), left.get(i));
        }
    }

    /** All that an object tells but its latest finding. Some 200 calls; the object is used up by them. */
    static List<Long> told(HillHours x) {
        List<Long> all = new ArrayList<>();
        all.add(x.digest());
        for (int what = 0; what < 8; what++) {
            all.add((long) x.count(what));
        }
        tellSheets(x, all);
        for (int cell = 0; cell < 12; cell++) {
            all.add((long) x.owner(cell, 0));
            all.add((long) x.stand(cell, 0));
        }
        for (int season = 0; season < 4; season++) {
            all.add((long) x.days(season, 0));
            all.add((long) x.clouds(season, 0));
            for (int owner = 0; owner < 4; owner++) {
                all.add((long) x.worth(owner, season, 0));
            }
        }
        for (int sort = 0; sort < 3; sort++) {
            all.add((long) x.sort(sort, 0, 0));
            all.add((long) x.sort(sort, 1, 0));
        }
        all.add((long) x.forget());
        all.add((long) x.fault());
        all.add((long) x.wipe());
        return all;
    }

    private static void tellSheets(HillHours x, List<Long> all) {
        for (int s = 0; s < 4; s++) {
            for (int form = 0; form < 3; form++) {
                for (int i = 0; i < 49; i++) {
                    int item = x.get(s, form, i);
                    all.add((long) item);
                    if (item == LEAST) {
                        all.add((long) x.count(8));
                        break;
                    }
                }
            }
        }
    }

    /**
     * A hill of eight cells on which nothing is as at first: cells there and not have roofs and owners,
     * three were seen, sheet 0 has five bytes, 1 no shorts, 2 has twelve ints, 3 is lost; the latest
     * finding is 4.
     */
    static HillHours vineyard() {
        HillHours x = hill("3070;5915");
        x.stand(0, 20);
        x.stand(5, 3);
        x.stand(11, 7);
        Check.own(x, 1, 2, 3, 0, 2, 3, 1, 1, 2, 3, 3, 2);
        for (int season = 0; season < 4; season++) {
            x.days(season, 81 + season);
            x.clouds(season, 3 + 2 * season);
            for (int owner = 0; owner < 4; owner++) {
                x.worth(owner, season, 2 + owner + season);
            }
        }
        for (int sort = 0; sort < 3; sort++) {
            x.sort(sort, 0, 2100 + 700 * sort);
            x.sort(sort, 1, 11 + 8 * sort);
        }
        x.seen(0, 4);
        x.seen(1, 7);
        x.seen(3, 11);
        x.sheet(0, 0, 5);
        x.sheet(1, 1, 0);
        x.sheet(2, 2, 12);
        for (int i = 0; i < 5; i++) {
            x.put(0, 0, i, 3 - i);
        }
        for (int i = 0; i < 12; i++) {
            x.put(2, 2, i, 100000 + i);
        }
        x.copy(0, 0, 2, 0, 1);
        return x;
    }

    /** The vineyard with a text of twenty bytes, so that it has a fault. */
    static HillHours fullText() {
        HillHours x = vineyard();
        Check.typeInto(x, "xxxxxxxxxxx");
        return x;
    }

    /** The vineyard with eight seen. */
    static HillHours fullSeen() {
        HillHours x = vineyard();
        for (int i = 0; i < 5; i++) {
            x.seen(2, i);
        }
        return x;
    }

    /** The vineyard with its bytes wiped: no cells. */
    static HillHours bare() {
        HillHours x = vineyard();
        x.wipe();
        return x;
    }
}
