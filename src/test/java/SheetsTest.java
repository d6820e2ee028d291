/** Promises 30 to 37: sheets, counts, the digest. */
public final class SheetsTest {
    public static void main(String[] args) {
        sheet();
        lose();
        put();
        get();
        copy();
        copyRefuses();
        write();
        count();
        digest();
        Check.end();
    }

    private static void sheet() {
        HillHours x = new HillHours();
        Check.due("30 none", x.sheet(0, 0, 0), 0);
        Check.due("30 48", x.sheet(3, 2, 48), 48);
        Check.due("30 49", x.sheet(3, 2, 49), -2);
        Check.due("30 sheet 4", x.sheet(4, 0, 1), -2);
        Check.due("30 sheet -1", x.sheet(-1, 0, 1), -2);
        Check.due("30 form 3", x.sheet(0, 3, 1), -2);
        Check.due("30 form -1", x.sheet(0, -1, 1), -2);
        Check.due("30 BAD is ahead of SIZE", x.sheet(4, 0, -1), -2);
        Check.due("30 no finding yet", x.count(8), 0);
        Check.due("30 SIZE", x.sheet(3, 0, -1), -15);
        Check.due("30 SIZE, least", x.sheet(3, 0, Integer.MIN_VALUE), -15);
        Check.due("30 finding", x.count(8), 5);
        x.put(3, 2, 47, 9);
        Check.due("30 refusals change nothing", x.get(3, 2, 47), 9);
        x.sheet(3, 2, 48);
        Check.due("30 a new row", x.get(3, 2, 47), 0);
        x.put(3, 2, 5, 9);
        x.sheet(3, 2, 2);
        Check.due("30 shorter", x.get(3, 2, 5), Check.LEAST_INT);
        x.sheet(3, 1, 6);
        Check.due("30 longer, all 0", x.get(3, 1, 5), 0);
    }

    private static void lose() {
        HillHours x = new HillHours();
        Check.due("31 lost at first", x.lose(0), -11);
        Check.due("31 finding", x.count(8), 1);
        x.sheet(0, 1, 7);
        Check.due("31 lose", x.lose(0), 7);
        Check.due("31 lost", x.lose(0), -11);
        x.sheet(0, 1, 0);
        Check.due("31 a row of none is not lost", x.lose(0), 0);
        Check.due("31 sheet 4", x.lose(4), -2);
        Check.due("31 sheet -1", x.lose(-1), -2);
    }

    private static void put() {
        HillHours x = new HillHours();
        for (int form = 0; form < 3; form++) {
            x.sheet(form, form, 3);
            Check.due("32 put", x.put(form, form, 2, 0x12348081), 1);
        }
        Check.due("32 byte", x.get(0, 0, 2), -127);
        Check.due("32 short", x.get(1, 1, 2), -32639);
        Check.due("32 int", x.get(2, 2, 2), 0x12348081);
        x.put(0, 0, 0, 128);
        Check.due("32 byte 128", x.get(0, 0, 0), -128);
        x.put(0, 0, 1, -129);
        Check.due("32 byte -129", x.get(0, 0, 1), 127);
        x.put(1, 1, 0, 32768);
        Check.due("32 short 32768", x.get(1, 1, 0), -32768);
        Check.due("32 CAST", x.put(0, 1, 0, 5), -13);
        Check.due("32 finding 3", x.count(8), 3);
        Check.due("32 INDEX", x.put(0, 0, 3, 5), -12);
        Check.due("32 finding 2", x.count(8), 2);
        Check.due("32 INDEX -1", x.put(0, 0, -1, 5), -12);
        Check.due("32 CAST is ahead of INDEX", x.put(0, 1, 3, 5), -13);
        Check.due("32 NULL is ahead of CAST", x.put(3, 2, 3, 5), -11);
        Check.due("32 BAD is ahead of NULL", x.put(3, 3, 0, 5), -2);
        Check.due("32 BAD keeps the finding", x.count(8), 1);
        Check.due("32 sheet 4", x.put(4, 0, 0, 0), -2);
        Check.due("32 sheet -1", x.put(-1, 0, 0, 0), -2);
        Check.due("32 form -1", x.put(0, -1, 0, 0), -2);
        Check.due("32 refusals change nothing", x.get(0, 0, 0), -128);
        Check.due("32 the neighbour keeps its own", x.get(1, 1, 1), 0);
    }

    private static void get() {
        HillHours x = new HillHours();
        x.sheet(1, 2, 2);
        x.put(1, 2, 0, -5);
        Check.due("33 get", x.get(1, 2, 0), -5);
        Check.due("33 BAD sheet", x.get(4, 0, 0), Check.LEAST_INT);
        Check.due("33 BAD sheet -1", x.get(-1, 0, 0), Check.LEAST_INT);
        Check.due("33 BAD form", x.get(1, 3, 0), Check.LEAST_INT);
        Check.due("33 BAD form -1", x.get(1, -1, 0), Check.LEAST_INT);
        Check.due("33 no finding", x.count(8), 0);
        Check.due("33 INDEX", x.get(1, 2, 2), Check.LEAST_INT);
        Check.due("33 finding 2", x.count(8), 2);
        Check.due("33 INDEX -1", x.get(1, 2, -1), Check.LEAST_INT);
        Check.due("33 CAST", x.get(1, 1, 2), Check.LEAST_INT);
        Check.due("33 finding 3", x.count(8), 3);
        Check.due("33 NULL", x.get(0, 1, 2), Check.LEAST_INT);
        Check.due("33 finding 1", x.count(8), 1);
    }

    private static void copy() {
        HillHours x = new HillHours();
        x.sheet(0, 1, 6);
        for (int i = 0; i < 6; i++) {
            x.put(0, 1, i, 10 + i);
        }
        Check.due("34 to itself, up", x.copy(0, 0, 0, 2, 4), 1);
        items(x, 0, 1, 10, 11, 10, 11, 12, 13);
        Check.due("34 to itself, down", x.copy(0, 2, 0, 1, 4), 1);
        items(x, 0, 1, 10, 10, 11, 12, 13, 13);
        x.sheet(1, 1, 3);
        Check.due("34 to another", x.copy(0, 3, 1, 0, 3), 1);
        items(x, 1, 1, 12, 13, 13);
        items(x, 0, 1, 10, 10, 11, 12, 13, 13);
        Check.due("34 none, at the ends", x.copy(0, 6, 1, 3, 0), 1);
        Check.due("34 none changed", x.get(1, 1, 2), 13);
    }

    private static void items(HillHours x, int s, int form, int... due) {
        for (int i = 0; i < due.length; i++) {
            Check.due("34 item " + i, x.get(s, form, i), due[i]);
        }
    }

    private static void copyRefuses() {
        HillHours x = new HillHours();
        x.sheet(0, 1, 6);
        x.sheet(1, 1, 3);
        x.sheet(2, 0, 3);
        Check.due("34 sheet s", x.copy(4, 0, 3, 0, 0), -2);
        Check.due("34 sheet t", x.copy(3, 0, -1, 0, 0), -2);
        Check.due("34 no finding", x.count(8), 0);
        Check.due("34 NULL s", x.copy(3, 0, 0, 0, 0), -11);
        Check.due("34 NULL t", x.copy(0, -1, 3, 0, 0), -11);
        Check.due("34 finding 1", x.count(8), 1);
        Check.due("34 STORE", x.copy(0, -1, 2, 0, 0), -14);
        Check.due("34 finding 4", x.count(8), 4);
        int[][] bad = {{-1, 0, 1}, {0, -1, 1}, {0, 0, -1}, {0, 0, 4}, {4, 0, 3}, {0, 1, 3}, {7, 0, 0}, {0, 4, 0},
            {Integer.MAX_VALUE, 0, 1}, {0, Integer.MAX_VALUE, 1}, {1, 1, Integer.MAX_VALUE}, {1, 1, Integer.MIN_VALUE}};
        for (int[] b : bad) {
            Check.due("34 INDEX", x.copy(0, b[0], 1, b[1], b[2]), -12);
        }
        Check.due("34 finding 2", x.count(8), 2);
    }

    private static void write() {
        HillHours x = Check.hill("307");
        x.sheet(0, 0, 5);
        x.put(0, 0, 3, 77);
        Check.due("35 as many as cells", x.write(0, 0), 3);
        Check.due("35 cell 0", x.get(0, 0, 0), 11);
        Check.due("35 cell 1", x.get(0, 0, 1), 4);
        Check.due("35 cell 2", x.get(0, 0, 2), 12);
        Check.due("35 behind them", x.get(0, 0, 3), 77);
        x.sheet(1, 2, 2);
        Check.due("35 as many as items", x.write(3, 1), 2);
        Check.due("35 summer", x.get(1, 2, 1), 11);
        Check.due("35 season 4", x.write(4, 0), -2);
        Check.due("35 season -1", x.write(-1, 0), -2);
        Check.due("35 sheet 4", x.write(0, 4), -2);
        Check.due("35 sheet -1", x.write(0, -1), -2);
        Check.due("35 BAD is ahead of NULL", x.write(4, 3), -2);
        Check.due("35 NULL", x.write(0, 3), -11);
        Check.due("35 finding", x.count(8), 1);
        HillHours none = new HillHours();
        none.sheet(0, 0, 5);
        Check.due("35 no cells", none.write(0, 0), 0);
    }

    private static void count() {
        HillHours x = Check.hill("307;555");
        x.stand(0, 1);
        x.stand(5, 20);
        x.stand(6, 20);
        Check.own(x, 0, 0, 3, 3, 3, 3, 2);
        x.days(0, 1);
        x.seen(0, 0);
        x.seen(0, 0);
        int year = 0;
        for (int cell = 0; cell < 6; cell++) {
            year += x.hours(cell, -1);
        }
        int[] due = {6, 7, 2, 2, 2, 2, year, 271, 0};
        for (int what = 0; what < due.length; what++) {
            Check.due("36 count " + what, x.count(what), due[what]);
        }
        Check.due("36 count 9", x.count(9), -2);
        Check.due("36 count -1", x.count(-1), -2);
        x.type('x');
        int[] faulty = {0, 8, 0, 0, 0, 2, 0, 271, 0};
        for (int what = 0; what < faulty.length; what++) {
            Check.due("36 with a fault, count " + what, x.count(what), faulty[what]);
        }
    }

    private static void digest() {
        digestOf(new HillHours());
        digestOf(Check.hill("x"));
        HillHours x = Check.hill("3907;5550;1234");
        digestOf(x);
        x.stand(0, 6);
        Check.own(x, 0, 1, 2, 3, 1, 2, 0, 3, 2, 1, 0, 3);
        x.clouds(2, 7);
        x.sort(0, 0, 4000);
        x.seen(2, 3);
        x.worth(1, 2, 8);
        digestOf(x);
        long before = x.digest();
        Check.due("37 digest changes nothing", x.digest(), before);
        x.lose(0);
        Check.due("37 findings are not in it", x.digest(), before);
    }

    /** The digest by the public calls alone. */
    private static void digestOf(HillHours x) {
        long h = 17;
        for (int what = 0; what <= 7; what++) {
            h = 31 * h + x.count(what);
        }
        h = 31 * h + x.fault();
        for (int c = 0; c < x.count(0); c++) {
            long[] told = {x.cell(c, 0), x.cell(c, 1), x.cell(c, 2), x.light(c, 0), x.light(c, 1), x.light(c, 2),
                x.light(c, 3), x.hours(c, -1), x.shade(c, 0, 3), x.value(c, 1), x.highest(c, 500), x.set(c),
                x.clear(c, 2, -1, 0), x.clear(c, 2, -1, 1), x.clear(c, 2, 3, 0), x.clear(c, 2, 3, 1)};
            for (long v : told) {
                h = 31 * h + v;
            }
        }
        for (int o = 0; o < 4; o++) {
            h = 31 * (31 * h + x.has(o, 0)) + x.has(o, 1);
        }
        long[] last = {x.parts(0), x.parts(1), x.again(0, 900, 0), x.changes(0), x.changes(1), x.set(-1), x.whose(0),
            x.whose(1)};
        for (long v : last) {
            h = 31 * h + v;
        }
        Check.due("37 digest", x.digest(), h);
    }
}
