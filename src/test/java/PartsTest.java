/** Promises 15 to 18: parts, taken, highest, again. */
public final class PartsTest {
    public static void main(String[] args) {
        parts();
        taken();
        highest();
        again();
        againRefuses();
        Check.end();
    }

    private static void parts() {
        twoParts("", -1, -1);
        twoParts("5", -1, -1);
        twoParts("55", 0, 1);
        twoParts("555", 4320, 1);
        twoParts("5555", 0, 3);
        twoParts("5;5;5;5", -1, -1);
        twoParts("55;55", 0, 3);
        // {0, 1, 2} and {3, 4, 5} by columns of two: 0 over 2 over 4.
        twoParts("55;55;55", 0, 7);
        HillHours x = Check.hill("55;55");
        x.stand(0, 20);
        // Cell 1 loses 6 + 6 + 6 + 4 hours: 22 times 90.
        Check.due("15 with a roof", x.parts(0), 1980);
        Check.due("15 least bits", x.parts(1), 3);
        x.days(0, 0);
        Check.due("15 follows the days", x.parts(0), 1980 - 540);
        Check.due("15 what 2", x.parts(2), -2);
        Check.due("15 what -1", x.parts(-1), -2);
        // {0, 3} and {1, 2} are alike, but the first does not hang together.
        HillHours row = Check.hill("9009");
        Check.due("15 hangs together", row.parts(1), 3);
        x.type('x');
        Check.due("15 fault", x.parts(0), -1);
    }

    private static void twoParts(String text, int difference, int part) {
        HillHours x = Check.hill(text);
        Check.due("15 difference of " + text, x.parts(0), difference);
        Check.due("15 part of " + text, x.parts(1), part);
    }

    private static void taken() {
        HillHours x = Check.hill("555;555");
        Check.own(x, 0, 1, 1, 1, 2, 3);
        // 7 above the ground: one away 6, 3, 2, 1 dark hours; two away 3, 1, 1, 0.
        Check.due("16 from 1", x.taken(0, 7, 1), (12 + 5) * 90);
        Check.due("16 from the owner", x.taken(0, 7, 0), 0);
        Check.due("16 not from another row", x.taken(0, 20, 2), 0);
        Check.due("16 both sides", x.taken(1, 7, 1), 12 * 90);
        Check.due("16 both sides, 0", x.taken(1, 7, 0), 12 * 90);
        Check.due("16 nothing changes", x.count(6), 6 * 4320);
        x.stand(0, 7);
        Check.due("16 as it is", x.taken(0, 7, 1), 0);
        Check.due("16 below 0", x.taken(0, 0, 1), -17 * 90);
        Check.due("16 a little less", x.taken(0, 6, 1), x.has(1, 1) - hoursOfOneWith(6));
        x.days(0, 0);
        Check.due("16 by days", x.taken(0, 0, 1), -(6 + 2) * 90);
        Check.due("16 it still stands", x.cell(0, 1), 7);
        int[][] bad = {{6, 0, 0}, {-1, 0, 0}, {0, 21, 0}, {0, -1, 0}, {0, 0, 4}, {0, 0, -1}};
        for (int[] b : bad) {
            Check.due("16 refused", x.taken(b[0], b[1], b[2]), -1000002);
        }
        Check.due("16 no cells", new HillHours().taken(0, 0, 0), -1000002);
    }

    private static int hoursOfOneWith(int height) {
        HillHours x = Check.hill("555;555");
        Check.own(x, 0, 1, 1, 1, 2, 3);
        x.stand(0, height);
        return x.has(1, 1);
    }

    private static void highest() {
        HillHours x = Check.hill("55");
        Check.own(x, 0, 1);
        Check.due("17 one high takes none", x.highest(0, 0), 1);
        Check.due("17 89", x.highest(0, 89), 1);
        Check.due("17 90", x.highest(0, 90), 2);
        // 3 high takes 2 and 1 hours.
        Check.due("17 270", x.highest(0, 270), 3);
        Check.due("17 269", x.highest(0, 269), 2);
        Check.due("17 20 high takes 22", x.highest(0, 1980), 20);
        Check.due("17 less", x.highest(0, 1979) < 20 ? 1 : 0, 1);
        Check.due("17 most", x.highest(0, 99999), 20);
        x.stand(0, 9);
        Check.due("17 what stands is taken already", x.highest(0, 0) >= 9 ? 1 : 0, 1);
        Check.due("17 9 and 10 are unlike", x.highest(0, 0), 9);
        Check.own(x, 1, 1);
        x.stand(0, 0);
        Check.due("17 the owner of it, too", x.highest(0, 0), 1);
        HillHours apart = Check.hill("555");
        Check.own(apart, 0, 3, 2);
        Check.due("17 each owner by itself", apart.highest(1, 90), 2);
        Check.own(apart, 2, 3, 2);
        Check.due("17 both of one", apart.highest(1, 179), 1);
        Check.due("17 both of one, enough", apart.highest(1, 180), 2);
        Check.due("17 it stays", apart.cell(1, 1), 0);
        int[][] bad = {{3, 0}, {-1, 0}, {0, -1}, {0, 100000}};
        for (int[] b : bad) {
            Check.due("17 refused", apart.highest(b[0], b[1]), -2);
        }
    }

    private static void again() {
        HillHours x = Check.hill("5555");
        x.stand(0, 20);
        int before = x.parts(1);
        Check.due("18 parts with it", before, 3);
        Check.due("18 without it none change", x.again(0, 0, 0), 0);
        Check.due("18 the same part", x.again(0, 0, 1), 3);
        x.stand(3, 20);
        Check.due("18 the other one still stands", x.again(0, 0, 0), -1);
        Check.due("18 no part", x.again(0, 0, 1), -1);
        Check.due("18 d 99999", x.again(0, 99999, 0), 0);
        Check.due("18 it still stands", x.cell(0, 1), 20);
        HillHours row = Check.hill("000");
        row.stand(1, 20);
        Check.due("18 row", row.parts(1), 1);
        Check.due("18 row again", row.again(1, 4320, 0), 0);
        Check.due("18 row never alike", row.again(1, 4319, 0), -1);
        // With the roof 3600, 1080, 3510: {0} is best. Without it 3600, 3060, 4320.
        HillHours moved = Check.hill("009");
        moved.stand(0, 20);
        Check.due("18 the part with the roof", moved.parts(1), 1);
        Check.due("18 as it was, far apart", moved.again(0, 3780, 0), 0);
        Check.due("18 as it was, the part", moved.again(0, 3780, 1), 1);
        Check.due("18 one goes over", moved.again(0, 3779, 0), 1);
        Check.due("18 one goes over, the part", moved.again(0, 3779, 1), 3);
        Check.due("18 just so", moved.again(0, 2340, 0), 1);
        Check.due("18 less is not to be had", moved.again(0, 2339, 0), -1);
        Check.due("18 less, no part", moved.again(0, 2339, 1), -1);
        Check.due("18 parts stay", moved.parts(0), 990);
    }

    private static void againRefuses() {
        HillHours x = Check.hill("55");
        Check.due("18 nothing stands", x.again(0, 0, 0), -3);
        Check.due("18 BAD is ahead of NOT", x.again(0, -1, 0), -2);
        x.stand(0, 1);
        int[][] bad = {{2, 0, 0}, {-1, 0, 0}, {0, -1, 0}, {0, 100000, 0}, {0, 0, 2}, {0, 0, -1}};
        for (int[] b : bad) {
            Check.due("18 refused", x.again(b[0], b[1], b[2]), -2);
        }
        HillHours one = Check.hill("5");
        one.stand(0, 1);
        Check.due("18 no parts", one.again(0, 0, 0), -3);
        Check.due("18 no cells", new HillHours().again(0, 0, 0), -2);
    }
}
