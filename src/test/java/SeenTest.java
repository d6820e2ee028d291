/** Promises 25 to 29: seen, forget, whose, clouds, clear. */
public final class SeenTest {
    public static void main(String[] args) {
        seen();
        whose();
        clouds();
        mean();
        chance();
        clearRefuses();
        Check.end();
    }

    private static void seen() {
        HillHours x = new HillHours();
        Check.due("26 none to forget", x.forget(), 0);
        Check.due("25 season 4", x.seen(4, 0), -2);
        Check.due("25 season -1", x.seen(-1, 0), -2);
        Check.due("25 hour 12", x.seen(0, 12), -2);
        Check.due("25 hour -1", x.seen(0, -1), -2);
        for (int i = 1; i <= 8; i++) {
            Check.due("25 the same again", x.seen(3, 11), i);
        }
        Check.due("25 full", x.seen(0, 0), -4);
        Check.due("25 BAD is ahead of FULL", x.seen(0, 12), -2);
        Check.due("25 count", x.count(5), 8);
        Check.due("26 forget", x.forget(), 8);
        Check.due("26 none more", x.forget(), 0);
        Check.due("26 count", x.count(5), 0);
        Check.due("25 room again", x.seen(0, 0), 1);
    }

    private static void whose() {
        HillHours x = Check.hill("307;307");
        Check.own(x, 0, 1, 2, 2, 3, 2);
        Check.due("27 none seen: all", x.whose(0), 63);
        Check.due("27 all owners", x.whose(1), 4);
        x.seen(0, 0);
        // Cells 1 and 4 lie below the 3 in the east.
        Check.due("27 at dawn", x.whose(0), 0b101101);
        Check.due("27 two owners", x.whose(1), 2);
        x.seen(0, 11);
        Check.due("27 and at dusk", x.whose(0), 0b100100);
        Check.due("27 one owner", x.whose(1), 1);
        x.stand(0, 20);
        x.stand(3, 20);
        Check.due("27 with roofs none", x.whose(0), 0);
        Check.due("27 no owner", x.whose(1), 0);
        x.forget();
        x.seen(3, 0);
        Check.due("27 in summer", x.whose(0), 0b001001);
        x.forget();
        Check.due("27 forgotten: all", x.whose(0), 63);
        Check.due("27 what 2", x.whose(2), -2);
        Check.due("27 what -1", x.whose(-1), -2);
        Check.due("27 no cells", new HillHours().whose(0), 0);
    }

    private static void clouds() {
        HillHours x = new HillHours();
        for (int season = 0; season < 4; season++) {
            Check.due("28 at first", x.clouds(season, 16 - season), 4);
        }
        for (int season = 0; season < 4; season++) {
            Check.due("28 what it was", x.clouds(season, 0), 16 - season);
        }
        int[][] bad = {{4, 0}, {-1, 0}, {0, 17}, {0, -1}};
        for (int[] b : bad) {
            Check.due("28 refused", x.clouds(b[0], b[1]), -2);
        }
        Check.due("28 refusals change nothing", x.clouds(0, 0), 0);
    }

    private static void mean() {
        HillHours x = Check.hill("307");
        // Cell 1 has 4, 8, 10, 11 hours.
        fraction("29 12 times 3 by 4", x, 0, 3, -1, 9, 1);
        fraction("29 10 times 3 by 4", x, 1, 2, -1, 15, 2);
        fraction("29 11 times 3 by 4", x, 1, 3, -1, 33, 4);
        x.clouds(3, 15);
        fraction("29 11 by 16", x, 1, 3, -1, 11, 16);
        x.clouds(3, 16);
        fraction("29 none: 0 by 1", x, 1, 3, -1, 0, 1);
        x.clouds(3, 0);
        fraction("29 all", x, 1, 3, -1, 11, 1);
        HillHours dark = Check.hill("707");
        dark.stand(0, 20);
        fraction("29 no hours", dark, 1, 0, -1, 0, 1);
        fraction("29 no hours, 0 at least", dark, 1, 0, 0, 1, 1);
        fraction("29 no hours, 1 at least", dark, 1, 0, 1, 0, 1);
    }

    private static void chance() {
        HillHours x = Check.hill("307");
        // Four hours, each clear by 3 of 4: 81, 108, 54, 12, 1 of 256.
        fraction("29 0 of 4", x, 1, 0, 0, 1, 1);
        fraction("29 1 of 4", x, 1, 0, 1, 255, 256);
        fraction("29 2 of 4", x, 1, 0, 2, 243, 256);
        fraction("29 3 of 4", x, 1, 0, 3, 189, 256);
        fraction("29 4 of 4", x, 1, 0, 4, 81, 256);
        fraction("29 5 of 4", x, 1, 0, 5, 0, 1);
        fraction("29 12 of 4", x, 1, 0, 12, 0, 1);
        x.clouds(0, 8);
        fraction("29 by halves", x, 1, 0, 3, 5, 16);
        x.clouds(0, 16);
        fraction("29 all clouds", x, 1, 0, 1, 0, 1);
        fraction("29 all clouds, 0", x, 1, 0, 0, 1, 1);
        x.clouds(0, 0);
        fraction("29 no clouds", x, 1, 0, 4, 1, 1);
        fraction("29 no clouds, 5", x, 1, 0, 5, 0, 1);
        x.clouds(3, 15);
        fraction("29 12 of 12", x, 2, 3, 12, 1, 1L << 48);
        fraction("29 1 of 12", x, 2, 3, 1, (1L << 48) - 129746337890625L, 1L << 48);
        x.clouds(3, 1);
        fraction("29 12 of 12, few clouds", x, 2, 3, 12, 129746337890625L, 1L << 48);
    }

    private static void fraction(String call, HillHours x, int cell, int season, int k, long above, long below) {
        Check.due(call + ", above", x.clear(cell, season, k, 0), above);
        Check.due(call + ", below", x.clear(cell, season, k, 1), below);
    }

    private static void clearRefuses() {
        HillHours x = Check.hill("307");
        int[][] bad = {{3, 0, 0, 0}, {-1, 0, 0, 0}, {0, 4, 0, 0}, {0, -1, 0, 0}, {0, 0, 13, 0}, {0, 0, -2, 0},
            {0, 0, 0, 2}, {0, 0, 0, -1}};
        for (int[] b : bad) {
            Check.due("29 refused", x.clear(b[0], b[1], b[2], b[3]), Check.BAD_LONG);
        }
        Check.due("29 no cells", new HillHours().clear(0, 0, 0, 0), Check.BAD_LONG);
    }
}
