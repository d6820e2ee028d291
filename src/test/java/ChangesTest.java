/** Promises 19 to 24: worth, value, change, changes, sort, set. */
public final class ChangesTest {
    public static void main(String[] args) {
        worth();
        value();
        change();
        rings();
        sort();
        set();
        setLeast();
        Check.end();
    }

    private static void worth() {
        HillHours x = new HillHours();
        for (int owner = 0; owner < 4; owner++) {
            for (int season = 0; season < 4; season++) {
                Check.due("19 at first", x.worth(owner, season, (owner + 3 * season) % 10), 1);
            }
        }
        for (int owner = 0; owner < 4; owner++) {
            for (int season = 0; season < 4; season++) {
                Check.due("19 what it was", x.worth(owner, season, 0), (owner + 3 * season) % 10);
            }
        }
        int[][] bad = {{4, 0, 0}, {-1, 0, 0}, {0, 4, 0}, {0, -1, 0}, {0, 0, 10}, {0, 0, -1}};
        for (int[] b : bad) {
            Check.due("19 refused", x.worth(b[0], b[1], b[2]), -2);
        }
        Check.due("19 v 9", x.worth(0, 0, 9), 0);
        Check.due("19 kept", x.worth(0, 0, 9), 9);
    }

    private static void value() {
        HillHours x = Check.hill("307");
        x.days(0, 2);
        x.days(1, 3);
        x.days(2, 5);
        x.days(3, 7);
        x.worth(2, 0, 9);
        x.worth(2, 1, 0);
        x.worth(2, 2, 4);
        Check.due("20 of one", x.value(1, 2), 4 * 2 * 9 + 10 * 5 * 4 + 11 * 7);
        Check.due("20 of another", x.value(1, 1), 4 * 2 + 8 * 3 + 10 * 5 + 11 * 7);
        Check.due("20 whoever has it", x.value(2, 2), 12 * (2 * 9 + 5 * 4 + 7));
        int[][] bad = {{3, 0}, {-1, 0}, {0, 4}, {0, -1}};
        for (int[] b : bad) {
            Check.due("20 refused", x.value(b[0], b[1]), -2);
        }
    }

    /**
     * Cell 1 has 6, 6, 6, 8 hours in its seasons, cell 4 has 0, 6, 8, 10, cell 7 has 1, 6, 9, 9;
     * the others belong to owner 3, who would have nothing more than another thing.
     */
    private static HillHours quarrel() {
        HillHours x = Check.hill("555;707;906");
        x.stand(0, 20);
        Check.own(x, 3, 0, 3, 3, 1, 3, 3, 2, 3);
        worths(x, 0, 0, 0, 0, 1);
        worths(x, 1, 1, 0, 0, 0);
        worths(x, 2, 1, 0, 0, 3);
        worths(x, 3, 0, 0, 0, 0);
        return x;
    }

    private static void worths(HillHours x, int owner, int... v) {
        for (int season = 0; season < 4; season++) {
            x.worth(owner, season, v[season]);
        }
    }

    private static void change() {
        HillHours x = quarrel();
        int[][] hours = {{1, 6, 6, 6, 8}, {4, 0, 6, 8, 10}, {7, 1, 6, 9, 9}};
        for (int[] h : hours) {
            for (int season = 0; season < 4; season++) {
                Check.due("21 the hill is as meant", x.hours(h[0], season), h[season + 1]);
            }
        }
        Check.due("21 both would", x.change(1, 4), 1);
        Check.due("21 turned", x.change(4, 1), 1);
        Check.due("21 both would", x.change(4, 7), 1);
        Check.due("21 both would", x.change(7, 1), 1);
        Check.due("21 only one would", x.change(1, 0), 0);
        Check.due("21 only the other one would", x.change(0, 1), 0);
        x.owner(4, 0);
        Check.due("21 of one owner", x.change(1, 4), 0);
        x.owner(4, 1);
        worths(x, 0, 0, 1, 0, 0);
        Check.due("21 alike is not more", x.change(1, 4), 0);
        int[][] bad = {{0, 0}, {9, 0}, {0, 9}, {-1, 0}, {0, -1}, {8, 8}};
        for (int[] b : bad) {
            Check.due("21 refused", x.change(b[0], b[1]), -2);
        }
    }

    private static void rings() {
        HillHours x = quarrel();
        Check.due("22 pairs", x.changes(0), 3);
        Check.due("22 both ways round", x.changes(1), 2);
        // In season 2 the three cells have 6, 8 and 9 hours: the owner of cell 4 would have cell 7 alone.
        worths(x, 0, 0, 0, 1, 0);
        worths(x, 1, 0, 0, 1, 0);
        Check.due("22 one wants only what is best", x.change(4, 1), 0);
        Check.due("22 one pair less", x.changes(0), 2);
        Check.due("22 one way round", x.changes(1), 1);
        HillHours two = quarrel();
        two.owner(7, 0);
        Check.due("22 no ring of two owners", two.changes(1), 0);
        Check.due("22 but two pairs", two.changes(0), 2);
        HillHours like = Check.hill("55;55;55");
        Check.own(like, 0, 1, 2, 3, 0, 1);
        Check.due("22 all alike, no ring", like.changes(1), 0);
        Check.due("22 all alike, no pair", like.changes(0), 0);
        Check.due("22 ring 2", x.changes(2), -2);
        Check.due("22 ring -1", x.changes(-1), -2);
        Check.due("22 no cells", new HillHours().changes(0), 0);
        Check.due("22 no cells, rings", new HillHours().changes(1), 0);
    }

    private static void sort() {
        HillHours x = new HillHours();
        for (int sort = 0; sort < 3; sort++) {
            Check.due("23 needs at first", x.sort(sort, 0, 9999 - sort), 1000);
            Check.due("23 pays at first", x.sort(sort, 1, 99 - sort), 10 * sort + 10);
            Check.due("23 needs", x.sort(sort, 0, 0), 9999 - sort);
            Check.due("23 pays", x.sort(sort, 1, 0), 99 - sort);
        }
        int[][] bad = {{3, 0, 0}, {-1, 0, 0}, {0, 2, 0}, {0, -1, 0}, {0, 0, 10000}, {0, 0, -1}, {0, 1, 100}, {0, 1, -1}};
        for (int[] b : bad) {
            Check.due("23 refused", x.sort(b[0], b[1], b[2]), -2);
        }
        Check.due("23 refusals change nothing", x.sort(0, 0, 0), 0);
    }

    private static void set() {
        HillHours x = Check.hill("5555;5555;5555");
        row(x, 4 * 60, 0, 0, 0, 0, 1, 1, 1, 1, 2, 2, 2, 2);
        x.sort(2, 0, 4320);
        row(x, 4 * 60, 0, 0, 0, 0, 1, 1, 1, 1, 2, 2, 2, 2);
        x.sort(2, 0, 4321);
        row(x, 4 * 30, -1, -1, -1, -1, 0, 0, 0, 0, 1, 1, 1, 1);
        x.sort(1, 1, 0);
        row(x, 40, -1, -1, -1, -1, -1, -1, -1, -1, 0, 0, 0, 0);
        x.days(0, 0);
        x.sort(0, 0, 3240);
        row(x, 40, -1, -1, -1, -1, -1, -1, -1, -1, 0, 0, 0, 0);
        x.sort(0, 0, 3241);
        row(x, 0, -1, -1, -1, -1, -1, -1, -1, -1, -1, -1, -1, -1);
        Check.due("24 no such cell", Check.hill("55").set(2), -2);
        Check.due("24 cell -2", x.set(-2), -2);
        Check.due("24 no cells", new HillHours().set(-1), 0);
        Check.due("24 no cell 0", new HillHours().set(0), -2);
    }

    private static void setLeast() {
        HillHours x = Check.hill("55;55;55");
        x.sort(0, 1, 7);
        x.sort(1, 1, 7);
        x.sort(2, 1, 7);
        row(x, 42, 0, 0, 0, 0, 1, 1);
        x.sort(0, 1, 6);
        row(x, 42, 1, 1, 1, 1, 2, 2);
        // The cells have 4320, 2340 and 2970 hours.
        HillHours roof = Check.hill("555");
        roof.stand(0, 20);
        roof.sort(2, 0, 4320);
        roof.sort(1, 0, 2340);
        row(roof, 70, 2, 1, 1);
        roof.sort(1, 0, 2341);
        row(roof, 60, 2, 0, 1);
        roof.stand(0, 0);
        row(roof, 90, 2, 2, 2);
        // Four at most: the one that pays best is kept for the last cells.
        HillHours five = Check.hill("555;555");
        five.sort(0, 1, 0);
        five.sort(1, 0, 9999);
        row(five, 120, -1, -1, 2, 2, 2, 2);
    }

    private static void row(HillHours x, int most, int... sorts) {
        Check.due("24 cells", x.count(0), sorts.length);
        Check.due("24 most", x.set(-1), most);
        for (int cell = 0; cell < sorts.length; cell++) {
            Check.due("24 cell " + cell, x.set(cell), sorts[cell]);
        }
    }
}
