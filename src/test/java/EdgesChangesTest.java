/** Boundary cases of promises 19 to 24: worth, value, change, changes, sort, set. */
public final class EdgesChangesTest extends Edges {
    public static void main(String[] args) {
        run(EdgesChangesTest.class, 19, 24);
    }

    // Promise 19: worth

    static void p19_worth_owner_0_is_the_first_and_3_the_last() {
        HillHours x = vineyard();
        is(x.worth(0, 0, 1), 2);
        is(x.worth(3, 3, 1), 8);
    }

    static void p19_worth_owner_minus_1_is_BAD() {
        refused(Edges::vineyard, BAD, x -> x.worth(-1, 0, 0));
    }

    static void p19_worth_owner_4_is_BAD() {
        refused(Edges::vineyard, BAD, x -> x.worth(4, 0, 0));
    }

    static void p19_worth_season_minus_1_is_BAD() {
        refused(Edges::vineyard, BAD, x -> x.worth(1, -1, 0));
    }

    static void p19_worth_season_4_is_BAD() {
        refused(Edges::vineyard, BAD, x -> x.worth(1, 4, 0));
    }

    static void p19_worth_0_is_the_least_and_9_the_most() {
        HillHours x = vineyard();
        is(x.worth(1, 2, 0), 5);
        is(x.worth(1, 2, 9), 0);
        is(x.worth(1, 2, 1), 9);
    }

    static void p19_worth_minus_1_is_BAD() {
        refused(Edges::vineyard, BAD, x -> x.worth(0, 0, -1));
    }

    static void p19_worth_10_is_BAD() {
        refused(Edges::vineyard, BAD, x -> x.worth(0, 0, 10));
    }

    static void p19_worth_far_numbers_are_BAD() {
        for (int v : far()) {
            is(vineyard().worth(v, 0, 0), BAD);
            is(vineyard().worth(0, v, 0), BAD);
            is(vineyard().worth(0, 0, v), BAD);
        }
    }

    // Promise 20: value

    private static HillHours worthAll(HillHours x, int v) {
        for (int place = 0; place < 16; place++) {
            x.worth(place / 4, place % 4, v);
        }
        return x;
    }

    static void p20_value_is_0_where_nothing_is_of_worth() {
        is(worthAll(hill("5"), 0).value(0, 0), 0);
    }

    static void p20_value_is_0_in_a_year_without_days() {
        HillHours x = worthAll(hill("5"), 9);
        for (int season = 0; season < 4; season++) {
            x.days(season, 0);
        }
        is(x.value(0, 3), 0);
    }

    static void p20_value_at_most() {
        HillHours x = worthAll(hill("5"), 9);
        for (int season = 0; season < 4; season++) {
            x.days(season, 99);
        }
        is(x.value(0, 3), 9 * 4752);
    }

    static void p20_value_at_first_is_the_hours_in_a_year() {
        HillHours x = hill("307");
        for (int owner = 0; owner < 4; owner++) {
            is(x.value(1, owner), 33 * 90);
        }
    }

    static void p20_value_the_last_cell_there_and_the_first_not_there() {
        is(worthAll(vineyard(), 0).value(7, 0), 0);
        refused(Edges::vineyard, BAD, x -> x.value(8, 0));
    }

    static void p20_value_cell_minus_1_is_BAD() {
        refused(Edges::vineyard, BAD, x -> x.value(-1, 0));
    }

    static void p20_value_owner_0_is_the_first_and_3_the_last() {
        HillHours x = worthAll(hill("5"), 0);
        x.worth(0, 0, 2);
        x.worth(3, 3, 5);
        is(x.value(0, 0), 2 * 12 * 90);
        is(x.value(0, 3), 5 * 12 * 90);
    }

    static void p20_value_owner_minus_1_is_BAD() {
        refused(Edges::vineyard, BAD, x -> x.value(0, -1));
    }

    static void p20_value_owner_4_is_BAD() {
        refused(Edges::vineyard, BAD, x -> x.value(0, 4));
    }

    static void p20_value_on_an_empty_hill_is_BAD() {
        refused(Edges::bare, BAD, x -> x.value(0, 0));
    }

    static void p20_value_far_numbers_are_BAD() {
        for (int v : far()) {
            is(vineyard().value(v, 0), BAD);
            is(vineyard().value(0, v), BAD);
        }
    }

    // Promise 21: change

    /**
     * Cell 1 has 6, 6, 6, 8 hours in its seasons, cell 4 has 0, 6, 8, 10, cell 7 has 1, 6, 9, 9; the
     * other cells have more and belong to owner 3, to whom nothing is of worth. Each of the owners 0
     * to 2 would rather have both other ones' cells than his own.
     */
    private static HillHours quarrel() {
        HillHours x = worthAll(hill("555;707;906"), 0);
        x.stand(0, 20);
        Check.own(x, 3, 0, 3, 3, 1, 3, 3, 2, 3);
        x.worth(0, 3, 1);
        x.worth(1, 0, 1);
        x.worth(2, 0, 1);
        x.worth(2, 3, 3);
        return x;
    }

    static void p21_change_where_both_have_more() {
        is(quarrel().change(1, 4), 1);
        is(quarrel().change(4, 1), 1);
    }

    static void p21_change_where_to_one_both_are_alike() {
        HillHours x = quarrel();
        x.worth(0, 3, 0);
        x.worth(0, 1, 1);
        is(x.value(1, 0), x.value(4, 0));
        is(x.change(1, 4), 0);
        is(x.change(4, 1), 0);
    }

    static void p21_change_where_one_has_less() {
        is(quarrel().change(0, 1), 0);
        is(quarrel().change(1, 0), 0);
    }

    static void p21_change_of_like_owners_is_0() {
        HillHours x = quarrel();
        x.owner(4, 0);
        is(x.change(1, 4), 0);
        x.owner(1, 1);
        x.owner(4, 1);
        is(x.change(1, 4), 0);
    }

    static void p21_change_of_one_with_itself_is_BAD() {
        refused(Edges::vineyard, BAD, x -> x.change(0, 0));
        refused(Edges::vineyard, BAD, x -> x.change(7, 7));
    }

    static void p21_change_the_last_cell_there_and_the_first_not_there() {
        is(hill("55").change(0, 1), 0);
        is(hill("55").change(1, 0), 0);
        refused(Edges::vineyard, BAD, x -> x.change(8, 0));
        refused(Edges::vineyard, BAD, x -> x.change(0, 8));
    }

    static void p21_change_cell_minus_1_is_BAD() {
        refused(Edges::vineyard, BAD, x -> x.change(-1, 0));
        refused(Edges::vineyard, BAD, x -> x.change(0, -1));
    }

    static void p21_change_on_an_empty_hill_is_BAD() {
        refused(Edges::bare, BAD, x -> x.change(0, 1));
    }

    static void p21_change_asks_and_does_not_do_it() {
        HillHours x = quarrel();
        is(x.change(1, 4), 1);
        is(told(x).equals(told(quarrel())) ? 1 : 0, 1);
    }

    static void p21_change_far_numbers_are_BAD() {
        for (int v : far()) {
            is(vineyard().change(v, 0), BAD);
            is(vineyard().change(0, v), BAD);
        }
    }

    // Promise 22: changes

    static void p22_changes_of_an_empty_hill_are_0() {
        is(bare().changes(0), 0);
        is(bare().changes(1), 0);
    }

    static void p22_changes_of_one_cell_and_of_two_have_no_ring() {
        is(hill("5").changes(0), 0);
        is(hill("5").changes(1), 0);
        is(hill("55").changes(1), 0);
    }

    static void p22_changes_of_one_owner_are_0() {
        HillHours x = quarrel();
        Check.own(x, 1, 1, 1, 1, 1, 1, 1, 1, 1);
        is(x.changes(0), 0);
        is(x.changes(1), 0);
    }

    static void p22_changes_counts_each_pair_once() {
        is(quarrel().changes(0), 3);
    }

    static void p22_changes_counts_each_ring_once_and_the_other_way_round_as_another() {
        is(quarrel().changes(1), 2);
    }

    static void p22_changes_a_ring_one_way_round_only() {
        HillHours x = quarrel();
        // Owner 1 would have cell 7 still (9 hours to 8), cell 1 no more (6 to 8).
        x.worth(1, 0, 0);
        x.worth(1, 2, 1);
        is(x.change(4, 1), 0);
        is(x.changes(1), 1);
    }

    static void p22_changes_no_ring_where_to_one_both_are_alike() {
        HillHours x = quarrel();
        x.worth(0, 3, 0);
        x.worth(0, 1, 1);
        is(x.changes(1), 0);
    }

    static void p22_changes_no_ring_of_two_owners() {
        HillHours x = quarrel();
        x.owner(7, 0);
        is(x.changes(0), 2);
        is(x.changes(1), 0);
    }

    static void p22_changes_only_cells_that_there_are() {
        HillHours x = quarrel();
        x.wipe();
        Check.typeInto(x, "555;707");
        is(x.changes(0), 1);
        is(x.changes(1), 0);
    }

    /** Cell 0, cell 11 and cells next to one another are in pairs and in rings. */
    static HillHours greatQuarrel() {
        HillHours x = worthAll(hill("5065;9171;4330"), 0);
        Check.own(x, 1, 2, 2, 3, 0, 2, 1, 3, 1, 0, 3, 0);
        for (int cell : new int[] {1, 5, 9, 10}) {
            x.stand(cell, 20);
        }
        for (int place : new int[] {2, 5, 6, 7, 8, 9, 13, 14, 15}) {
            x.worth(place / 4, place % 4, 9);
        }
        return x;
    }

    private static boolean wants(HillHours x, int own, int other) {
        int owner = x.cell(own, 2);
        return owner != x.cell(other, 2) && x.value(other, owner) > x.value(own, owner);
    }

    static void p22_changes_of_twelve_cells_in_pairs() {
        HillHours x = greatQuarrel();
        int pairs = 0;
        for (int a = 0; a < 12; a++) {
            for (int b = 0; b < a; b++) {
                pairs += x.change(a, b);
            }
        }
        is(pairs, 14);
        is(x.changes(0), 14);
    }

    static void p22_changes_of_twelve_cells_in_rings() {
        boolean[][] wants = new boolean[12][12];
        for (int a = 0; a < 12; a++) {
            HillHours x = greatQuarrel();
            for (int b = 0; b < 12; b++) {
                wants[a][b] = wants(x, a, b);
            }
        }
        HillHours x = greatQuarrel();
        int[] owners = new int[12];
        for (int a = 0; a < 12; a++) {
            owners[a] = x.cell(a, 2);
        }
        int thrice = 0;
        for (int n = 0; n < 1728; n++) {
            int a = n / 144;
            int b = n / 12 % 12;
            int c = n % 12;
            thrice += wants[a][b] && wants[b][c] && wants[c][a] && owners[a] != owners[c] ? 1 : 0;
        }
        is(thrice, 3 * 21);
        is(x.changes(1), 21);
    }

    static void p22_changes_ring_minus_1_is_BAD() {
        refused(Edges::vineyard, BAD, x -> x.changes(-1));
    }

    static void p22_changes_ring_2_is_BAD() {
        refused(Edges::vineyard, BAD, x -> x.changes(2));
    }

    static void p22_changes_ring_2_of_an_empty_hill_is_BAD() {
        refused(Edges::bare, BAD, x -> x.changes(2));
    }

    static void p22_changes_far_numbers_are_BAD() {
        for (int v : far()) {
            is(vineyard().changes(v), BAD);
        }
    }

    // Promise 23: sort

    static void p23_sort_0_is_the_first_and_2_the_last() {
        HillHours x = vineyard();
        is(x.sort(0, 0, 1), 2100);
        is(x.sort(2, 1, 1), 27);
    }

    static void p23_sort_minus_1_is_BAD() {
        refused(Edges::vineyard, BAD, x -> x.sort(-1, 0, 1));
    }

    static void p23_sort_3_is_BAD() {
        refused(Edges::vineyard, BAD, x -> x.sort(3, 0, 1));
        refused(Edges::vineyard, BAD, x -> x.sort(3, 1, 1));
    }

    static void p23_sort_what_minus_1_is_BAD() {
        refused(Edges::vineyard, BAD, x -> x.sort(0, -1, 1));
    }

    static void p23_sort_what_2_is_BAD() {
        refused(Edges::vineyard, BAD, x -> x.sort(0, 2, 1));
    }

    static void p23_sort_NEEDS_0_is_the_least_and_9999_the_most() {
        HillHours x = vineyard();
        is(x.sort(1, 0, 0), 2800);
        is(x.sort(1, 0, 9999), 0);
        is(x.sort(1, 0, 1), 9999);
    }

    static void p23_sort_NEEDS_minus_1_is_BAD() {
        refused(Edges::vineyard, BAD, x -> x.sort(1, 0, -1));
    }

    static void p23_sort_NEEDS_10000_is_BAD() {
        refused(Edges::vineyard, BAD, x -> x.sort(1, 0, 10000));
    }

    static void p23_sort_PAYS_0_is_the_least_and_99_the_most() {
        HillHours x = vineyard();
        is(x.sort(1, 1, 0), 19);
        is(x.sort(1, 1, 99), 0);
        is(x.sort(1, 1, 1), 99);
    }

    static void p23_sort_PAYS_minus_1_is_BAD() {
        refused(Edges::vineyard, BAD, x -> x.sort(1, 1, -1));
    }

    static void p23_sort_PAYS_100_is_BAD_though_it_may_be_needed() {
        refused(Edges::vineyard, BAD, x -> x.sort(1, 1, 100));
        is(vineyard().sort(1, 0, 100), 2800);
    }

    static void p23_sort_far_numbers_are_BAD() {
        for (int v : far()) {
            is(vineyard().sort(v, 0, 0), BAD);
            is(vineyard().sort(0, v, 0), BAD);
            is(vineyard().sort(0, 0, v), BAD);
            is(vineyard().sort(0, 1, v), BAD);
        }
    }

    // Promise 24: set

    private static void row(HillHours x, int most, int... sorts) {
        is(x.set(NONE), most);
        for (int cell = 0; cell < sorts.length; cell++) {
            is(x.set(cell), sorts[cell]);
        }
        is(x.set(sorts.length), BAD);
    }

    private static void sorts(HillHours x, int what, int... v) {
        for (int sort = 0; sort < 3; sort++) {
            x.sort(sort, what, v[sort]);
        }
    }

    static void p24_set_on_an_empty_hill_pays_0() {
        row(new HillHours(), 0);
        row(bare(), 0);
    }

    static void p24_set_on_one_cell_what_pays_most() {
        row(hill("5"), 30, 2);
    }

    static void p24_set_all_twelve_cells_with_four_of_each() {
        row(hill(EVEN), 240, 0, 0, 0, 0, 1, 1, 1, 1, 2, 2, 2, 2);
    }

    static void p24_set_four_cells_of_a_sort_and_none_on_the_fifth() {
        HillHours x = hill("5555");
        sorts(x, 0, 9999, 9999, 0);
        row(x, 120, 2, 2, 2, 2);
        HillHours more = hill("55;55;55");
        sorts(more, 0, 9999, 9999, 0);
        row(more, 120, -1, -1, 2, 2, 2, 2);
    }

    static void p24_set_needs_as_many_hours_as_there_are_and_not_one_more() {
        HillHours x = hill("5");
        sorts(x, 0, 4321, 4321, 4320);
        row(x, 30, 2);
        sorts(x, 0, 4321, 4320, 4321);
        row(x, 20, 1);
        sorts(x, 0, 4320, 4321, 4321);
        row(x, 10, 0);
        sorts(x, 0, 4321, 4321, 4321);
        row(x, 0, -1);
    }

    static void p24_set_needs_0_without_any_hours() {
        HillHours x = hill("5");
        for (int season = 0; season < 4; season++) {
            x.days(season, 0);
        }
        row(x, 0, -1);
        x.sort(1, 0, 0);
        row(x, 20, 1);
        x.sort(1, 0, 1);
        row(x, 0, -1);
    }

    static void p24_set_needs_9999_which_no_cell_has() {
        HillHours x = hill("5");
        for (int season = 0; season < 4; season++) {
            x.days(season, 99);
        }
        sorts(x, 0, 9999, 9999, 9999);
        row(x, 0, -1);
        x.sort(0, 0, 4753);
        row(x, 0, -1);
        x.sort(0, 0, 4752);
        row(x, 10, 0);
    }

    static void p24_set_none_is_ahead_of_a_sort_that_pays_0() {
        HillHours x = hill("55");
        sorts(x, 1, 0, 0, 0);
        row(x, 0, -1, -1);
    }

    static void p24_set_pays_99_each() {
        HillHours x = hill(EVEN);
        sorts(x, 1, 99, 99, 99);
        row(x, 1188, 0, 0, 0, 0, 1, 1, 1, 1, 2, 2, 2, 2);
    }

    static void p24_set_of_like_rows_the_least_sorts_from_cell_0_on() {
        HillHours x = hill("55;55;55");
        sorts(x, 1, 7, 7, 7);
        row(x, 42, 0, 0, 0, 0, 1, 1);
        sorts(x, 1, 7, 0, 0);
        row(x, 28, -1, -1, 0, 0, 0, 0);
        sorts(x, 1, 7, 0, 7);
        row(x, 42, 0, 0, 0, 0, 2, 2);
    }

    static void p24_set_follows_what_is_changed() {
        HillHours x = hill("55");
        row(x, 60, 2, 2);
        x.sort(2, 1, 3);
        row(x, 40, 1, 1);
        x.sort(1, 0, 4320);
        row(x, 40, 1, 1);
        x.stand(0, 20);
        row(x, 30, 1, 0);
        x.stand(0, 0);
        x.days(0, 89);
        row(x, 20, 0, 0);
        x.type(';');
        row(x, 0);
        x.wipe();
        x.type('5');
        row(x, 10, 0);
        x.wipe();
        row(x, 0);
    }

    static void p24_set_cell_minus_2_is_BAD() {
        refused(Edges::vineyard, BAD, x -> x.set(-2));
    }

    static void p24_set_the_first_cell_not_there_is_BAD() {
        refused(Edges::vineyard, BAD, x -> x.set(8));
    }

    static void p24_set_on_an_empty_hill_cell_0_is_BAD() {
        refused(Edges::bare, BAD, x -> x.set(0));
    }

    static void p24_set_far_numbers_are_BAD() {
        for (int v : far()) {
            is(vineyard().set(v), BAD);
        }
    }
}
