/** Boundary cases of promises 15 to 18: parts, taken, highest, again. */
public final class EdgesPartsTest extends Edges {
    public static void main(String[] args) {
        run(EdgesPartsTest.class, 15, 18);
    }

    // Promise 15: parts

    private static void parts(HillHours x, int difference, int part) {
        is(x.parts(0), difference);
        is(x.parts(1), part);
    }

    static void p15_parts_of_an_empty_hill_are_NONE() {
        parts(new HillHours(), NONE, NONE);
        parts(bare(), NONE, NONE);
    }

    static void p15_parts_with_a_fault_are_NONE() {
        parts(fullText(), NONE, NONE);
        parts(hill("55;5"), NONE, NONE);
    }

    static void p15_parts_of_one_cell_are_NONE_for_the_other_has_a_cell_too() {
        parts(hill("5"), NONE, NONE);
    }

    static void p15_parts_of_two_cells_in_a_row() {
        parts(hill("55"), 0, 1);
    }

    static void p15_parts_of_two_cells_one_above_the_other() {
        parts(hill("5;5"), 0, 1);
    }

    static void p15_parts_the_first_may_be_cell_0_alone() {
        parts(hill("5;5;5"), 4320, 1);
    }

    static void p15_parts_the_first_may_be_all_but_one() {
        // The cells have 3600, 3060 and 4320 hours.
        parts(hill("009"), 2340, 3);
    }

    static void p15_parts_of_twelve_cells() {
        parts(hill(EVEN), 0, 63);
    }

    static void p15_parts_hang_by_cells_one_above_the_other() {
        parts(hill("5;5;5"), 4320, 1);
        HillHours x = hill("55;55");
        x.stand(0, 20);
        x.stand(1, 20);
        // The first row has less than the second one: parting by columns is alike.
        parts(x, 0, 5);
    }

    static void p15_parts_do_not_hang_by_corners() {
        // By corners 35 would differ by 270.
        parts(hill("071;822"), 810, 7);
    }

    static void p15_parts_do_not_hang_from_a_rows_end_to_the_next_ones_beginning() {
        // By such ends 151 would differ by 1260.
        parts(hill("395;343;618"), 2160, 203);
    }

    static void p15_parts_of_like_ones_the_least_bits() {
        // 75 differs by as much.
        parts(hill("540;841;110"), 2970, 55);
        parts(hill("55;55"), 0, 3);
    }

    static void p15_parts_that_hang_by_the_longest_way() {
        // Around cells 4, 5 and 6: from cell 0 by the west to cell 8, which is eight cells on.
        HillHours x = hill("9263;9992;8040");
        int[] roofs = {13, 0, 17, 15, 0, 0, 0, 0, 11, 0, 0, 18};
        int[] days = {81, 0, 7, 0};
        for (int cell = 0; cell < roofs.length; cell++) {
            x.stand(cell, roofs[cell]);
        }
        for (int season = 0; season < days.length; season++) {
            x.days(season, days[season]);
        }
        parts(x, 47, 15 + 128 + 256 + 512 + 1024 + 2048);
    }

    static void p15_parts_all_ways_alike_in_a_year_without_days() {
        HillHours x = hill(EVEN);
        for (int season = 0; season < 4; season++) {
            x.days(season, 0);
        }
        parts(x, 0, 1);
    }

    static void p15_parts_of_the_longest_year() {
        HillHours x = hill("5;5;5");
        for (int season = 0; season < 4; season++) {
            x.days(season, 99);
        }
        parts(x, 4752, 1);
    }

    static void p15_parts_follow_what_is_changed() {
        HillHours x = hill("009");
        parts(x, 2340, 3);
        x.days(3, 0);
        // The cells have 2610, 2160 and 3240 hours then.
        parts(x, 1530, 3);
        x.days(3, 90);
        x.stand(0, 20);
        parts(x, 990, 1);
        x.stand(0, 0);
        x.type(';');
        parts(x, NONE, NONE);
        x.wipe();
        Check.typeInto(x, "55");
        parts(x, 0, 1);
        x.wipe();
        parts(x, NONE, NONE);
    }

    static void p15_parts_do_not_ask_whose_the_cells_are() {
        HillHours x = vineyard();
        int part = x.parts(1);
        Check.own(x, 3, 3, 3, 3, 3, 3, 3, 3);
        is(x.parts(1), part);
    }

    static void p15_parts_what_minus_1_is_BAD() {
        refused(Edges::vineyard, BAD, x -> x.parts(-1));
    }

    static void p15_parts_what_2_is_BAD() {
        refused(Edges::vineyard, BAD, x -> x.parts(2));
    }

    static void p15_parts_what_2_of_an_empty_hill_is_BAD_and_not_NONE() {
        refused(Edges::bare, BAD, x -> x.parts(2));
        refused(Edges::bare, BAD, x -> x.parts(-1));
    }

    static void p15_parts_far_numbers_are_BAD() {
        for (int v : far()) {
            is(vineyard().parts(v), BAD);
        }
    }

    // Promise 16: taken

    private static HillHours neighbours() {
        HillHours x = hill("55");
        Check.own(x, 0, 1);
        return x;
    }

    static void p16_taken_by_0_and_by_1_is_0() {
        is(neighbours().taken(0, 0, 1), 0);
        is(neighbours().taken(0, 1, 1), 0);
    }

    static void p16_taken_by_2_is_the_first_hour_of_winter() {
        is(neighbours().taken(0, 2, 1), 90);
    }

    static void p16_taken_by_20_is_the_most() {
        is(neighbours().taken(0, 20, 1), 22 * 90);
    }

    static void p16_taken_by_what_stands_already_is_0() {
        HillHours x = neighbours();
        x.stand(0, 20);
        is(x.taken(0, 20, 1), 0);
    }

    static void p16_taken_is_below_0_where_there_is_more_then() {
        HillHours x = neighbours();
        x.stand(0, 20);
        is(x.taken(0, 0, 1), -22 * 90);
        is(x.taken(0, 18, 1), -90);
    }

    static void p16_taken_from_an_owner_without_cells_is_0() {
        is(neighbours().taken(0, 20, 3), 0);
    }

    static void p16_taken_from_the_one_on_whose_cell_it_stands() {
        is(neighbours().taken(0, 20, 0), 0);
        HillHours x = neighbours();
        x.owner(1, 0);
        is(x.taken(0, 20, 0), 22 * 90);
    }

    static void p16_taken_only_within_the_row() {
        HillHours x = hill("5;5;5");
        Check.own(x, 0, 1, 2);
        is(x.taken(1, 20, 0), 0);
        is(x.taken(1, 20, 2), 0);
        HillHours ends = hill("55;55");
        Check.own(ends, 0, 1, 2, 3);
        is(ends.taken(1, 20, 2), 0);
        is(ends.taken(2, 20, 1), 0);
        is(ends.taken(3, 20, 2), 22 * 90);
    }

    static void p16_taken_only_from_cells_that_there_are() {
        HillHours x = hill("5");
        x.owner(1, 1);
        is(x.taken(0, 20, 1), 0);
    }

    static void p16_taken_changes_nothing() {
        HillHours x = vineyard();
        x.taken(0, 0, 1);
        x.taken(7, 20, 1);
        is(told(x).equals(told(vineyard())) ? 1 : 0, 1);
    }

    static void p16_taken_in_a_year_without_days_is_0() {
        HillHours x = neighbours();
        for (int season = 0; season < 4; season++) {
            x.days(season, 0);
        }
        is(x.taken(0, 20, 1), 0);
    }

    static void p16_taken_the_last_cell_there_and_the_first_not_there() {
        is(neighbours().taken(1, 20, 0), 22 * 90);
        refused(Edges::vineyard, BAD_NUMBER, x -> x.taken(8, 0, 0));
    }

    static void p16_taken_cell_minus_1_is_BAD() {
        refused(Edges::vineyard, BAD_NUMBER, x -> x.taken(-1, 0, 0));
    }

    static void p16_taken_by_minus_1_is_BAD() {
        refused(Edges::vineyard, BAD_NUMBER, x -> x.taken(0, -1, 0));
    }

    static void p16_taken_by_21_is_BAD() {
        refused(Edges::vineyard, BAD_NUMBER, x -> x.taken(0, 21, 0));
    }

    static void p16_taken_owner_0_is_the_first_and_3_the_last() {
        HillHours x = hill("5555");
        Check.own(x, 0, 3, 3, 3);
        is(x.taken(1, 20, 0), 22 * 90);
        is(x.taken(0, 2, 3), 90);
    }

    static void p16_taken_from_owner_minus_1_is_BAD() {
        refused(Edges::vineyard, BAD_NUMBER, x -> x.taken(0, 0, -1));
    }

    static void p16_taken_from_owner_4_is_BAD() {
        refused(Edges::vineyard, BAD_NUMBER, x -> x.taken(0, 0, 4));
    }

    static void p16_taken_on_an_empty_hill_is_BAD() {
        refused(Edges::bare, BAD_NUMBER, x -> x.taken(0, 0, 0));
    }

    static void p16_taken_far_numbers_are_BAD() {
        for (int v : far()) {
            is(vineyard().taken(v, 0, 0), BAD_NUMBER);
            is(vineyard().taken(0, v, 0), BAD_NUMBER);
            is(vineyard().taken(0, 0, v), BAD_NUMBER);
        }
    }

    // Promise 17: highest

    static void p17_highest_may_be_0() {
        // What is 1 high on the 1 would take the first hour of winter from the 0.
        is(hill("10").highest(0, 0), 0);
        is(hill("10").highest(0, 89), 0);
        is(hill("10").highest(0, 90), 1);
    }

    static void p17_highest_is_at_most_20() {
        is(hill("5").highest(0, 0), 20);
        is(hill("5").highest(0, 99999), 20);
    }

    static void p17_highest_19_and_20_by_one_hour() {
        is(hill("65").highest(0, 22 * 90), 19);
        is(hill("65").highest(0, 23 * 90 - 1), 19);
        is(hill("65").highest(0, 23 * 90), 20);
    }

    static void p17_highest_takes_d_itself_and_not_one_more() {
        is(neighbours().highest(0, 89), 1);
        is(neighbours().highest(0, 90), 2);
        is(neighbours().highest(0, 269), 2);
        is(neighbours().highest(0, 270), 3);
    }

    static void p17_highest_16_between_15_and_17() {
        is(neighbours().highest(0, 19 * 90), 15);
        is(neighbours().highest(0, 20 * 90), 16);
        is(neighbours().highest(0, 21 * 90), 18);
        is(neighbours().highest(0, 21 * 90 - 1), 16);
    }

    static void p17_highest_at_each_height_from_0_to_20() {
        for (String text : new String[] {"55", "65", "56", "75", "95"}) {
            HillHours x = hill(text);
            Check.own(x, 0, 1);
            for (int v = 0; v <= 20; v++) {
                int d = x.taken(0, v, 1);
                int due = v;
                while (due < 20 && x.taken(0, due + 1, 1) == d) {
                    due++;
                }
                is(x.highest(0, d), due);
            }
        }
    }

    static void p17_highest_asks_each_owner_by_himself() {
        HillHours x = hill("555");
        Check.own(x, 3, 0, 0);
        is(x.highest(1, 90), 2);
        x.owner(0, 0);
        is(x.highest(1, 179), 1);
        is(x.highest(1, 180), 2);
        Check.own(x, 3, 0, 3);
        is(x.highest(1, 179), 1);
    }

    static void p17_highest_counts_from_what_stands() {
        HillHours x = neighbours();
        x.stand(0, 20);
        is(x.highest(0, 0), 20);
        x.stand(0, 18);
        is(x.highest(0, 0), 18);
        is(x.highest(0, 89), 18);
        is(x.highest(0, 90), 20);
    }

    static void p17_highest_d_0_is_the_least_and_99999_the_most() {
        is(hill("9000").highest(0, 99999), 20);
        is(hill("9000").highest(0, 0) < 20 ? 1 : 0, 1);
    }

    static void p17_highest_d_minus_1_is_BAD() {
        refused(Edges::vineyard, BAD, x -> x.highest(0, -1));
    }

    static void p17_highest_d_100000_is_BAD() {
        refused(Edges::vineyard, BAD, x -> x.highest(0, 100000));
    }

    static void p17_highest_the_last_cell_there_and_the_first_not_there() {
        is(neighbours().highest(1, 0), 1);
        refused(Edges::vineyard, BAD, x -> x.highest(8, 0));
    }

    static void p17_highest_cell_minus_1_is_BAD() {
        refused(Edges::vineyard, BAD, x -> x.highest(-1, 0));
    }

    static void p17_highest_on_an_empty_hill_is_BAD() {
        refused(Edges::bare, BAD, x -> x.highest(0, 0));
    }

    static void p17_highest_changes_nothing() {
        HillHours x = vineyard();
        x.highest(0, 0);
        x.highest(5, 99999);
        is(told(x).equals(told(vineyard())) ? 1 : 0, 1);
    }

    static void p17_highest_far_numbers_are_BAD() {
        for (int v : far()) {
            is(vineyard().highest(v, 0), BAD);
            is(vineyard().highest(0, v), BAD);
        }
    }

    // Promise 18: again

    /** The first part is cell 0; when the roof falls, the cells have 3600, 3060 and 4320 hours. */
    private static HillHours roofed() {
        HillHours x = hill("009");
        x.stand(0, 20);
        return x;
    }

    private static void again(HillHours x, int cell, int d, int many, int part) {
        is(x.again(cell, d, 0), many);
        is(x.again(cell, d, 1), part);
    }

    static void p18_again_none_change_where_they_differ_by_d_itself() {
        again(roofed(), 0, 3780, 0, 1);
    }

    static void p18_again_one_changes_where_d_is_one_less() {
        again(roofed(), 0, 3779, 1, 3);
        again(roofed(), 0, 2340, 1, 3);
    }

    static void p18_again_NONE_where_no_way_differs_by_so_little() {
        again(roofed(), 0, 2339, NONE, NONE);
        again(roofed(), 0, 0, NONE, NONE);
    }

    static void p18_again_d_0_is_the_least_and_99999_the_most() {
        HillHours x = hill("5555");
        x.stand(0, 20);
        again(x, 0, 0, 0, 3);
        again(x, 0, 99999, 0, 3);
    }

    static void p18_again_of_like_ones_the_least_bits() {
        // 25 would change as many cells of part 11, 21 as many of part 7.
        HillHours rows = hill("347;697");
        rows.stand(0, 20);
        is(rows.parts(1), 11);
        again(rows, 0, 90, 2, 7);
        HillHours columns = hill("50;37;35");
        columns.stand(4, 20);
        is(columns.parts(1), 7);
        again(columns, 4, 360, 2, 11);
    }

    static void p18_again_the_least_bits_though_another_part_has_fewer_cells() {
        // 49 would change two cells of part 19, too, and has three cells where 31 has five.
        HillHours x = hill("4308;4612");
        x.stand(0, 19);
        x.stand(4, 20);
        for (int season = 1; season < 4; season++) {
            x.days(season, 0);
        }
        is(x.parts(1), 19);
        again(x, 4, 720, 2, 31);
    }

    static void p18_again_the_least_bits_though_another_part_differs_less() {
        // 25 would change two cells of part 11, too, and differ by 270 where 7 differs by d itself.
        HillHours x = hill("128;467");
        x.stand(0, 20);
        is(x.parts(1), 11);
        again(x, 0, 1170, 2, 7);
    }

    static void p18_again_cell_0_stays_in_the_first_part() {
        // Were it to go, 42 would change two cells of part 11 alone.
        HillHours x = hill("75;58;64");
        x.stand(0, 20);
        is(x.parts(1), 11);
        again(x, 0, 90, 4, 21);
    }

    static void p18_again_with_twelve_cells_and_the_last_roof() {
        HillHours x = hill(EVEN);
        x.stand(11, 20);
        is(x.parts(1) & 1, 1);
        is(x.again(11, 0, 0), Integer.bitCount(x.again(11, 0, 1) ^ x.parts(1)));
        is(Integer.bitCount(x.again(11, 0, 1)), 6);
        is(x.again(11, 99999, 0), 0);
        is(x.again(11, 99999, 1), x.parts(1));
    }

    static void p18_again_nothing_at_all_is_left_of_the_roof() {
        // 1 high on the 1 would still take the first hour of winter.
        HillHours x = hill("10");
        x.stand(0, 20);
        again(x, 0, 0, 0, 1);
    }

    static void p18_again_only_that_cells_roof_falls() {
        HillHours x = hill("55");
        x.stand(0, 20);
        x.stand(1, 20);
        // Both lose alike; if one falls, the other one's shade is left.
        is(x.parts(0), 0);
        again(x, 0, 1979, NONE, NONE);
        again(x, 0, 1980, 0, 1);
        again(x, 1, 1979, NONE, NONE);
        again(x, 1, 1980, 0, 1);
    }

    static void p18_again_both_have_a_cell() {
        HillHours x = hill("55");
        x.stand(0, 1);
        again(x, 0, 0, 0, 1);
        again(x, 0, 99999, 0, 1);
    }

    static void p18_again_the_roof_may_be_1_high() {
        HillHours x = hill("55");
        x.stand(1, 1);
        again(x, 1, 0, 0, 1);
        is(x.again(0, 0, 0), NOT);
    }

    static void p18_again_changes_nothing() {
        HillHours x = vineyard();
        x.again(0, 0, 0);
        x.again(5, 900, 1);
        is(told(x).equals(told(vineyard())) ? 1 : 0, 1);
    }

    static void p18_again_where_nothing_stands_is_NOT() {
        refused(Edges::vineyard, NOT, x -> x.again(1, 0, 0));
        refused(Edges::vineyard, NOT, x -> x.again(7, 99999, 1));
    }

    private static HillHours lonely() {
        HillHours x = hill("5");
        x.stand(0, 20);
        return x;
    }

    static void p18_again_without_PARTS_is_NOT() {
        refused(EdgesPartsTest::lonely, NOT, x -> x.again(0, 0, 0));
        refused(EdgesPartsTest::lonely, NOT, x -> x.again(0, 99999, 1));
    }

    static void p18_again_d_minus_1_is_BAD() {
        refused(Edges::vineyard, BAD, x -> x.again(0, -1, 0));
    }

    static void p18_again_d_100000_is_BAD() {
        refused(Edges::vineyard, BAD, x -> x.again(0, 100000, 0));
    }

    static void p18_again_what_minus_1_is_BAD() {
        refused(Edges::vineyard, BAD, x -> x.again(0, 0, -1));
    }

    static void p18_again_what_2_is_BAD() {
        refused(Edges::vineyard, BAD, x -> x.again(0, 0, 2));
    }

    static void p18_again_cell_minus_1_is_BAD() {
        refused(Edges::vineyard, BAD, x -> x.again(-1, 0, 0));
    }

    static void p18_again_the_first_cell_not_there_is_BAD() {
        refused(Edges::vineyard, BAD, x -> x.again(8, 0, 0));
    }

    static void p18_again_a_cell_not_there_with_a_roof_is_BAD() {
        refused(Edges::vineyard, BAD, x -> x.again(11, 0, 0));
    }

    static void p18_again_BAD_is_ahead_of_NOT_where_nothing_stands() {
        refused(Edges::vineyard, BAD, x -> x.again(1, -1, 0));
        refused(Edges::vineyard, BAD, x -> x.again(1, 100000, 0));
        refused(Edges::vineyard, BAD, x -> x.again(1, 0, 2));
        refused(Edges::vineyard, BAD, x -> x.again(1, 0, -1));
    }

    static void p18_again_BAD_is_ahead_of_NOT_without_PARTS() {
        refused(EdgesPartsTest::lonely, BAD, x -> x.again(0, 100000, 0));
        refused(EdgesPartsTest::lonely, BAD, x -> x.again(0, 0, 2));
        refused(EdgesPartsTest::lonely, BAD, x -> x.again(1, 0, 0));
    }

    static void p18_again_on_an_empty_hill_is_BAD() {
        refused(Edges::bare, BAD, x -> x.again(0, 0, 0));
    }

    static void p18_again_far_numbers_are_BAD() {
        for (int v : far()) {
            is(vineyard().again(v, 0, 0), BAD);
            is(vineyard().again(0, v, 0), BAD);
            is(vineyard().again(0, 0, v), BAD);
        }
    }
}
