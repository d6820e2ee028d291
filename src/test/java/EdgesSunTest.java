/** Boundary cases of promises 10 to 14: steep, shade, light, hours, has. */
public final class EdgesSunTest extends Edges {
    public static void main(String[] args) {
        run(EdgesSunTest.class, 10, 14);
    }

    // Promise 10: steep

    static void p10_steep_is_least_at_dawn_and_dusk_of_winter() {
        is(new HillHours().steep(0, 0), 1);
        is(new HillHours().steep(0, 11), 1);
    }

    static void p10_steep_is_most_at_noon_of_season_3() {
        is(new HillHours().steep(3, 5), 24);
        is(new HillHours().steep(3, 6), 24);
    }

    static void p10_steep_goes_up_to_hour_5_and_down_from_hour_6() {
        int[] due = {2, 4, 6, 8, 10, 12, 12, 10, 8, 6, 4, 2};
        for (int hour = 0; hour < 12; hour++) {
            is(new HillHours().steep(1, hour), due[hour]);
        }
    }

    static void p10_steep_season_minus_1_is_BAD() {
        refused(Edges::vineyard, BAD, x -> x.steep(-1, 0));
    }

    static void p10_steep_season_4_is_BAD() {
        refused(Edges::vineyard, BAD, x -> x.steep(4, 0));
    }

    static void p10_steep_hour_minus_1_is_BAD() {
        refused(Edges::vineyard, BAD, x -> x.steep(0, -1));
    }

    static void p10_steep_hour_12_is_BAD() {
        refused(Edges::vineyard, BAD, x -> x.steep(0, 12));
    }

    static void p10_steep_needs_no_cells() {
        is(new HillHours().steep(2, 2), 9);
        is(hill("x").steep(2, 2), 9);
    }

    static void p10_steep_far_numbers_are_BAD() {
        for (int v : far()) {
            is(vineyard().steep(v, 0), BAD);
            is(vineyard().steep(0, v), BAD);
        }
    }

    // Promise 11: shade

    static void p11_shade_of_a_rise_equal_to_STEEP_is_none() {
        is(hill("10").shade(1, 0, 0), NONE);
        is(hill("20").shade(1, 0, 0), 0);
        is(hill("01").shade(0, 0, 11), NONE);
        is(hill("02").shade(0, 0, 11), 1);
    }

    static void p11_shade_of_a_rise_equal_to_twice_STEEP_two_cells_away_is_none() {
        is(hill("200").shade(2, 0, 0), NONE);
        is(hill("300").shade(2, 0, 0), 0);
        is(hill("002").shade(0, 0, 11), NONE);
        is(hill("003").shade(0, 0, 11), 2);
    }

    static void p11_shade_of_a_rise_equal_to_thrice_STEEP_three_cells_away_is_none() {
        is(hill("3000").shade(3, 0, 0), NONE);
        is(hill("4000").shade(3, 0, 0), 0);
        is(hill("0003").shade(0, 0, 11), NONE);
        is(hill("0004").shade(0, 0, 11), 3);
    }

    static void p11_shade_is_of_the_nearest_that_gives_it() {
        is(hill("9990").shade(3, 0, 0), 2);
        is(hill("9910").shade(3, 0, 0), 1);
        is(hill("9210").shade(3, 0, 0), 0);
        is(hill("0999").shade(0, 0, 11), 1);
        is(hill("0199").shade(0, 0, 11), 2);
        is(hill("0129").shade(0, 0, 11), 3);
    }

    static void p11_shade_in_hour_5_is_of_the_east_and_in_hour_6_of_the_west() {
        is(hill("909").shade(1, 0, 5), 0);
        is(hill("909").shade(1, 0, 6), 2);
        is(hill("900").shade(1, 0, 6), NONE);
        is(hill("009").shade(1, 0, 5), NONE);
    }

    static void p11_shade_the_first_cell_of_a_row_has_none_from_the_east() {
        is(hill("99;09").shade(2, 0, 0), NONE);
        is(hill("99;00").shade(0, 0, 0), NONE);
    }

    static void p11_shade_the_last_cell_of_a_row_has_none_from_the_west() {
        is(hill("00;99").shade(1, 0, 11), NONE);
        HillHours x = hill("00");
        x.stand(2, 20);
        is(x.shade(1, 0, 11), NONE);
    }

    static void p11_shade_a_cell_above_or_below_gives_none() {
        HillHours x = hill("9;0;9");
        for (int hour = 0; hour < 12; hour++) {
            is(x.shade(1, 0, hour), NONE);
        }
    }

    static void p11_shade_what_stands_takes_no_sun_from_itself_nor_lifts_it() {
        HillHours x = hill("20");
        x.stand(1, 20);
        is(x.shade(1, 0, 0), 0);
        is(x.shade(1, 0, 11), NONE);
    }

    static void p11_shade_of_the_highest_roof_on_the_highest_ground() {
        HillHours x = hill("90");
        x.stand(0, 20);
        is(x.shade(1, 3, 5), 0);
        HillHours far = hill("9000");
        far.stand(0, 20);
        is(far.shade(3, 0, 5), 0);
        is(far.shade(3, 1, 3), 0);
        is(far.shade(3, 1, 4), NONE);
    }

    static void p11_shade_20_high_on_even_ground_ends_at_STEEP_20() {
        HillHours x = hill("55");
        x.stand(0, 20);
        is(x.shade(1, 3, 4), NONE);
        is(x.shade(1, 3, 3), 0);
    }

    static void p11_shade_the_last_cell_there_and_the_first_not_there() {
        is(vineyard().shade(7, 3, 11), NONE);
        refused(Edges::vineyard, BAD, x -> x.shade(8, 0, 0));
    }

    static void p11_shade_cell_minus_1_is_BAD() {
        refused(Edges::vineyard, BAD, x -> x.shade(-1, 0, 0));
    }

    static void p11_shade_season_0_is_the_first_and_3_the_last() {
        is(vineyard().shade(1, 0, 0), 0);
        is(vineyard().shade(1, 3, 0), 0);
    }

    static void p11_shade_season_minus_1_is_BAD() {
        refused(Edges::vineyard, BAD, x -> x.shade(0, -1, 0));
    }

    static void p11_shade_season_4_is_BAD() {
        refused(Edges::vineyard, BAD, x -> x.shade(0, 4, 0));
    }

    static void p11_shade_hour_minus_1_is_BAD() {
        refused(Edges::vineyard, BAD, x -> x.shade(0, 0, -1));
    }

    static void p11_shade_hour_12_is_BAD() {
        refused(Edges::vineyard, BAD, x -> x.shade(0, 0, 12));
    }

    static void p11_shade_of_an_empty_hill_is_BAD() {
        refused(Edges::bare, BAD, x -> x.shade(0, 0, 0));
    }

    static void p11_shade_far_numbers_are_BAD() {
        for (int v : far()) {
            is(vineyard().shade(v, 0, 0), BAD);
            is(vineyard().shade(0, v, 0), BAD);
            is(vineyard().shade(0, 0, v), BAD);
        }
    }

    // Promise 12: light

    static void p12_light_of_all_hours() {
        for (int season = 0; season < 4; season++) {
            is(hill("5").light(0, season), 4095);
        }
    }

    static void p12_light_of_no_hour() {
        HillHours x = hill("707");
        x.stand(0, 20);
        is(x.light(1, 0), 0);
    }

    static void p12_light_without_the_first_hour_or_the_last_one() {
        is(hill("20").light(1, 0), 4094);
        is(hill("02").light(0, 0), 2047);
    }

    static void p12_light_of_the_east_alone_and_of_the_west_alone() {
        is(hill("07").light(0, 0), 63);
        is(hill("70").light(1, 0), 4032);
        is(hill("06").light(0, 0), 127);
        is(hill("60").light(1, 0), 4064);
    }

    static void p12_light_with_shade_from_two_cells_away_and_from_three() {
        is(hill("200").light(2, 0), 4095);
        is(hill("300").light(2, 0), 4094);
        is(hill("3000").light(3, 0), 4095);
        is(hill("4000").light(3, 0), 4094);
        is(hill("0003").light(0, 0), 4095);
        is(hill("0004").light(0, 0), 2047);
        // Only the far cell is high enough.
        is(hill("9210").light(3, 0), 4092);
        is(hill("9210").hours(3, NONE), (10 + 11 + 12 + 12) * 90);
    }

    static void p12_light_the_last_cell_there_and_the_first_not_there() {
        is(vineyard().light(7, 3), 4095);
        refused(Edges::vineyard, BAD, x -> x.light(8, 0));
    }

    static void p12_light_cell_minus_1_is_BAD() {
        refused(Edges::vineyard, BAD, x -> x.light(-1, 0));
    }

    static void p12_light_season_minus_1_is_BAD_for_no_year_is_told() {
        refused(Edges::vineyard, BAD, x -> x.light(0, NONE));
    }

    static void p12_light_season_4_is_BAD() {
        refused(Edges::vineyard, BAD, x -> x.light(0, 4));
    }

    static void p12_light_of_an_empty_hill_is_BAD() {
        refused(Edges::bare, BAD, x -> x.light(0, 0));
    }

    static void p12_light_far_numbers_are_BAD() {
        for (int v : far()) {
            is(vineyard().light(v, 0), BAD);
            is(vineyard().light(0, v), BAD);
        }
    }

    // Promise 13: hours

    static void p13_hours_0_and_12_are_the_ends() {
        HillHours x = hill("707");
        x.stand(0, 20);
        is(x.hours(1, 0), 0);
        is(x.hours(0, 0), 12);
    }

    static void p13_hours_in_a_year_without_days_are_0() {
        HillHours x = hill("5");
        for (int season = 0; season < 4; season++) {
            x.days(season, 0);
            is(x.hours(0, season), 12);
        }
        is(x.hours(0, NONE), 0);
    }

    static void p13_hours_in_the_longest_year_are_4752() {
        HillHours x = hill("5");
        for (int season = 0; season < 4; season++) {
            x.days(season, 99);
        }
        is(x.hours(0, NONE), 4752);
    }

    static void p13_hours_in_a_year_of_one_season() {
        int[] due = {4, 8, 10, 11};
        for (int season = 0; season < 4; season++) {
            HillHours x = hill("307");
            for (int other = 0; other < 4; other++) {
                x.days(other, other == season ? 1 : 0);
            }
            is(x.hours(1, NONE), due[season]);
            is(x.hours(1, season), due[season]);
        }
    }

    static void p13_hours_the_last_cell_there_and_the_first_not_there() {
        is(vineyard().hours(7, 3), 12);
        refused(Edges::vineyard, BAD, x -> x.hours(8, 0));
        refused(Edges::vineyard, BAD, x -> x.hours(8, NONE));
    }

    static void p13_hours_cell_minus_1_is_BAD() {
        refused(Edges::vineyard, BAD, x -> x.hours(-1, 0));
        refused(Edges::vineyard, BAD, x -> x.hours(-1, NONE));
    }

    static void p13_hours_season_minus_2_is_BAD() {
        refused(Edges::vineyard, BAD, x -> x.hours(0, -2));
    }

    static void p13_hours_season_4_is_BAD() {
        refused(Edges::vineyard, BAD, x -> x.hours(0, 4));
    }

    static void p13_hours_of_an_empty_hill_are_BAD() {
        refused(Edges::bare, BAD, x -> x.hours(0, 0));
        refused(Edges::bare, BAD, x -> x.hours(0, NONE));
    }

    static void p13_hours_far_numbers_are_BAD() {
        for (int v : far()) {
            is(vineyard().hours(v, 0), BAD);
            is(vineyard().hours(0, v), BAD);
        }
    }

    // Promise 14: has

    static void p14_has_owner_0_is_the_first_and_3_the_last() {
        is(vineyard().has(0, 0), 0b00001000);
        is(vineyard().has(3, 0), 0b00100100);
    }

    static void p14_has_owner_minus_1_is_BAD() {
        refused(Edges::vineyard, BAD, x -> x.has(-1, 0));
    }

    static void p14_has_owner_4_is_BAD() {
        refused(Edges::vineyard, BAD, x -> x.has(4, 0));
    }

    static void p14_has_what_minus_1_is_BAD() {
        refused(Edges::vineyard, BAD, x -> x.has(0, -1));
    }

    static void p14_has_what_2_is_BAD() {
        refused(Edges::vineyard, BAD, x -> x.has(0, 2));
    }

    static void p14_has_only_cells_that_there_are() {
        HillHours x = hill("55");
        Check.own(x, 1, 1, 1, 1, 2);
        is(x.has(1, 0), 3);
        is(x.has(1, 1), 2 * 4320);
        is(x.has(2, 0), 0);
        is(x.has(2, 1), 0);
    }

    static void p14_has_one_owner_all_twelve() {
        HillHours x = hill(EVEN);
        for (int season = 0; season < 4; season++) {
            x.days(season, 99);
        }
        is(x.has(0, 0), 4095);
        is(x.has(0, 1), 12 * 4752);
    }

    static void p14_has_on_an_empty_hill_nothing() {
        for (int owner = 0; owner < 4; owner++) {
            is(bare().has(owner, 0), 0);
            is(bare().has(owner, 1), 0);
        }
    }

    static void p14_has_far_numbers_are_BAD() {
        for (int v : far()) {
            is(vineyard().has(v, 0), BAD);
            is(vineyard().has(0, v), BAD);
        }
    }
}
