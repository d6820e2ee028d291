/** Boundary cases of promises 25 to 29: seen, forget, whose, clouds, clear. */
public final class EdgesSeenTest extends Edges {
    public static void main(String[] args) {
        run(EdgesSeenTest.class, 25, 29);
    }

    // Promise 25: seen

    static void p25_seen_the_first_and_the_eighth() {
        HillHours x = new HillHours();
        for (int i = 1; i <= 8; i++) {
            is(x.seen(0, 0), i);
            is(x.count(5), i);
        }
    }

    static void p25_seen_the_ninth_is_FULL() {
        refused(Edges::fullSeen, FULL, x -> x.seen(0, 0));
        refused(Edges::fullSeen, FULL, x -> x.seen(3, 11));
    }

    static void p25_seen_BAD_is_ahead_of_FULL() {
        refused(Edges::fullSeen, BAD, x -> x.seen(4, 0));
        refused(Edges::fullSeen, BAD, x -> x.seen(0, 12));
        refused(Edges::fullSeen, BAD, x -> x.seen(-1, 0));
        refused(Edges::fullSeen, BAD, x -> x.seen(0, -1));
    }

    static void p25_seen_season_0_is_the_first_and_3_the_last() {
        is(new HillHours().seen(0, 5), 1);
        is(new HillHours().seen(3, 5), 1);
    }

    static void p25_seen_season_minus_1_is_BAD() {
        refused(Edges::vineyard, BAD, x -> x.seen(-1, 0));
    }

    static void p25_seen_season_4_is_BAD() {
        refused(Edges::vineyard, BAD, x -> x.seen(4, 0));
    }

    static void p25_seen_hour_0_is_the_first_and_11_the_last() {
        is(new HillHours().seen(1, 0), 1);
        is(new HillHours().seen(1, 11), 1);
    }

    static void p25_seen_hour_minus_1_is_BAD() {
        refused(Edges::vineyard, BAD, x -> x.seen(0, -1));
    }

    static void p25_seen_hour_12_is_BAD() {
        refused(Edges::vineyard, BAD, x -> x.seen(0, 12));
    }

    static void p25_seen_the_same_again_is_one_more() {
        HillHours x = new HillHours();
        is(x.seen(1, 1), 1);
        is(x.seen(1, 1), 2);
    }

    static void p25_seen_on_a_hill_without_cells() {
        is(bare().seen(0, 0), 4);
        is(fullText().seen(0, 0), 4);
    }

    static void p25_seen_far_numbers_are_BAD() {
        for (int v : far()) {
            is(vineyard().seen(v, 0), BAD);
            is(vineyard().seen(0, v), BAD);
        }
    }

    // Promise 26: forget

    static void p26_forget_none_is_0() {
        is(new HillHours().forget(), 0);
        HillHours x = vineyard();
        x.forget();
        is(x.forget(), 0);
    }

    static void p26_forget_eight_is_8_and_makes_room() {
        HillHours x = fullSeen();
        is(x.forget(), 8);
        is(x.count(5), 0);
        for (int i = 1; i <= 8; i++) {
            is(x.seen(0, 0), i);
        }
        is(x.seen(0, 0), FULL);
    }

    static void p26_forget_changes_nothing_else() {
        HillHours x = vineyard();
        x.forget();
        x.seen(0, 4);
        x.seen(1, 7);
        x.seen(3, 11);
        is(x.count(8), 4);
        is(told(x).equals(told(vineyard())) ? 1 : 0, 1);
    }

    // Promise 27: whose

    static void p27_whose_it_may_be_any_where_nobody_was_seen() {
        HillHours x = hill(EVEN);
        Check.own(x, 0, 1, 2, 3);
        is(x.whose(0), 4095);
        is(x.whose(1), 4);
    }

    static void p27_whose_on_an_empty_hill_is_0() {
        is(new HillHours().whose(0), 0);
        is(new HillHours().whose(1), 0);
        is(bare().whose(0), 0);
        is(bare().whose(1), 0);
    }

    static void p27_whose_where_no_cell_has_sun_in_all_that_was_seen() {
        HillHours x = hill("90;09");
        Check.own(x, 0, 1, 2, 3);
        x.seen(0, 0);
        is(x.whose(0), 0b1101);
        is(x.whose(1), 3);
        x.seen(0, 11);
        is(x.whose(0), 0b1001);
        is(x.whose(1), 2);
        x.stand(1, 20);
        x.stand(2, 20);
        is(x.whose(0), 0);
        is(x.whose(1), 0);
    }

    static void p27_whose_counts_an_owner_of_two_cells_once() {
        HillHours x = hill("55");
        Check.own(x, 3, 3);
        is(x.whose(0), 3);
        is(x.whose(1), 1);
    }

    static void p27_whose_by_the_first_and_by_the_last_hour() {
        HillHours x = hill("020");
        x.seen(0, 0);
        is(x.whose(0), 0b011);
        x.forget();
        x.seen(0, 11);
        is(x.whose(0), 0b110);
        x.forget();
        x.seen(0, 1);
        x.seen(0, 10);
        is(x.whose(0), 0b111);
    }

    static void p27_whose_by_the_eighth_that_was_seen() {
        HillHours x = hill("20");
        for (int i = 1; i <= 7; i++) {
            x.seen(0, 6);
        }
        is(x.whose(0), 3);
        x.seen(0, 0);
        is(x.whose(0), 1);
    }

    static void p27_whose_only_cells_that_there_are() {
        HillHours x = hill("5");
        Check.own(x, 1, 2, 3);
        is(x.whose(0), 1);
        is(x.whose(1), 1);
    }

    static void p27_whose_by_the_hill_as_it_is_now() {
        HillHours x = hill("55");
        x.seen(0, 0);
        is(x.whose(0), 3);
        x.stand(0, 2);
        is(x.whose(0), 1);
        x.stand(0, 1);
        is(x.whose(0), 3);
    }

    static void p27_whose_what_minus_1_is_BAD() {
        refused(Edges::vineyard, BAD, x -> x.whose(-1));
    }

    static void p27_whose_what_2_is_BAD() {
        refused(Edges::vineyard, BAD, x -> x.whose(2));
        refused(Edges::bare, BAD, x -> x.whose(2));
    }

    static void p27_whose_far_numbers_are_BAD() {
        for (int v : far()) {
            is(vineyard().whose(v), BAD);
        }
    }

    // Promise 28: clouds

    static void p28_clouds_season_0_is_the_first_and_3_the_last() {
        HillHours x = vineyard();
        is(x.clouds(0, 1), 3);
        is(x.clouds(3, 1), 9);
    }

    static void p28_clouds_season_minus_1_is_BAD() {
        refused(Edges::vineyard, BAD, x -> x.clouds(-1, 1));
    }

    static void p28_clouds_season_4_is_BAD() {
        refused(Edges::vineyard, BAD, x -> x.clouds(4, 1));
    }

    static void p28_clouds_0_is_the_least_and_16_the_most() {
        HillHours x = vineyard();
        is(x.clouds(2, 0), 7);
        is(x.clouds(2, 16), 0);
        is(x.clouds(2, 1), 16);
    }

    static void p28_clouds_minus_1_is_BAD() {
        refused(Edges::vineyard, BAD, x -> x.clouds(2, -1));
    }

    static void p28_clouds_17_is_BAD() {
        refused(Edges::vineyard, BAD, x -> x.clouds(2, 17));
    }

    static void p28_clouds_far_numbers_are_BAD() {
        for (int v : far()) {
            is(vineyard().clouds(v, 0), BAD);
            is(vineyard().clouds(0, v), BAD);
        }
    }

    // Promise 29: clear

    private static void fraction(HillHours x, int cell, int season, int k, long above, long below) {
        is(x.clear(cell, season, k, 0), above);
        is(x.clear(cell, season, k, 1), below);
    }

    private static HillHours under(String text, int sixteenths) {
        HillHours x = hill(text);
        for (int season = 0; season < 4; season++) {
            x.clouds(season, sixteenths);
        }
        return x;
    }

    /** Cell 1 of it has no hour of sun in winter. */
    private static HillHours dark() {
        HillHours x = hill("707");
        x.stand(0, 20);
        return x;
    }

    static void p29_clear_mean_under_all_clouds_is_0_by_1() {
        fraction(under("5", 16), 0, 0, NONE, 0, 1);
    }

    static void p29_clear_mean_under_no_clouds_is_all_hours_by_1() {
        fraction(under("5", 0), 0, 0, NONE, 12, 1);
    }

    static void p29_clear_mean_of_no_hours_is_0_by_1() {
        fraction(dark(), 1, 0, NONE, 0, 1);
    }

    static void p29_clear_mean_is_told_in_lowest_terms() {
        fraction(under("5", 15), 0, 0, NONE, 3, 4);
        fraction(under("5", 8), 0, 0, NONE, 6, 1);
        fraction(under("5", 1), 0, 0, NONE, 45, 4);
        fraction(under("20", 15), 1, 0, NONE, 11, 16);
        fraction(under("20", 1), 1, 0, NONE, 165, 16);
    }

    static void p29_clear_chance_of_0_at_least_is_1_by_1() {
        for (int sixteenths = 0; sixteenths <= 16; sixteenths++) {
            fraction(under("5", sixteenths), 0, 0, 0, 1, 1);
        }
        fraction(dark(), 1, 0, 0, 1, 1);
    }

    static void p29_clear_chance_of_1_with_no_hours_is_0_by_1() {
        fraction(dark(), 1, 0, 1, 0, 1);
        fraction(dark(), 1, 0, 12, 0, 1);
    }

    static void p29_clear_chance_of_as_many_as_there_are_and_of_one_more() {
        HillHours x = under("307", 8);
        fraction(x, 1, 0, 4, 1, 16);
        fraction(x, 1, 0, 5, 0, 1);
    }

    static void p29_clear_chance_of_12_at_least() {
        fraction(under("5", 8), 0, 0, 12, 1, 4096);
        fraction(under("20", 8), 1, 0, 12, 0, 1);
    }

    static void p29_clear_chance_under_all_clouds() {
        fraction(under("5", 16), 0, 3, 1, 0, 1);
        fraction(under("5", 16), 0, 3, 12, 0, 1);
    }

    static void p29_clear_chance_under_no_clouds() {
        fraction(under("5", 0), 0, 3, 12, 1, 1);
        fraction(under("20", 0), 1, 0, 11, 1, 1);
        fraction(under("20", 0), 1, 0, 12, 0, 1);
    }

    static void p29_clear_chance_with_the_greatest_numbers() {
        fraction(under("5", 15), 0, 0, 12, 1, 1L << 48);
        fraction(under("5", 15), 0, 0, 1, (1L << 48) - 129746337890625L, 1L << 48);
        fraction(under("5", 1), 0, 0, 12, 129746337890625L, 1L << 48);
        fraction(under("5", 1), 0, 0, 1, (1L << 48) - 1, 1L << 48);
    }

    static void p29_clear_chance_is_told_in_lowest_terms() {
        // Of 16 ways 11 have two or more clear hours, 5 have three or more.
        HillHours x = under("307", 8);
        fraction(x, 1, 0, 2, 11, 16);
        fraction(x, 1, 0, 3, 5, 16);
        // Of one hour's 16 ways 12 are clear.
        fraction(under("6070", 4), 1, 0, 1, 3, 4);
    }

    static void p29_clear_k_minus_2_is_BAD() {
        refused(Edges::vineyard, BAD_LONG, x -> x.clear(0, 0, -2, 0));
    }

    static void p29_clear_k_13_is_BAD() {
        refused(Edges::vineyard, BAD_LONG, x -> x.clear(0, 0, 13, 0));
    }

    static void p29_clear_what_minus_1_is_BAD() {
        refused(Edges::vineyard, BAD_LONG, x -> x.clear(0, 0, 0, -1));
        refused(Edges::vineyard, BAD_LONG, x -> x.clear(0, 0, NONE, -1));
    }

    static void p29_clear_what_2_is_BAD() {
        refused(Edges::vineyard, BAD_LONG, x -> x.clear(0, 0, 0, 2));
        refused(Edges::vineyard, BAD_LONG, x -> x.clear(0, 0, NONE, 2));
    }

    static void p29_clear_season_0_is_the_first_and_3_the_last() {
        HillHours x = hill("5");
        x.clouds(0, 8);
        x.clouds(3, 0);
        fraction(x, 0, 0, NONE, 6, 1);
        fraction(x, 0, 3, NONE, 12, 1);
    }

    static void p29_clear_season_minus_1_is_BAD_for_no_year_is_told() {
        refused(Edges::vineyard, BAD_LONG, x -> x.clear(0, NONE, 0, 0));
    }

    static void p29_clear_season_4_is_BAD() {
        refused(Edges::vineyard, BAD_LONG, x -> x.clear(0, 4, 0, 0));
    }

    static void p29_clear_the_last_cell_there_and_the_first_not_there() {
        fraction(under("55", 16), 1, 0, NONE, 0, 1);
        refused(Edges::vineyard, BAD_LONG, x -> x.clear(8, 0, 0, 0));
    }

    static void p29_clear_cell_minus_1_is_BAD() {
        refused(Edges::vineyard, BAD_LONG, x -> x.clear(-1, 0, 0, 0));
    }

    static void p29_clear_on_an_empty_hill_is_BAD() {
        refused(Edges::bare, BAD_LONG, x -> x.clear(0, 0, NONE, 0));
        refused(Edges::bare, BAD_LONG, x -> x.clear(0, 0, 0, 1));
    }

    static void p29_clear_far_numbers_are_BAD() {
        for (int v : far()) {
            is(vineyard().clear(v, 0, 0, 0), BAD_LONG);
            is(vineyard().clear(0, v, 0, 0), BAD_LONG);
            is(vineyard().clear(0, 0, v, 0), BAD_LONG);
            is(vineyard().clear(0, 0, 0, v), BAD_LONG);
        }
    }
}
