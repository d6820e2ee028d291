/** Boundary cases of promises 1 to 9, and of the text of the hill. */
public final class EdgesHillTest extends Edges {
    public static void main(String[] args) {
        run(EdgesHillTest.class, 1, 9);
    }

    // Promise 1: a new object

    static void p01_new_hill_is_empty() {
        HillHours x = new HillHours();
        is(x.count(1), 0);
        is(x.count(0), 0);
        is(x.count(2), 0);
        is(x.fault(), NONE);
        is(x.wipe(), 0);
    }

    static void p01_new_sheets_are_all_lost() {
        for (int s = 0; s < 4; s++) {
            is(new HillHours().lose(s), NULL);
            is(new HillHours().read(s), NULL);
            is(new HillHours().write(0, s), NULL);
            is(new HillHours().put(s, 0, 0, 0), NULL);
            is(new HillHours().copy(s, 0, s, 0, 0), NULL);
        }
    }

    static void p01_new_on_each_cell_stands_0() {
        HillHours x = new HillHours();
        for (int cell = 0; cell < 12; cell++) {
            is(x.stand(cell, 1), 0);
        }
    }

    static void p01_new_each_cell_has_owner_0() {
        HillHours x = new HillHours();
        for (int cell = 0; cell < 12; cell++) {
            is(x.owner(cell, 1), 0);
        }
    }

    static void p01_new_seasons_have_90_days() {
        HillHours x = new HillHours();
        for (int season = 0; season < 4; season++) {
            is(x.days(season, 1), 90);
        }
    }

    static void p01_new_each_worth_is_1() {
        HillHours x = new HillHours();
        for (int owner = 0; owner < 4; owner++) {
            for (int season = 0; season < 4; season++) {
                is(x.worth(owner, season, 2), 1);
            }
        }
    }

    static void p01_new_sorts_need_1000_and_pay_10_20_30() {
        HillHours x = new HillHours();
        for (int sort = 0; sort < 3; sort++) {
            is(x.sort(sort, 0, 1), 1000);
            is(x.sort(sort, 1, 1), 10 * sort + 10);
        }
    }

    static void p01_new_seasons_have_4_sixteenths_of_clouds() {
        HillHours x = new HillHours();
        for (int season = 0; season < 4; season++) {
            is(x.clouds(season, 1), 4);
        }
    }

    static void p01_new_nobody_was_seen() {
        is(new HillHours().count(5), 0);
        is(new HillHours().forget(), 0);
    }

    static void p01_new_no_finding_yet() {
        is(new HillHours().count(8), 0);
    }

    static void p01_new_object_shares_nothing_with_another_one() {
        vineyard();
        is(new HillHours().digest(), emptyDigest());
        HillHours x = new HillHours();
        long before = x.digest();
        vineyard();
        is(x.digest(), before);
        is(x.lose(0), NULL);
    }

    private static long emptyDigest() {
        long h = 17;
        int[] told = {0, 0, 0, 0, 0, 0, 0, 360, -1, 0, 0, 0, 0, 0, 0, 0, 0, -1, -1, -2, 0, 0, 0, 0, 0};
        for (int v : told) {
            h = 31 * h + v;
        }
        return h;
    }

    static void p01_an_object_answers_up_to_its_512th_call() {
        HillHours x = new HillHours();
        for (int call = 1; call <= 510; call++) {
            is(x.stand(call % 12, (call + 1) % 21), call <= 12 ? 0 : (call - 11) % 21);
        }
        is(x.type('5'), 1);
        is(x.cell(0, 1), 505 % 21);
    }

    // Promise 2: type

    static void p02_type_byte_0_is_the_least() {
        is(new HillHours().type(0), 1);
    }

    static void p02_type_byte_255_is_the_most() {
        is(new HillHours().type(255), 1);
    }

    static void p02_type_byte_minus_1_is_BAD() {
        refused(Edges::vineyard, BAD, x -> x.type(-1));
    }

    static void p02_type_byte_256_is_BAD() {
        refused(Edges::vineyard, BAD, x -> x.type(256));
    }

    static void p02_type_does_not_take_the_lowest_bits_of_a_number() {
        refused(Edges::vineyard, BAD, x -> x.type(256 + ';'));
        refused(Edges::vineyard, BAD, x -> x.type(';' - 256));
        refused(Edges::vineyard, BAD, x -> x.type(65536 + ';'));
    }

    static void p02_type_far_numbers_are_BAD() {
        for (int b : far()) {
            is(new HillHours().type(b), BAD);
        }
    }

    static void p02_type_20th_byte_comes() {
        HillHours x = hill("xxxxxxxxxxxxxxxxxxx");
        is(x.type('x'), 20);
        is(x.count(1), 20);
    }

    static void p02_type_21st_byte_is_FULL() {
        refused(Edges::fullText, FULL, x -> x.type('1'));
        refused(Edges::fullText, FULL, x -> x.type(0));
        refused(Edges::fullText, FULL, x -> x.type(255));
    }

    static void p02_type_BAD_is_ahead_of_FULL() {
        refused(Edges::fullText, BAD, x -> x.type(256));
        refused(Edges::fullText, BAD, x -> x.type(-1));
    }

    static void p02_type_comes_behind_a_fault_too() {
        HillHours x = hill("x");
        is(x.type('5'), 2);
        is(x.fault(), 0);
    }

    // Promise 3: wipe

    static void p03_wipe_of_an_empty_hill_is_0() {
        is(new HillHours().wipe(), 0);
        HillHours x = hill("12");
        x.wipe();
        is(x.wipe(), 0);
    }

    static void p03_wipe_of_a_full_hill_is_20() {
        is(fullText().wipe(), 20);
    }

    static void p03_wipe_of_one_byte_is_1() {
        is(hill("5").wipe(), 1);
    }

    static void p03_wipe_leaves_an_empty_text_which_is_well() {
        HillHours x = fullText();
        x.wipe();
        is(x.fault(), NONE);
        is(x.count(0), 0);
        is(x.count(1), 0);
        is(x.count(2), 0);
    }

    static void p03_wipe_makes_room_for_20_bytes() {
        HillHours x = fullText();
        x.wipe();
        for (int i = 1; i <= 20; i++) {
            is(x.type('5'), i);
        }
        is(x.type('5'), FULL);
    }

    static void p03_wipe_changes_nothing_but_the_text() {
        HillHours x = vineyard();
        x.wipe();
        Check.typeInto(x, "3070;5915");
        is(x.digest(), vineyard().digest());
        is(x.count(8), 4);
        is(x.stand(11, 0), 7);
        is(x.get(2, 2, 11), 100011);
    }

    // Promise 4: fault

    private static void fault(String text, int due) {
        HillHours x = hill(text);
        is(x.fault(), due);
        is(x.count(1), text.length());
        if (due != NONE) {
            is(x.count(0), 0);
            is(x.cell(0, 0), BAD);
        }
    }

    private static void well(String text, int rows, int cells) {
        fault(text, NONE);
        is(hill(text).count(2), rows);
        is(hill(text).count(0), cells);
        is(hill(text).cell(cells, 0), BAD);
    }

    static void p04_fault_an_empty_text_is_well() {
        well("", 0, 0);
    }

    static void p04_fault_a_row_of_one_figure_is_well() {
        well("5", 1, 1);
    }

    static void p04_fault_a_row_of_four_figures_is_well() {
        well("1234", 1, 4);
    }

    static void p04_fault_the_fifth_figure_of_the_first_row() {
        fault("12345", 4);
        fault("123456", 4);
        fault("12345;12345", 4);
    }

    static void p04_fault_another_byte_in_place_of_the_fifth_figure() {
        fault("1234x", 4);
    }

    static void p04_fault_three_rows_are_well() {
        well("1;2;3", 3, 3);
        well("12;34;56", 3, 6);
        well("123;456;789", 3, 9);
    }

    static void p04_fault_the_longest_well_text_has_14_bytes() {
        well("1234;5678;9012", 3, 12);
    }

    static void p04_fault_the_first_figure_of_a_fourth_row() {
        fault("1;2;3;4", 6);
        fault("12;34;56;7", 9);
        fault("1234;5678;9012;3456", 15);
    }

    static void p04_fault_a_semicolon_as_the_first_byte_of_a_fourth_row() {
        fault("1;2;3;;", 6);
    }

    static void p04_fault_another_byte_as_the_first_of_a_fourth_row() {
        fault("1;2;3;x", 6);
    }

    static void p04_fault_the_end_in_place_of_a_fourth_row() {
        fault("1;2;3;", 6);
        fault("1234;5678;9012;", 15);
    }

    static void p04_fault_figures_0_and_9_are_heights() {
        well("09", 1, 2);
        is(hill("09").cell(0, 0), 0);
        is(hill("09").cell(1, 0), 9);
    }

    static void p04_fault_the_byte_below_figure_0() {
        fault("/", 0);
        fault("1/", 1);
    }

    static void p04_fault_the_byte_above_figure_9() {
        fault(":", 0);
        fault("1:", 1);
    }

    static void p04_fault_the_byte_above_the_semicolon() {
        fault("1<2", 1);
    }

    static void p04_fault_the_least_and_the_most_byte() {
        fault("\0", 0);
        fault("1\0", 1);
        fault("\u00ff", 0);
        fault("1\u00ff", 1);
    }

    static void p04_fault_signs_that_are_figures_but_for_their_highest_bit() {
        fault("\u00b5", 0);
        fault("5\u00bb5", 1);
    }

    static void p04_fault_a_first_row_without_figures() {
        fault(";", 0);
        fault(";1", 0);
        fault(";;", 0);
    }

    static void p04_fault_a_second_row_without_figures_at_the_end() {
        fault("1;", 2);
        fault("1234;", 5);
    }

    static void p04_fault_a_semicolon_in_place_of_the_second_rows_figures() {
        fault("1;;", 2);
        fault("1;;2", 2);
    }

    static void p04_fault_the_end_in_place_of_figures_that_a_row_lacks() {
        fault("12;3", 4);
        fault("1234;123", 8);
        fault("12;34;5", 7);
        fault("12;34;", 6);
    }

    static void p04_fault_a_semicolon_in_place_of_figures_that_a_row_lacks() {
        fault("12;3;45", 4);
        fault("12;34;5;", 7);
        fault("12;34;;", 6);
    }

    static void p04_fault_another_byte_in_place_of_figures_that_a_row_lacks() {
        fault("12;3x", 4);
        fault("12;x", 3);
        fault("12;34;5 6", 7);
    }

    static void p04_fault_one_figure_too_many_in_a_later_row() {
        fault("1;23", 3);
        fault("12;345", 5);
        fault("12;34;567", 8);
        fault("1234;12345", 9);
    }

    static void p04_fault_another_byte_behind_a_whole_row() {
        fault("12x", 2);
        fault("12;34x", 5);
        fault("12;34;56x", 8);
    }

    static void p04_fault_is_the_first_of_several() {
        fault("12;3x;;x", 4);
        fault("x;;12345", 0);
    }

    static void p04_fault_stays_whatever_comes_behind_it() {
        HillHours x = hill("12x");
        while (x.type('5') != FULL) {
            is(x.fault(), 2);
        }
        is(x.count(1), 20);
    }

    static void p04_fault_of_lacking_figures_goes_when_they_come() {
        HillHours x = hill("12;");
        is(x.fault(), 3);
        x.type('3');
        is(x.fault(), 4);
        is(x.count(0), 0);
        x.type('4');
        is(x.fault(), NONE);
        is(x.count(0), 4);
    }

    static void p04_fault_of_a_full_text() {
        fault("55555555555555555555", 4);
        fault("5;5;5;55555555555555", 6);
    }

    static void p04_with_a_FAULT_there_are_no_CELLS_to_ask_for() {
        HillHours x = fullText();
        for (int c = 0; c < 12; c++) {
            is(x.cell(c, 1), BAD);
            is(x.shade(c, 0, 0), BAD);
            is(x.light(c, 0), BAD);
            is(x.hours(c, 0), BAD);
            is(x.hours(c, NONE), BAD);
            is(x.taken(c, 0, 0), BAD_NUMBER);
            is(x.highest(c, 0), BAD);
            is(x.again(c, 0, 0), BAD);
            is(x.value(c, 0), BAD);
            is(x.change(c, (c + 1) % 12), BAD);
            is(x.set(c), BAD);
            is(x.clear(c, 0, 0, 0), BAD_LONG);
        }
    }

    static void p04_with_a_FAULT_there_are_no_CELLS_to_count() {
        HillHours x = fullText();
        for (int what : new int[] {0, 2, 3, 4, 6}) {
            is(x.count(what), 0);
        }
        for (int owner = 0; owner < 4; owner++) {
            is(x.has(owner, 0), 0);
            is(x.has(owner, 1), 0);
        }
        is(x.parts(0), NONE);
        is(x.parts(1), NONE);
        is(x.changes(0), 0);
        is(x.changes(1), 0);
        is(x.set(NONE), 0);
        is(x.whose(0), 0);
        is(x.whose(1), 0);
        is(x.write(0, 2), 0);
    }

    // Promise 5: cell

    static void p05_cell_0_is_the_first_in_the_east() {
        is(hill("90").cell(0, 0), 9);
        is(hill("90;12").cell(2, 0), 1);
    }

    static void p05_cell_11_is_the_last_of_twelve() {
        is(hill("1234;5678;9012").cell(11, 0), 2);
        is(hill("1234;5678;9012").cell(12, 0), BAD);
    }

    static void p05_cell_the_last_there_and_the_first_not_there() {
        refused(Edges::vineyard, BAD, x -> x.cell(8, 0));
        is(vineyard().cell(7, 0), 5);
        is(vineyard().cell(7, 2), 1);
    }

    static void p05_cell_not_there_is_BAD_whatever_stands_on_it() {
        refused(Edges::vineyard, BAD, x -> x.cell(11, 1));
        refused(Edges::vineyard, BAD, x -> x.cell(11, 2));
    }

    static void p05_cell_minus_1_is_BAD() {
        refused(Edges::vineyard, BAD, x -> x.cell(-1, 0));
        refused(Edges::vineyard, BAD, x -> x.cell(-1, 1));
        refused(Edges::vineyard, BAD, x -> x.cell(-1, 2));
    }

    static void p05_cell_what_0_and_2_are_the_ends() {
        HillHours x = vineyard();
        is(x.cell(0, 0), 3);
        is(x.cell(0, 1), 20);
        is(x.cell(0, 2), 1);
    }

    static void p05_cell_what_minus_1_is_BAD() {
        refused(Edges::vineyard, BAD, x -> x.cell(0, -1));
    }

    static void p05_cell_what_3_is_BAD() {
        refused(Edges::vineyard, BAD, x -> x.cell(0, 3));
    }

    static void p05_cell_of_an_empty_hill_is_BAD() {
        refused(Edges::bare, BAD, x -> x.cell(0, 0));
        refused(Edges::bare, BAD, x -> x.cell(0, 1));
    }

    static void p05_cell_far_numbers_are_BAD() {
        for (int v : far()) {
            is(vineyard().cell(v, 0), BAD);
            is(vineyard().cell(0, v), BAD);
        }
    }

    // Promise 6: stand

    static void p06_stand_cell_0_is_the_first_and_11_the_last() {
        HillHours x = vineyard();
        is(x.stand(0, 1), 20);
        is(x.stand(11, 2), 7);
        is(x.stand(0, 0), 1);
        is(x.stand(11, 0), 2);
    }

    static void p06_stand_cell_minus_1_is_BAD() {
        refused(Edges::vineyard, BAD, x -> x.stand(-1, 5));
    }

    static void p06_stand_cell_12_is_BAD() {
        refused(Edges::vineyard, BAD, x -> x.stand(12, 5));
    }

    static void p06_stand_0_is_the_least_and_20_the_most() {
        HillHours x = vineyard();
        is(x.stand(3, 20), 0);
        is(x.stand(3, 0), 20);
        is(x.cell(3, 1), 0);
    }

    static void p06_stand_minus_1_high_is_BAD() {
        refused(Edges::vineyard, BAD, x -> x.stand(0, -1));
    }

    static void p06_stand_21_high_is_BAD() {
        refused(Edges::vineyard, BAD, x -> x.stand(0, 21));
    }

    static void p06_stand_on_a_cell_that_is_not_there() {
        HillHours x = new HillHours();
        is(x.stand(11, 20), 0);
        is(x.stand(11, 19), 20);
        is(x.count(3), 0);
        Check.typeInto(x, EVEN);
        is(x.cell(11, 1), 19);
        is(x.count(3), 1);
    }

    static void p06_stand_with_a_fault() {
        HillHours x = hill("x");
        is(x.stand(0, 4), 0);
        is(x.stand(0, 4), 4);
    }

    static void p06_stand_far_numbers_are_BAD() {
        for (int v : far()) {
            is(vineyard().stand(v, 0), BAD);
            is(vineyard().stand(0, v), BAD);
        }
    }

    // Promise 7: owner

    static void p07_owner_cell_0_is_the_first_and_11_the_last() {
        HillHours x = vineyard();
        is(x.owner(0, 0), 1);
        is(x.owner(11, 0), 2);
    }

    static void p07_owner_cell_minus_1_is_BAD() {
        refused(Edges::vineyard, BAD, x -> x.owner(-1, 0));
    }

    static void p07_owner_cell_12_is_BAD() {
        refused(Edges::vineyard, BAD, x -> x.owner(12, 0));
    }

    static void p07_owner_0_is_the_first_and_3_the_last() {
        HillHours x = vineyard();
        is(x.owner(0, 3), 1);
        is(x.owner(0, 0), 3);
        is(x.cell(0, 2), 0);
    }

    static void p07_owner_minus_1_is_BAD() {
        refused(Edges::vineyard, BAD, x -> x.owner(0, -1));
    }

    static void p07_owner_4_is_BAD() {
        refused(Edges::vineyard, BAD, x -> x.owner(0, 4));
    }

    static void p07_owner_of_a_cell_that_is_not_there() {
        HillHours x = new HillHours();
        is(x.owner(11, 3), 0);
        is(x.has(3, 0), 0);
        is(x.count(4), 0);
        Check.typeInto(x, EVEN);
        is(x.cell(11, 2), 3);
        is(x.has(3, 0), 1 << 11);
    }

    static void p07_owner_far_numbers_are_BAD() {
        for (int v : far()) {
            is(vineyard().owner(v, 0), BAD);
            is(vineyard().owner(0, v), BAD);
        }
    }

    // Promise 8: read

    private static HillHours withItems(int form, int... items) {
        HillHours x = hill(EVEN);
        Check.own(x, 3, 3, 3, 3, 3, 3, 3, 3, 3, 3, 3, 3);
        x.sheet(0, form, items.length);
        for (int i = 0; i < items.length; i++) {
            x.put(0, form, i, items[i]);
        }
        return x;
    }

    static void p08_read_sheet_0_is_the_first_and_3_the_last() {
        HillHours x = vineyard();
        x.sheet(3, 1, 2);
        is(x.read(0), 4);
        is(x.read(3), 2);
    }

    static void p08_read_sheet_minus_1_is_BAD() {
        refused(Edges::vineyard, BAD, x -> x.read(-1));
    }

    static void p08_read_sheet_4_is_BAD() {
        refused(Edges::vineyard, BAD, x -> x.read(4));
    }

    static void p08_read_far_sheets_are_BAD() {
        for (int s : far()) {
            is(vineyard().read(s), BAD);
        }
    }

    static void p08_read_a_lost_sheet_is_NULL() {
        refused(Edges::vineyard, NULL, x -> x.read(3));
    }

    static void p08_read_a_sheet_lost_again_is_NULL() {
        HillHours x = withItems(2, 1, 1);
        x.lose(0);
        is(x.read(0), NULL);
        is(x.cell(0, 2), 3);
    }

    static void p08_read_a_sheet_without_items_is_0() {
        HillHours x = vineyard();
        is(x.read(1), 0);
        is(x.digest(), vineyard().digest());
    }

    static void p08_read_items_0_and_3_are_owners() {
        HillHours x = withItems(0, 0, 3, 0);
        is(x.read(0), 3);
        is(x.cell(0, 2), 0);
        is(x.cell(1, 2), 3);
        is(x.cell(2, 2), 0);
    }

    static void p08_read_ends_ahead_of_item_4() {
        HillHours x = withItems(0, 1, 4, 1);
        is(x.read(0), 1);
        is(x.cell(0, 2), 1);
        is(x.cell(1, 2), 3);
        is(x.cell(2, 2), 3);
    }

    static void p08_read_ends_ahead_of_item_minus_1() {
        HillHours x = withItems(0, 1, -1, 1);
        is(x.read(0), 1);
        is(x.cell(1, 2), 3);
        is(x.cell(2, 2), 3);
    }

    static void p08_read_ends_at_once_with_no_owner_ahead() {
        HillHours x = withItems(2, MOST, 1);
        is(x.read(0), 0);
        is(x.cell(0, 2), 3);
        is(x.cell(1, 2), 3);
        is(withItems(2, LEAST, 1).read(0), 0);
    }

    static void p08_read_twelve_items() {
        HillHours x = withItems(1, 1, 1, 1, 1, 1, 1, 1, 1, 1, 1, 1, 2);
        is(x.read(0), 12);
        is(x.cell(11, 2), 2);
    }

    static void p08_read_eleven_items_leave_cell_11() {
        HillHours x = withItems(1, 1, 1, 1, 1, 1, 1, 1, 1, 1, 1, 1);
        is(x.read(0), 11);
        is(x.cell(10, 2), 1);
        is(x.cell(11, 2), 3);
    }

    static void p08_read_thirteen_items_are_read_as_twelve() {
        HillHours x = withItems(1, 1, 1, 1, 1, 1, 1, 1, 1, 1, 1, 1, 1, 1);
        is(x.read(0), 12);
    }

    static void p08_read_48_items_are_read_as_twelve() {
        HillHours x = hill(EVEN);
        x.sheet(0, 2, 48);
        is(x.read(0), 12);
    }

    static void p08_read_cells_that_are_not_there_too() {
        HillHours x = vineyard();
        x.sheet(3, 0, 12);
        is(x.read(3), 12);
        for (int c = 0; c < 12; c++) {
            is(x.owner(c, 0), 0);
        }
        HillHours none = new HillHours();
        none.sheet(3, 0, 12);
        none.put(3, 0, 11, 3);
        is(none.read(3), 12);
        is(none.owner(11, 0), 3);
    }

    static void p08_read_items_as_they_wrapped() {
        is(withItems(0, 256 + 2, 128).read(0), 1);
        HillHours x = withItems(1, 65536 + 2, 65539, 32768);
        is(x.read(0), 2);
        is(x.cell(0, 2), 2);
        is(x.cell(1, 2), 3);
    }

    // Promise 9: days

    static void p09_days_season_0_is_the_first_and_3_the_last() {
        HillHours x = vineyard();
        is(x.days(0, 1), 81);
        is(x.days(3, 1), 84);
    }

    static void p09_days_season_minus_1_is_BAD() {
        refused(Edges::vineyard, BAD, x -> x.days(-1, 5));
    }

    static void p09_days_season_4_is_BAD() {
        refused(Edges::vineyard, BAD, x -> x.days(4, 5));
    }

    static void p09_days_0_is_the_least_and_99_the_most() {
        HillHours x = vineyard();
        is(x.days(1, 0), 82);
        is(x.days(1, 99), 0);
        is(x.days(1, 0), 99);
    }

    static void p09_days_minus_1_is_BAD() {
        refused(Edges::vineyard, BAD, x -> x.days(0, -1));
    }

    static void p09_days_100_is_BAD() {
        refused(Edges::vineyard, BAD, x -> x.days(0, 100));
    }

    static void p09_days_far_numbers_are_BAD() {
        for (int v : far()) {
            is(vineyard().days(v, 0), BAD);
            is(vineyard().days(0, v), BAD);
        }
    }
}
