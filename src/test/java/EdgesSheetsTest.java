import java.math.BigInteger;
import java.util.ArrayList;
import java.util.List;

/** Boundary cases of promises 30 to 37: sheets, findings, counts, the digest. */
public final class EdgesSheetsTest extends Edges {
    public static void main(String[] args) {
        run(EdgesSheetsTest.class, 30, 37);
    }

    private static HillHours sheetOf(int form, int... items) {
        HillHours x = new HillHours();
        x.sheet(0, form, items.length);
        for (int i = 0; i < items.length; i++) {
            x.put(0, form, i, items[i]);
        }
        return x;
    }

    private static void items(HillHours x, int s, int form, int... due) {
        for (int i = 0; i < due.length; i++) {
            is(x.get(s, form, i), due[i]);
        }
        is(x.get(s, form, due.length), LEAST);
        is(x.count(8), 2);
    }

    // Promise 30: sheet

    static void p30_sheet_0_is_the_first_and_3_the_last() {
        HillHours x = vineyard();
        is(x.sheet(0, 0, 1), 1);
        is(x.sheet(3, 0, 1), 1);
        items(x, 0, 0, 0);
        items(x, 3, 0, 0);
    }

    static void p30_sheet_minus_1_is_BAD() {
        refused(Edges::vineyard, BAD, x -> x.sheet(-1, 0, 1));
    }

    static void p30_sheet_4_is_BAD() {
        refused(Edges::vineyard, BAD, x -> x.sheet(4, 0, 1));
    }

    static void p30_sheet_form_0_is_the_first_and_2_the_last() {
        HillHours x = vineyard();
        is(x.sheet(2, 0, 1), 1);
        is(x.put(2, 0, 0, 0), 1);
        is(x.sheet(2, 2, 1), 1);
        is(x.put(2, 2, 0, 0), 1);
    }

    static void p30_sheet_form_minus_1_is_BAD() {
        refused(Edges::vineyard, BAD, x -> x.sheet(0, -1, 1));
    }

    static void p30_sheet_form_3_is_BAD() {
        refused(Edges::vineyard, BAD, x -> x.sheet(0, 3, 1));
    }

    static void p30_sheet_of_0_items_is_no_lost_one() {
        HillHours x = vineyard();
        is(x.sheet(3, 2, 0), 0);
        is(x.lose(3), 0);
    }

    static void p30_sheet_of_48_items_is_the_longest() {
        HillHours x = vineyard();
        is(x.sheet(3, 2, 48), 48);
        is(x.put(3, 2, 47, 9), 1);
        is(x.get(3, 2, 47), 9);
        is(x.put(3, 2, 48, 9), INDEX);
        is(x.lose(3), 48);
    }

    static void p30_sheet_of_49_items_is_BAD() {
        refused(Edges::vineyard, BAD, x -> x.sheet(0, 0, 49));
        refused(Edges::vineyard, BAD, x -> x.sheet(3, 0, 49));
        refused(Edges::vineyard, BAD, x -> x.sheet(0, 0, MOST));
    }

    static void p30_sheet_of_minus_1_items_is_SIZE() {
        refused(Edges::vineyard, SIZE, x -> x.sheet(0, 0, -1));
        refused(Edges::vineyard, SIZE, x -> x.sheet(3, 2, -1));
        refused(Edges::vineyard, SIZE, x -> x.sheet(0, 0, LEAST));
    }

    static void p30_sheet_BAD_is_ahead_of_SIZE() {
        refused(Edges::vineyard, BAD, x -> x.sheet(4, 0, -1));
        refused(Edges::vineyard, BAD, x -> x.sheet(-1, 0, -1));
        refused(Edges::vineyard, BAD, x -> x.sheet(0, 3, -1));
        refused(Edges::vineyard, BAD, x -> x.sheet(0, -1, -1));
    }

    static void p30_sheet_a_new_row_has_0_in_all_items() {
        HillHours x = vineyard();
        x.sheet(2, 2, 48);
        for (int i = 0; i < 48; i++) {
            is(x.get(2, 2, i), 0);
        }
    }

    static void p30_sheet_shorter_and_longer_again_has_0_in_all_items() {
        HillHours x = sheetOf(2, 7, 8, 9);
        x.sheet(0, 2, 1);
        items(x, 0, 2, 0);
        x.sheet(0, 2, 3);
        items(x, 0, 2, 0, 0, 0);
    }

    static void p30_sheet_may_change_its_form() {
        HillHours x = sheetOf(2, 7);
        is(x.sheet(0, 0, 1), 1);
        is(x.put(0, 2, 0, 1), CAST);
        is(x.put(0, 0, 0, 1), 1);
    }

    static void p30_sheet_touches_no_other_one() {
        HillHours x = new HillHours();
        x.sheet(0, 0, 48);
        x.sheet(1, 0, 48);
        x.sheet(2, 0, 48);
        x.put(0, 0, 47, 1);
        x.put(2, 0, 0, 2);
        x.sheet(1, 0, 48);
        is(x.get(0, 0, 47), 1);
        is(x.get(2, 0, 0), 2);
    }

    static void p30_sheet_far_numbers() {
        for (int v : far()) {
            is(vineyard().sheet(v, 0, 0), BAD);
            is(vineyard().sheet(0, v, 0), BAD);
            is(vineyard().sheet(0, 0, v), v < 0 ? SIZE : BAD);
        }
    }

    // Promise 31: lose

    static void p31_lose_sheet_0_is_the_first_and_3_the_last() {
        HillHours x = vineyard();
        x.sheet(3, 1, 9);
        is(x.lose(0), 5);
        is(x.lose(3), 9);
    }

    static void p31_lose_sheet_minus_1_is_BAD() {
        refused(Edges::vineyard, BAD, x -> x.lose(-1));
    }

    static void p31_lose_sheet_4_is_BAD() {
        refused(Edges::vineyard, BAD, x -> x.lose(4));
    }

    static void p31_lose_a_sheet_of_0_items() {
        is(vineyard().lose(1), 0);
    }

    static void p31_lose_a_sheet_of_48_items() {
        HillHours x = new HillHours();
        x.sheet(0, 2, 48);
        is(x.lose(0), 48);
    }

    static void p31_lose_a_lost_sheet_is_NULL() {
        refused(Edges::vineyard, NULL, x -> x.lose(3));
    }

    static void p31_lose_twice_is_NULL() {
        HillHours x = vineyard();
        is(x.lose(1), 0);
        is(x.lose(1), NULL);
        is(x.count(8), 1);
    }

    static void p31_lose_one_leaves_the_others() {
        HillHours x = vineyard();
        x.lose(1);
        items(x, 0, 0, 3, 2, 1, 0, -1);
        is(x.lose(2), 12);
    }

    static void p31_lose_far_numbers_are_BAD() {
        for (int v : far()) {
            is(vineyard().lose(v), BAD);
        }
    }

    // Promise 32: put

    private static int kept(int form, int v) {
        return sheetOf(form, v).get(0, form, 0);
    }

    static void p32_put_the_most_and_the_least_byte_stay() {
        is(kept(0, 127), 127);
        is(kept(0, -128), -128);
    }

    static void p32_put_one_more_than_a_byte_wraps() {
        is(kept(0, 128), -128);
        is(kept(0, -129), 127);
        is(kept(0, 255), -1);
        is(kept(0, 256), 0);
        is(kept(0, MOST), -1);
        is(kept(0, LEAST), 0);
    }

    static void p32_put_the_most_and_the_least_short_stay() {
        is(kept(1, 32767), 32767);
        is(kept(1, -32768), -32768);
    }

    static void p32_put_one_more_than_a_short_wraps() {
        is(kept(1, 32768), -32768);
        is(kept(1, -32769), 32767);
        is(kept(1, 65535), -1);
        is(kept(1, 65536), 0);
        is(kept(1, MOST), -1);
        is(kept(1, LEAST), 0);
    }

    static void p32_put_the_most_and_the_least_int_stay() {
        is(kept(2, MOST), MOST);
        is(kept(2, LEAST), LEAST);
        is(kept(2, 65536), 65536);
    }

    static void p32_put_item_0_and_the_last_one() {
        HillHours x = vineyard();
        is(x.put(0, 0, 0, 50), 1);
        is(x.put(0, 0, 4, 54), 1);
        items(x, 0, 0, 50, 2, 1, 0, 54);
    }

    static void p32_put_item_minus_1_is_INDEX() {
        refused(Edges::vineyard, INDEX, x -> x.put(2, 2, -1, 9));
        refused(Edges::vineyard, INDEX, x -> x.put(0, 0, LEAST, 9));
    }

    static void p32_put_the_item_behind_the_last_is_INDEX() {
        refused(Edges::vineyard, INDEX, x -> x.put(0, 0, 5, 9));
        refused(Edges::vineyard, INDEX, x -> x.put(2, 2, 12, 9));
        refused(Edges::vineyard, INDEX, x -> x.put(0, 0, MOST, 9));
    }

    static void p32_put_into_a_sheet_without_items_is_INDEX() {
        refused(Edges::vineyard, INDEX, x -> x.put(1, 1, 0, 9));
    }

    static void p32_put_as_of_another_form_is_CAST() {
        refused(Edges::vineyard, CAST, x -> x.put(0, 1, 0, 9));
        refused(Edges::vineyard, CAST, x -> x.put(0, 2, 0, 9));
        refused(Edges::vineyard, CAST, x -> x.put(2, 0, 0, 9));
        refused(Edges::vineyard, CAST, x -> x.put(2, 1, 0, 9));
    }

    static void p32_put_into_a_lost_sheet_is_NULL() {
        refused(Edges::vineyard, NULL, x -> x.put(3, 0, 0, 9));
    }

    static void p32_put_sheet_minus_1_is_BAD() {
        refused(Edges::vineyard, BAD, x -> x.put(-1, 0, 0, 9));
    }

    static void p32_put_sheet_4_is_BAD() {
        refused(Edges::vineyard, BAD, x -> x.put(4, 0, 0, 9));
    }

    static void p32_put_form_minus_1_is_BAD() {
        refused(Edges::vineyard, BAD, x -> x.put(0, -1, 0, 9));
    }

    static void p32_put_form_3_is_BAD() {
        refused(Edges::vineyard, BAD, x -> x.put(0, 3, 0, 9));
    }

    static void p32_put_BAD_is_ahead_of_NULL() {
        refused(Edges::vineyard, BAD, x -> x.put(3, 3, 0, 9));
        refused(Edges::vineyard, BAD, x -> x.put(3, -1, 0, 9));
    }

    static void p32_put_BAD_is_ahead_of_INDEX() {
        refused(Edges::vineyard, BAD, x -> x.put(0, 3, 5, 9));
        refused(Edges::vineyard, BAD, x -> x.put(4, 0, -1, 9));
    }

    static void p32_put_NULL_is_ahead_of_CAST() {
        // Whatever form the lost sheet had.
        for (int form = 0; form < 3; form++) {
            HillHours x = sheetOf(1, 5);
            x.lose(0);
            is(x.put(0, form, 0, 9), NULL);
        }
    }

    static void p32_put_NULL_is_ahead_of_INDEX() {
        refused(Edges::vineyard, NULL, x -> x.put(3, 0, -1, 9));
        refused(Edges::vineyard, NULL, x -> x.put(3, 0, 48, 9));
    }

    static void p32_put_CAST_is_ahead_of_INDEX() {
        refused(Edges::vineyard, CAST, x -> x.put(0, 1, 5, 9));
        refused(Edges::vineyard, CAST, x -> x.put(0, 2, -1, 9));
        refused(Edges::vineyard, CAST, x -> x.put(1, 0, 0, 9));
    }

    static void p32_put_far_numbers() {
        for (int v : far()) {
            is(vineyard().put(v, 0, 0, 0), BAD);
            is(vineyard().put(0, v, 0, 0), BAD);
            is(vineyard().put(0, 0, v, 0), INDEX);
            is(vineyard().put(0, 0, 0, v), 1);
        }
    }

    // Promise 33: get

    static void p33_get_item_0_and_the_last_one() {
        is(vineyard().get(0, 0, 0), 3);
        is(vineyard().get(0, 0, 4), -1);
        is(vineyard().get(2, 2, 11), 100011);
    }

    static void p33_get_item_minus_1_is_INDEX() {
        refused(Edges::vineyard, LEAST, 2, x -> x.get(0, 0, -1));
        refused(Edges::vineyard, LEAST, 2, x -> x.get(2, 2, -1));
    }

    static void p33_get_the_item_behind_the_last_is_INDEX() {
        refused(Edges::vineyard, LEAST, 2, x -> x.get(0, 0, 5));
        refused(Edges::vineyard, LEAST, 2, x -> x.get(2, 2, 12));
        refused(Edges::vineyard, LEAST, 2, x -> x.get(2, 2, MOST));
    }

    static void p33_get_of_a_sheet_without_items_is_INDEX() {
        refused(Edges::vineyard, LEAST, 2, x -> x.get(1, 1, 0));
    }

    static void p33_get_as_of_another_form_is_CAST() {
        refused(Edges::vineyard, LEAST, 3, x -> x.get(0, 1, 0));
        refused(Edges::vineyard, LEAST, 3, x -> x.get(2, 0, 0));
    }

    static void p33_get_of_a_lost_sheet_is_NULL() {
        refused(Edges::vineyard, LEAST, 1, x -> x.get(3, 0, 0));
    }

    static void p33_get_BAD_is_the_least_int_too_and_no_finding() {
        refused(Edges::vineyard, LEAST, 4, x -> x.get(-1, 0, 0));
        refused(Edges::vineyard, LEAST, 4, x -> x.get(4, 0, 0));
        refused(Edges::vineyard, LEAST, 4, x -> x.get(0, -1, 0));
        refused(Edges::vineyard, LEAST, 4, x -> x.get(0, 3, 0));
        is(new HillHours().get(4, 0, 0), LEAST);
    }

    static void p33_get_BAD_is_ahead_of_NULL() {
        refused(Edges::vineyard, LEAST, 4, x -> x.get(3, 3, 0));
        refused(Edges::vineyard, LEAST, 4, x -> x.get(3, -1, 0));
    }

    static void p33_get_BAD_is_ahead_of_INDEX() {
        refused(Edges::vineyard, LEAST, 4, x -> x.get(0, 3, 5));
        refused(Edges::vineyard, LEAST, 4, x -> x.get(4, 0, -1));
    }

    static void p33_get_NULL_is_ahead_of_CAST_and_INDEX() {
        HillHours x = sheetOf(1, 5);
        x.lose(0);
        is(x.get(0, 2, 9), LEAST);
        is(x.count(8), 1);
        refused(Edges::vineyard, LEAST, 1, y -> y.get(3, 1, -1));
    }

    static void p33_get_CAST_is_ahead_of_INDEX() {
        refused(Edges::vineyard, LEAST, 3, x -> x.get(0, 1, 5));
        refused(Edges::vineyard, LEAST, 3, x -> x.get(1, 2, 0));
    }

    static void p33_get_of_an_item_that_is_the_least_int_is_no_finding() {
        HillHours x = sheetOf(2, LEAST);
        is(x.get(0, 2, 0), LEAST);
        is(x.count(8), 0);
    }

    static void p33_get_far_numbers() {
        for (int v : far()) {
            is(vineyard().get(v, 0, 0), LEAST);
            is(vineyard().get(0, v, 0), LEAST);
            is(vineyard().get(0, 0, v), LEAST);
        }
    }

    // Promise 34: copy

    /** Sheets 0 and 1 are shorts, six and three; 2 is three bytes; 3 is lost. */
    private static HillHours four() {
        HillHours x = sheetOf(1, 10, 11, 12, 13, 14, 15);
        x.sheet(1, 1, 3);
        x.sheet(2, 0, 3);
        return x;
    }

    static void p34_copy_a_whole_sheet_to_another() {
        HillHours x = four();
        x.sheet(1, 1, 6);
        is(x.copy(0, 0, 1, 0, 6), 1);
        items(x, 1, 1, 10, 11, 12, 13, 14, 15);
        items(x, 0, 1, 10, 11, 12, 13, 14, 15);
    }

    static void p34_copy_48_items() {
        HillHours x = new HillHours();
        x.sheet(2, 0, 48);
        x.sheet(3, 0, 48);
        x.put(2, 0, 0, 7);
        x.put(2, 0, 47, 8);
        is(x.copy(2, 0, 3, 0, 48), 1);
        is(x.get(3, 0, 0), 7);
        is(x.get(3, 0, 47), 8);
        is(x.copy(2, 0, 3, 0, 49), INDEX);
    }

    static void p34_copy_up_to_both_ends() {
        HillHours x = four();
        is(x.copy(0, 4, 1, 1, 2), 1);
        items(x, 1, 1, 0, 14, 15);
    }

    static void p34_copy_to_itself_upwards_as_they_were() {
        HillHours x = four();
        is(x.copy(0, 0, 0, 1, 5), 1);
        items(x, 0, 1, 10, 10, 11, 12, 13, 14);
    }

    static void p34_copy_to_itself_downwards_as_they_were() {
        HillHours x = four();
        is(x.copy(0, 1, 0, 0, 5), 1);
        items(x, 0, 1, 11, 12, 13, 14, 15, 15);
    }

    static void p34_copy_to_itself_in_place() {
        HillHours x = four();
        is(x.copy(0, 0, 0, 0, 6), 1);
        items(x, 0, 1, 10, 11, 12, 13, 14, 15);
    }

    static void p34_copy_no_items_at_the_sizes() {
        HillHours x = four();
        is(x.copy(0, 6, 1, 3, 0), 1);
        items(x, 0, 1, 10, 11, 12, 13, 14, 15);
        items(x, 1, 1, 0, 0, 0);
    }

    static void p34_copy_no_items_of_sheets_without_any() {
        HillHours x = vineyard();
        is(x.copy(1, 0, 1, 0, 0), 1);
        refused(Edges::vineyard, INDEX, y -> y.copy(1, 0, 1, 0, 1));
        refused(Edges::vineyard, INDEX, y -> y.copy(1, 1, 1, 0, 0));
        refused(Edges::vineyard, INDEX, y -> y.copy(1, 0, 1, 1, 0));
    }

    static void p34_copy_no_items_from_above_the_size_is_INDEX() {
        refused(EdgesSheetsTest::four, INDEX, x -> x.copy(0, 7, 1, 0, 0));
        refused(EdgesSheetsTest::four, INDEX, x -> x.copy(0, MOST, 1, 0, 0));
    }

    static void p34_copy_no_items_to_above_the_size_is_INDEX() {
        refused(EdgesSheetsTest::four, INDEX, x -> x.copy(0, 0, 1, 4, 0));
        refused(EdgesSheetsTest::four, INDEX, x -> x.copy(0, 0, 1, MOST, 0));
    }

    static void p34_copy_from_minus_1_is_INDEX() {
        refused(EdgesSheetsTest::four, INDEX, x -> x.copy(0, -1, 1, 0, 1));
        refused(EdgesSheetsTest::four, INDEX, x -> x.copy(0, -1, 1, 0, 0));
        refused(EdgesSheetsTest::four, INDEX, x -> x.copy(1, -1, 0, 0, 1));
        refused(EdgesSheetsTest::four, INDEX, x -> x.copy(0, LEAST, 1, 0, 1));
    }

    static void p34_copy_to_minus_1_is_INDEX() {
        refused(EdgesSheetsTest::four, INDEX, x -> x.copy(0, 0, 1, -1, 1));
        refused(EdgesSheetsTest::four, INDEX, x -> x.copy(0, 0, 1, -1, 0));
        refused(EdgesSheetsTest::four, INDEX, x -> x.copy(0, 0, 1, LEAST, 1));
    }

    static void p34_copy_minus_1_items_is_INDEX() {
        refused(EdgesSheetsTest::four, INDEX, x -> x.copy(0, 0, 1, 0, -1));
        refused(EdgesSheetsTest::four, INDEX, x -> x.copy(0, 2, 1, 2, -1));
        refused(EdgesSheetsTest::four, INDEX, x -> x.copy(0, 2, 1, 2, LEAST));
    }

    static void p34_copy_one_more_than_there_are_is_INDEX() {
        refused(EdgesSheetsTest::four, INDEX, x -> x.copy(1, 0, 0, 0, 4));
        refused(EdgesSheetsTest::four, INDEX, x -> x.copy(1, 1, 0, 0, 3));
        refused(EdgesSheetsTest::four, INDEX, x -> x.copy(0, 6, 1, 0, 1));
        refused(EdgesSheetsTest::four, INDEX, x -> x.copy(0, 4, 0, 0, 3));
    }

    static void p34_copy_one_more_than_there_is_room_for_is_INDEX() {
        refused(EdgesSheetsTest::four, INDEX, x -> x.copy(0, 0, 1, 0, 4));
        refused(EdgesSheetsTest::four, INDEX, x -> x.copy(0, 0, 1, 1, 3));
        refused(EdgesSheetsTest::four, INDEX, x -> x.copy(0, 0, 1, 3, 1));
        refused(EdgesSheetsTest::four, INDEX, x -> x.copy(0, 0, 0, 4, 3));
    }

    static void p34_copy_sums_that_would_wrap_are_INDEX() {
        refused(EdgesSheetsTest::four, INDEX, x -> x.copy(0, 1, 1, 0, MOST));
        refused(EdgesSheetsTest::four, INDEX, x -> x.copy(0, MOST, 1, 0, 1));
        refused(EdgesSheetsTest::four, INDEX, x -> x.copy(0, 0, 1, MOST, 1));
        refused(EdgesSheetsTest::four, INDEX, x -> x.copy(0, MOST, 1, MOST, MOST));
        refused(EdgesSheetsTest::four, INDEX, x -> x.copy(0, MOST, 1, 0, 3));
    }

    static void p34_copy_sheet_s_minus_1_and_4_are_BAD() {
        refused(EdgesSheetsTest::four, BAD, x -> x.copy(-1, 0, 0, 0, 0));
        refused(EdgesSheetsTest::four, BAD, x -> x.copy(4, 0, 0, 0, 0));
    }

    static void p34_copy_sheet_t_minus_1_and_4_are_BAD() {
        refused(EdgesSheetsTest::four, BAD, x -> x.copy(0, 0, -1, 0, 0));
        refused(EdgesSheetsTest::four, BAD, x -> x.copy(0, 0, 4, 0, 0));
    }

    static void p34_copy_of_a_lost_sheet_s_is_NULL() {
        refused(EdgesSheetsTest::four, NULL, x -> x.copy(3, 0, 0, 0, 0));
    }

    static void p34_copy_to_a_lost_sheet_t_is_NULL() {
        refused(EdgesSheetsTest::four, NULL, x -> x.copy(0, 0, 3, 0, 0));
        refused(EdgesSheetsTest::four, NULL, x -> x.copy(3, 0, 3, 0, 0));
    }

    static void p34_copy_between_unlike_forms_is_STORE() {
        refused(EdgesSheetsTest::four, STORE, x -> x.copy(0, 0, 2, 0, 1));
        refused(EdgesSheetsTest::four, STORE, x -> x.copy(2, 0, 0, 0, 1));
    }

    static void p34_copy_of_no_items_between_unlike_forms_is_STORE() {
        refused(EdgesSheetsTest::four, STORE, x -> x.copy(0, 0, 2, 0, 0));
    }

    static void p34_copy_BAD_is_ahead_of_NULL() {
        refused(EdgesSheetsTest::four, BAD, x -> x.copy(3, 0, 4, 0, 0));
        refused(EdgesSheetsTest::four, BAD, x -> x.copy(-1, 0, 3, 0, 0));
    }

    static void p34_copy_BAD_is_ahead_of_INDEX() {
        refused(EdgesSheetsTest::four, BAD, x -> x.copy(0, -1, 4, 0, 0));
        refused(EdgesSheetsTest::four, BAD, x -> x.copy(4, 0, 0, -1, -1));
    }

    static void p34_copy_NULL_is_ahead_of_STORE() {
        // Sheet 1 had shorts when it was lost, sheet 2 has bytes.
        HillHours x = four();
        x.lose(1);
        is(x.copy(1, 0, 2, 0, 0), NULL);
        is(x.copy(2, 0, 1, 0, 0), NULL);
        is(x.count(8), 1);
    }

    static void p34_copy_NULL_is_ahead_of_INDEX() {
        refused(EdgesSheetsTest::four, NULL, x -> x.copy(0, -1, 3, 0, 0));
        refused(EdgesSheetsTest::four, NULL, x -> x.copy(3, 0, 0, 0, -1));
    }

    static void p34_copy_STORE_is_ahead_of_INDEX() {
        refused(EdgesSheetsTest::four, STORE, x -> x.copy(0, -1, 2, 0, 0));
        refused(EdgesSheetsTest::four, STORE, x -> x.copy(0, 0, 2, 0, -1));
        refused(EdgesSheetsTest::four, STORE, x -> x.copy(0, 0, 2, 4, 9));
    }

    static void p34_copy_far_numbers() {
        for (int v : far()) {
            is(four().copy(v, 0, 0, 0, 0), BAD);
            is(four().copy(0, v, 0, 0, 0), INDEX);
            is(four().copy(0, 0, v, 0, 0), BAD);
            is(four().copy(0, 0, 0, v, 0), INDEX);
            is(four().copy(0, 0, 0, 0, v), INDEX);
        }
    }

    // Promise 35: write

    /** The cells have 11, 4 and 12 hours in winter, 12, 11 and 12 in season 3. */
    private static HillHours writer(int form, int n) {
        HillHours x = hill("307");
        x.sheet(0, form, n);
        for (int i = 0; i < n; i++) {
            x.put(0, form, i, 77);
        }
        return x;
    }

    static void p35_write_as_many_items_as_cells() {
        HillHours x = writer(0, 3);
        is(x.write(0, 0), 3);
        items(x, 0, 0, 11, 4, 12);
    }

    static void p35_write_one_item_fewer_than_cells() {
        HillHours x = writer(1, 2);
        is(x.write(0, 0), 2);
        items(x, 0, 1, 11, 4);
    }

    static void p35_write_one_item_more_than_cells() {
        HillHours x = writer(2, 4);
        is(x.write(0, 0), 3);
        items(x, 0, 2, 11, 4, 12, 77);
    }

    static void p35_write_to_a_sheet_without_items() {
        is(writer(0, 0).write(0, 0), 0);
    }

    static void p35_write_without_cells() {
        HillHours x = writer(0, 2);
        x.wipe();
        is(x.write(0, 0), 0);
        items(x, 0, 0, 77, 77);
        x.type('x');
        is(x.write(0, 0), 0);
        items(x, 0, 0, 77, 77);
    }

    static void p35_write_twelve_cells_to_48_items() {
        HillHours x = hill(EVEN);
        x.sheet(3, 0, 48);
        is(x.write(3, 3), 12);
        is(x.get(3, 0, 11), 12);
        is(x.get(3, 0, 12), 0);
    }

    static void p35_write_0_hours_and_12_fit_each_form() {
        for (int form = 0; form < 3; form++) {
            HillHours x = hill("707");
            x.stand(0, 20);
            x.sheet(0, form, 3);
            x.put(0, form, 1, 5);
            is(x.write(0, 0), 3);
            is(x.get(0, form, 1), 0);
            is(x.get(0, form, 0), 12);
        }
    }

    static void p35_write_season_0_is_the_first_and_3_the_last() {
        HillHours x = writer(0, 3);
        is(x.write(0, 0), 3);
        is(x.get(0, 0, 1), 4);
        is(x.write(3, 0), 3);
        is(x.get(0, 0, 1), 11);
    }

    static void p35_write_season_NONE_is_BAD_for_no_year_is_told() {
        refused(Edges::vineyard, BAD, x -> x.write(NONE, 0));
    }

    static void p35_write_season_4_is_BAD() {
        refused(Edges::vineyard, BAD, x -> x.write(4, 0));
    }

    static void p35_write_sheet_0_is_the_first_and_3_the_last() {
        HillHours x = vineyard();
        x.sheet(3, 0, 1);
        is(x.write(0, 0), 5);
        is(x.write(0, 3), 1);
    }

    static void p35_write_sheet_minus_1_is_BAD() {
        refused(Edges::vineyard, BAD, x -> x.write(0, -1));
    }

    static void p35_write_sheet_4_is_BAD() {
        refused(Edges::vineyard, BAD, x -> x.write(0, 4));
    }

    static void p35_write_to_a_lost_sheet_is_NULL() {
        refused(Edges::vineyard, NULL, x -> x.write(0, 3));
        refused(Edges::bare, NULL, x -> x.write(0, 3));
    }

    static void p35_write_BAD_is_ahead_of_NULL() {
        refused(Edges::vineyard, BAD, x -> x.write(4, 3));
        refused(Edges::vineyard, BAD, x -> x.write(-1, 3));
    }

    static void p35_write_far_numbers_are_BAD() {
        for (int v : far()) {
            is(vineyard().write(v, 0), BAD);
            is(vineyard().write(0, v), BAD);
        }
    }

    // Promise 36: count

    static void p36_count_minus_1_is_BAD() {
        refused(Edges::vineyard, BAD, x -> x.count(-1));
    }

    static void p36_count_9_is_BAD() {
        refused(Edges::vineyard, BAD, x -> x.count(9));
    }

    static void p36_count_far_numbers_are_BAD() {
        for (int v : far()) {
            is(vineyard().count(v), BAD);
        }
    }

    static void p36_count_of_an_empty_hill() {
        int[] due = {0, 0, 0, 0, 0, 3, 0, 330, 4};
        for (int what = 0; what < due.length; what++) {
            is(bare().count(what), due[what]);
        }
    }

    static void p36_count_of_a_hill_with_a_fault() {
        int[] due = {0, 20, 0, 0, 0, 3, 0, 330, 4};
        for (int what = 0; what < due.length; what++) {
            is(fullText().count(what), due[what]);
        }
    }

    static void p36_count_all_at_their_most() {
        HillHours x = hill(EVEN);
        for (int c = 0; c < 12; c++) {
            x.stand(c, 1);
            x.owner(c, c % 4);
        }
        for (int season = 0; season < 4; season++) {
            x.days(season, 99);
        }
        for (int i = 0; i < 8; i++) {
            x.seen(0, 0);
        }
        int[] due = {12, 14, 3, 12, 4, 8, 12 * 4752, 396, 0};
        for (int what = 0; what < due.length; what++) {
            is(x.count(what), due[what]);
        }
    }

    static void p36_count_rows_of_one_cell_each() {
        is(hill("5").count(2), 1);
        is(hill("5;5").count(2), 2);
        is(hill("5;5;5").count(2), 3);
    }

    static void p36_count_3_and_4_only_cells_that_there_are() {
        HillHours x = hill("55");
        x.stand(2, 20);
        x.owner(2, 3);
        is(x.count(3), 0);
        is(x.count(4), 1);
        x.stand(1, 1);
        x.owner(1, 2);
        is(x.count(3), 1);
        is(x.count(4), 2);
    }

    static void p36_count_8_is_0_before_any_finding() {
        HillHours x = new HillHours();
        x.type(256);
        x.sheet(0, 0, 49);
        x.get(4, 0, 0);
        x.again(0, 0, 0);
        is(x.count(8), 0);
    }

    static void p36_count_8_is_the_latest_finding() {
        HillHours x = new HillHours();
        is(x.lose(0), NULL);
        is(x.count(8), 1);
        is(x.sheet(0, 0, -1), SIZE);
        is(x.count(8), 5);
        x.sheet(0, 0, 1);
        x.sheet(1, 1, 1);
        is(x.count(8), 5);
        is(x.put(0, 0, 1, 0), INDEX);
        is(x.count(8), 2);
        is(x.put(0, 1, 0, 0), CAST);
        is(x.count(8), 3);
        is(x.copy(0, 0, 1, 0, 0), STORE);
        is(x.count(8), 4);
        is(x.lose(3), NULL);
        is(x.count(8), 1);
    }

    static void p36_count_8_stays_with_refusals_that_are_no_findings() {
        refused(Edges::vineyard, BAD, 4, x -> x.type(256));
        refused(Edges::fullText, FULL, 4, x -> x.type(0));
        refused(Edges::vineyard, NOT, 4, x -> x.again(1, 0, 0));
        refused(Edges::vineyard, BAD_NUMBER, 4, x -> x.taken(0, 0, 4));
        refused(Edges::vineyard, BAD_LONG, 4, x -> x.clear(0, 0, 13, 0));
    }

    // Promise 37: digest

    private static List<Long> inOrder(HillHours x) {
        List<Long> all = new ArrayList<>();
        for (int what = 0; what <= 7; what++) {
            all.add((long) x.count(what));
        }
        all.add((long) x.fault());
        for (int c = 0; c < x.count(0); c++) {
            for (int what = 0; what <= 2; what++) {
                all.add((long) x.cell(c, what));
            }
            for (int season = 0; season < 4; season++) {
                all.add((long) x.light(c, season));
            }
            all.add((long) x.hours(c, NONE));
            all.add((long) x.shade(c, 0, 3));
            all.add((long) x.value(c, 1));
            all.add((long) x.highest(c, 500));
            all.add((long) x.set(c));
            all.add(x.clear(c, 2, NONE, 0));
            all.add(x.clear(c, 2, NONE, 1));
            all.add(x.clear(c, 2, 3, 0));
            all.add(x.clear(c, 2, 3, 1));
        }
        for (int owner = 0; owner < 4; owner++) {
            all.add((long) x.has(owner, 0));
            all.add((long) x.has(owner, 1));
        }
        for (int v : new int[] {x.parts(0), x.parts(1), x.again(0, 900, 0), x.changes(0), x.changes(1), x.set(NONE),
            x.whose(0), x.whose(1)}) {
            all.add((long) v);
        }
        return all;
    }

    /** Without any wrap; the lowest 64 bits of it, with their sign, are what is due. */
    private static BigInteger unwrapped(HillHours x) {
        BigInteger h = BigInteger.valueOf(17);
        for (long v : inOrder(x)) {
            h = h.multiply(BigInteger.valueOf(31)).add(BigInteger.valueOf(v));
        }
        return h;
    }

    private static void digest(HillHours x) {
        is(x.digest(), unwrapped(x).longValue());
    }

    static void p37_digest_of_an_empty_hill() {
        digest(new HillHours());
        digest(bare());
    }

    static void p37_digest_of_a_hill_with_a_fault() {
        digest(fullText());
        digest(hill("x"));
    }

    static void p37_digest_of_one_cell_where_again_is_NOT() {
        digest(hill("5"));
        HillHours x = hill("5");
        x.stand(0, 20);
        digest(x);
    }

    static void p37_digest_of_twelve_cells() {
        digest(hill("3907;5550;1234"));
        digest(vineyard());
        digest(fullSeen());
    }

    static void p37_digest_wraps_as_longs() {
        is(unwrapped(hill("5")).bitLength() > 64 ? 1 : 0, 1);
        digest(hill("5"));
        is(unwrapped(hill(EVEN)).bitLength() > 900 ? 1 : 0, 1);
        digest(hill(EVEN));
    }

    static void p37_digest_of_a_chance_greater_than_an_int() {
        HillHours x = hill("5");
        x.clouds(2, 1);
        is(x.clear(0, 2, 3, 1) > MOST ? 1 : 0, 1);
        digest(x);
    }

    static void p37_digest_of_changes_and_rings_in_their_order() {
        HillHours x = EdgesChangesTest.greatQuarrel();
        is(x.changes(0) == x.changes(1) ? 1 : 0, 0);
        digest(x);
    }

    private static HillHours year(String text, int... days) {
        HillHours x = hill(text);
        for (int season = 0; season < 4; season++) {
            x.days(season, days[season]);
        }
        return x;
    }

    static void p37_digest_of_parts_that_differ_by_900_again() {
        HillHours x = year("555", 75, 0, 0, 0);
        x.stand(0, 20);
        is(x.again(0, 899, 0), NONE);
        is(x.again(0, 900, 0), 0);
        digest(x);
    }

    static void p37_digest_of_parts_that_differ_by_901_again() {
        HillHours x = year("80", 99, 99, 5, 0);
        x.stand(0, 20);
        is(x.again(0, 900, 0), NONE);
        is(x.again(0, 901, 0), 0);
        digest(x);
    }

    static void p37_digest_of_a_height_that_takes_500() {
        HillHours x = year("55", 50, 50, 20, 10);
        is(x.highest(0, 499), 6);
        is(x.highest(0, 500), 8);
        digest(x);
    }

    static void p37_digest_of_a_height_that_takes_501() {
        HillHours x = year("55", 50, 50, 20, 11);
        is(x.highest(0, 500), 6);
        is(x.highest(0, 501), 8);
        digest(x);
    }

    static void p37_digest_of_an_empty_hill_is_told_by_hand() {
        long h = 17;
        int[] told = {0, 0, 0, 0, 0, 0, 0, 360, -1, 0, 0, 0, 0, 0, 0, 0, 0, -1, -1, -2, 0, 0, 0, 0, 0};
        for (int v : told) {
            h = 31 * h + v;
        }
        is(new HillHours().digest(), h);
    }

    static void p37_digest_of_one_cell_is_told_by_hand() {
        long h = 17;
        long[] told = {1, 1, 1, 0, 1, 0, 4320, 360, -1,
            5, 0, 0, 4095, 4095, 4095, 4095, 4320, -1, 4320, 20, 2, 6, 1, 4017, 4096,
            1, 4320, 0, 0, 0, 0, 0, 0, -1, -1, -3, 0, 0, 30, 1, 1};
        for (long v : told) {
            h = 31 * h + v;
        }
        HillHours x = hill("5");
        x.clouds(2, 8);
        is(x.digest(), h);
    }

    static void p37_digest_has_no_findings_and_no_sheets_in_it() {
        HillHours x = vineyard();
        long before = x.digest();
        x.lose(3);
        x.put(0, 0, 0, 9);
        x.sheet(3, 0, 3);
        is(x.digest(), before);
    }

    static void p37_digest_changes_nothing() {
        HillHours x = vineyard();
        x.digest();
        is(x.count(8), 4);
        is(told(x).equals(told(vineyard())) ? 1 : 0, 1);
    }
}
