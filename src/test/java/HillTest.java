/** Promises 1 to 9: the hill, what stands on it, whose it is, days. */
public final class HillTest {
    public static void main(String[] args) {
        aNewObject();
        typing();
        wiping();
        faults();
        cells();
        standing();
        owning();
        reading();
        days();
        Check.end();
    }

    private static void aNewObject() {
        HillHours x = new HillHours();
        for (int what : new int[] {0, 1, 2, 3, 4, 5, 6, 8}) {
            Check.due("1 new count(" + what + ")", x.count(what), 0);
        }
        Check.due("1 new count(7)", x.count(7), 360);
        Check.due("1 new fault", x.fault(), -1);
        Check.due("1 new wipe", x.wipe(), 0);
        for (int s = 0; s < 4; s++) {
            Check.due("1 sheets are lost", new HillHours().lose(s), -11);
        }
        HillHours other = Check.hill("12;34");
        Check.due("1 objects share nothing", x.count(0), 0);
        Check.due("1 the other one has its cells", other.count(0), 4);
    }

    private static void typing() {
        HillHours x = new HillHours();
        Check.due("2 type -1", x.type(-1), -2);
        Check.due("2 type 256", x.type(256), -2);
        Check.due("2 nothing came", x.count(1), 0);
        Check.due("2 type 0", x.type(0), 1);
        Check.due("2 type 255", x.type(255), 2);
        for (int i = 3; i <= 20; i++) {
            Check.due("2 type", x.type('7'), i);
        }
        Check.due("2 type 21st", x.type('7'), -4);
        Check.due("2 BAD is ahead of FULL", x.type(256), -2);
        Check.due("2 still 20", x.count(1), 20);
        for (int far : Check.FAR) {
            Check.due("2 type far", x.type(far), -2);
        }
    }

    private static void wiping() {
        HillHours x = Check.hill("12;34");
        x.stand(1, 7);
        x.owner(1, 3);
        x.days(2, 5);
        x.seen(1, 1);
        Check.due("3 wipe", x.wipe(), 5);
        Check.due("3 no bytes", x.count(1), 0);
        Check.due("3 no cells", x.count(0), 0);
        Check.due("3 no rows", x.count(2), 0);
        Check.due("3 wipe again", x.wipe(), 0);
        Check.due("3 type is the first", x.type('9'), 1);
        Check.due("3 new text", x.cell(0, 0), 9);
        x.type('8');
        Check.due("3 what stands stays", x.cell(1, 1), 7);
        Check.due("3 owner stays", x.cell(1, 2), 3);
        Check.due("3 days stay", x.days(2, 5), 5);
        Check.due("3 seen stays", x.count(5), 1);
        HillHours full = Check.hill("xxxxxxxxxxxxxxxxxxxx");
        Check.due("3 full", full.wipe(), 20);
        Check.due("3 room again", full.type('1'), 1);
        Check.due("3 no fault again", full.fault(), -1);
    }

    private static void faults() {
        fault("", -1, 0, 0);
        fault("0", -1, 1, 1);
        fault("9;9;9", -1, 3, 3);
        fault("1234", -1, 4, 1);
        fault("1234;5678;9012", -1, 12, 3);
        fault("123;456", -1, 6, 2);
        fault("12345", 4, 0, 0);
        fault("1234x", 4, 0, 0);
        fault("/", 0, 0, 0);
        fault(":", 0, 0, 0);
        fault(" 1", 0, 0, 0);
        fault("1 ", 1, 0, 0);
        fault("12x;34", 2, 0, 0);
        fault(";", 0, 0, 0);
        fault(";1", 0, 0, 0);
        fault("1;", 2, 0, 0);
        fault("1;;", 2, 0, 0);
        fault("1;x", 2, 0, 0);
        fault("12;3", 4, 0, 0);
        fault("12;3;45", 4, 0, 0);
        fault("12;3x", 4, 0, 0);
        fault("12;345", 5, 0, 0);
        fault("1;23", 3, 0, 0);
        fault("12;34;", 6, 0, 0);
        fault("12;34;5", 7, 0, 0);
        fault("12;34;56;", 9, 0, 0);
        fault("12;34;56;7", 9, 0, 0);
        fault("12;34;56;x", 9, 0, 0);
        fault("12;34;56;;", 9, 0, 0);
        fault("12;34;567", 8, 0, 0);
        fault("12;34;56x", 8, 0, 0);
        fault("1;2;3;4", 6, 0, 0);
        fault("1234;5678;9012;", 15, 0, 0);
        fault("1234;5678;90123", 14, 0, 0);
        fault("1\0", 1, 0, 0);
        fault("\u00b1", 0, 0, 0);
    }

    private static void fault(String text, int place, int cells, int rows) {
        HillHours x = Check.hill(text);
        Check.due("4 fault of " + text, x.fault(), place);
        Check.due("4 cells of " + text, x.count(0), cells);
        Check.due("4 rows of " + text, x.count(2), rows);
        Check.due("4 bytes of " + text, x.count(1), text.length());
    }

    private static void cells() {
        HillHours x = Check.hill("907;135");
        int[] heights = {9, 0, 7, 1, 3, 5};
        for (int cell = 0; cell < 6; cell++) {
            x.stand(cell, 10 + cell);
            x.owner(cell, cell % 4);
        }
        for (int cell = 0; cell < 6; cell++) {
            Check.due("5 height", x.cell(cell, 0), heights[cell]);
            Check.due("5 stands", x.cell(cell, 1), 10 + cell);
            Check.due("5 owner", x.cell(cell, 2), cell % 4);
        }
        Check.due("5 no such cell", x.cell(6, 0), -2);
        Check.due("5 cell -1", x.cell(-1, 0), -2);
        Check.due("5 what 3", x.cell(0, 3), -2);
        Check.due("5 what -1", x.cell(0, -1), -2);
        x.type('x');
        Check.due("5 no cells with a fault", x.cell(0, 0), -2);
        Check.due("5 empty", new HillHours().cell(0, 1), -2);
    }

    private static void standing() {
        HillHours x = new HillHours();
        Check.due("6 at first", x.stand(0, 20), 0);
        Check.due("6 what it was", x.stand(0, 0), 20);
        Check.due("6 cell 11, not there", x.stand(11, 4), 0);
        Check.due("6 kept", x.stand(11, 5), 4);
        Check.due("6 cell 12", x.stand(12, 0), -2);
        Check.due("6 cell -1", x.stand(-1, 0), -2);
        Check.due("6 v 21", x.stand(11, 21), -2);
        Check.due("6 v -1", x.stand(11, -1), -2);
        Check.due("6 refusals change nothing", x.stand(11, 5), 5);
        Check.typeInto(x, "1234;1234;1234");
        Check.due("6 there now", x.cell(11, 1), 5);
    }

    private static void owning() {
        HillHours x = new HillHours();
        Check.due("7 at first", x.owner(0, 3), 0);
        Check.due("7 who it was", x.owner(0, 1), 3);
        Check.due("7 cell 11, not there", x.owner(11, 2), 0);
        Check.due("7 cell 12", x.owner(12, 0), -2);
        Check.due("7 cell -1", x.owner(-1, 0), -2);
        Check.due("7 v 4", x.owner(11, 4), -2);
        Check.due("7 v -1", x.owner(11, -1), -2);
        Check.due("7 refusals change nothing", x.owner(11, 2), 2);
    }

    private static void reading() {
        HillHours x = Check.hill("1234;1234;1234");
        Check.due("8 no such sheet", x.read(4), -2);
        Check.due("8 sheet -1", x.read(-1), -2);
        Check.due("8 BAD is no finding", x.count(8), 0);
        Check.due("8 lost", x.read(0), -11);
        Check.due("8 finding", x.count(8), 1);
        x.sheet(0, 0, 5);
        fillSheet(x, 0, 0, 3, 2, 4, 1, 1);
        Check.due("8 up to the 4", x.read(0), 2);
        Check.due("8 owner 0", x.cell(0, 2), 3);
        Check.due("8 owner 1", x.cell(1, 2), 2);
        Check.due("8 owner 2 stays", x.cell(2, 2), 0);
        Check.due("8 owner 3 stays", x.cell(3, 2), 0);
        fillSheet(x, 0, 0, -1, 1, 1, 1, 1);
        Check.due("8 -1 ends it at once", x.read(0), 0);
        Check.due("8 owner 0 stays", x.cell(0, 2), 3);
        x.sheet(1, 1, 0);
        Check.due("8 no items", x.read(1), 0);
        x.sheet(2, 2, 48);
        for (int i = 0; i < 48; i++) {
            x.put(2, 2, i, 1);
        }
        Check.due("8 twelve at most", x.read(2), 12);
        Check.due("8 the last", x.cell(11, 2), 1);
        x.sheet(3, 1, 3);
        fillSheet(x, 3, 1, 2, 65536 + 3, 300);
        Check.due("8 shorts as they are kept", x.read(3), 2);
        Check.due("8 the lowest bits", x.cell(1, 2), 3);
        HillHours none = new HillHours();
        none.sheet(0, 2, 12);
        none.put(0, 2, 11, 2);
        Check.due("8 cells not there, too", none.read(0), 12);
        Check.due("8 kept", none.owner(11, 0), 2);
    }

    private static void fillSheet(HillHours x, int s, int form, int... items) {
        for (int i = 0; i < items.length; i++) {
            x.put(s, form, i, items[i]);
        }
    }

    private static void days() {
        HillHours x = Check.hill("5");
        for (int season = 0; season < 4; season++) {
            Check.due("9 at first", x.days(season, 10 * season), 90);
        }
        for (int season = 0; season < 4; season++) {
            Check.due("9 what it was", x.days(season, 10 * season), 10 * season);
        }
        Check.due("9 hours follow", x.hours(0, -1), 12 * 60);
        Check.due("9 v 99", x.days(0, 99), 0);
        Check.due("9 v 100", x.days(0, 100), -2);
        Check.due("9 v -1", x.days(0, -1), -2);
        Check.due("9 season 4", x.days(4, 0), -2);
        Check.due("9 season -1", x.days(-1, 0), -2);
        Check.due("9 refusals change nothing", x.days(0, 0), 99);
    }
}
