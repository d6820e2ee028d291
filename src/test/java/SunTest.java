/** Promises 10 to 14: steep, shade, light, hours, has. */
public final class SunTest {
    public static void main(String[] args) {
        steep();
        shade();
        light();
        hours();
        has();
        Check.end();
    }

    private static void steep() {
        HillHours x = new HillHours();
        int[] east = {1, 2, 3, 4, 5, 6};
        for (int season = 0; season < 4; season++) {
            for (int i = 0; i < 6; i++) {
                Check.due("10 morning", x.steep(season, i), (season + 1) * east[i]);
                Check.due("10 evening", x.steep(season, 11 - i), (season + 1) * east[i]);
            }
        }
        Check.due("10 season 4", x.steep(4, 0), -2);
        Check.due("10 season -1", x.steep(-1, 0), -2);
        Check.due("10 hour 12", x.steep(0, 12), -2);
        Check.due("10 hour -1", x.steep(0, -1), -2);
    }

    private static void shade() {
        HillHours x = Check.hill("9520;0009");
        Check.due("11 the nearest that shades", x.shade(3, 0, 0), 2);
        Check.due("11 steeper: the next one", x.shade(3, 0, 1), 1);
        Check.due("11 9 is not more than 3 times 3", x.shade(3, 0, 2), -1);
        Check.due("11 a row apart does not shade", x.shade(0, 0, 11), -1);
        Check.due("11 the west in the evening", x.shade(4, 0, 11), 7);
        Check.due("11 9 is more than 3 times 2", x.shade(4, 0, 10), 7);
        Check.due("11 and not than 3 times 3", x.shade(4, 0, 9), -1);
        Check.due("11 not in the morning", x.shade(4, 0, 0), -1);
        Check.due("11 d 1, steep 8", x.shade(6, 1, 8), 7);
        Check.due("11 d 1, steep 9", x.shade(6, 2, 9), -1);
        x.stand(3, 20);
        Check.due("11 no shade of itself", x.shade(3, 0, 11), -1);
        Check.due("11 what stands does not lift its cell", x.shade(3, 0, 0), 2);
        Check.due("11 a roof shades", x.shade(2, 3, 8), 3);
        Check.due("11 no such cell", x.shade(8, 0, 0), -2);
        Check.due("11 cell -1", x.shade(-1, 0, 0), -2);
        Check.due("11 season 4", x.shade(0, 4, 0), -2);
        Check.due("11 season -1", x.shade(0, -1, 0), -2);
        Check.due("11 hour 12", x.shade(0, 0, 12), -2);
        Check.due("11 hour -1", x.shade(0, 0, -1), -2);
        HillHours last = Check.hill("12;34");
        last.stand(4, 20);
        Check.due("11 what stands on no cell does not shade", last.shade(3, 0, 11), -1);
    }

    private static void light() {
        HillHours x = Check.hill("307");
        Check.due("12 hours 2 to 5", x.light(1, 0), 0b000000111100);
        Check.due("12 season 1", x.light(1, 1), 0b000111111110);
        Check.due("12 season 2", x.light(1, 2), 0b001111111111);
        Check.due("12 season 3", x.light(1, 3), 0b011111111111);
        Check.due("12 the higher one has all", x.light(2, 0), 4095);
        Check.due("12 over two cells", x.light(0, 0), 0b011111111111);
        x.stand(2, 20);
        Check.due("12 only the east", x.light(1, 0), 0b000000111100);
        Check.due("12 season 3 with a roof", x.light(1, 3), 0b000000111111);
        x.stand(2, 0);
        Check.due("12 the roof is away", x.light(1, 3), 0b011111111111);
        Check.due("12 no such cell", x.light(3, 0), -2);
        Check.due("12 cell -1", x.light(-1, 0), -2);
        Check.due("12 season 4", x.light(0, 4), -2);
        Check.due("12 season -1", x.light(0, -1), -2);
    }

    private static void hours() {
        HillHours x = Check.hill("307");
        int[] due = {4, 8, 10, 11};
        for (int season = 0; season < 4; season++) {
            Check.due("13 season", x.hours(1, season), due[season]);
        }
        Check.due("13 year", x.hours(1, -1), 33 * 90);
        x.days(0, 1);
        x.days(1, 0);
        x.days(2, 10);
        x.days(3, 99);
        Check.due("13 year by days", x.hours(1, -1), 4 + 100 + 1089);
        Check.due("13 a season has no days in it", x.hours(1, 0), 4);
        Check.due("13 no such cell", x.hours(3, -1), -2);
        Check.due("13 cell -1", x.hours(-1, 0), -2);
        Check.due("13 season 4", x.hours(0, 4), -2);
        Check.due("13 season -2", x.hours(0, -2), -2);
    }

    private static void has() {
        HillHours x = Check.hill("307");
        Check.own(x, 1, 2, 1, 1, 3);
        Check.due("14 cells of 1", x.has(1, 0), 5);
        Check.due("14 hours of 1", x.has(1, 1), x.hours(0, -1) + 4320);
        Check.due("14 cells of 2", x.has(2, 0), 2);
        Check.due("14 hours of 2", x.has(2, 1), 2970);
        Check.due("14 nobody's", x.has(0, 0), 0);
        Check.due("14 none, no hours", x.has(0, 1), 0);
        Check.due("14 only what is there", x.has(3, 0), 0);
        Check.due("14 owner 4", x.has(4, 0), -2);
        Check.due("14 owner -1", x.has(-1, 0), -2);
        Check.due("14 what 2", x.has(0, 2), -2);
        Check.due("14 what -1", x.has(0, -1), -2);
    }
}
