import java.lang.reflect.Method;
import java.lang.reflect.Modifier;
import java.util.ArrayList;
import java.util.Arrays;
import java.util.Comparator;
import java.util.List;
import java.util.Random;

/** All promises: runs of calls by chance (the same ones each time), held against the plain telling. */
public final class RandomRunsTest {
    private static final int RUNS = 2000;
    private static final int CALLS = 120;
    private static final int QUARRELS = 2000;
    private static final int FALLS = 400;
    private static final int[] EDGES = {-1, -2, 8, 9, 10, 11, 12, 13, 16, 17, 20, 21, 48, 49, 90, 99, 100, 127, 128,
        255, 256, 900, 9999, 10000, 32768, 65536, 99999, 100000, Integer.MAX_VALUE, Integer.MIN_VALUE, Integer.MAX_VALUE - 3};

    public static void main(String[] args) throws Exception {
        List<Method> calls = new ArrayList<>();
        for (Method m : HillHours.class.getDeclaredMethods()) {
            if (Modifier.isPublic(m.getModifiers())) {
                calls.add(m);
            }
        }
        calls.sort(Comparator.comparing(Method::getName));
        for (int run = 0; run < RUNS; run++) {
            if (!agrees(run, calls)) {
                System.exit(1);
            }
        }
        System.out.println(RUNS + " runs are as told plainly");
        quarrels();
        falls();
    }

    /** Pairs and rings are rare by chance, so there are hills whose owners have unlike wishes. */
    private static void quarrels() {
        int rings = 0;
        int pairs = 0;
        for (int n = 0; n < QUARRELS; n++) {
            Random chance = new Random(-n);
            HillHours x = new HillHours();
            PlainHill plain = new PlainHill();
            typeBoth(x, plain, wideHill(chance), new StringBuilder());
            for (int c = 0; c < 12; c++) {
                int owner = chance.nextInt(4);
                int height = chance.nextInt(3) == 0 ? chance.nextInt(21) : 0;
                x.owner(c, owner);
                plain.owner(c, owner);
                x.stand(c, height);
                plain.stand(c, height);
            }
            for (int w = 0; w < 16; w++) {
                int v = chance.nextInt(2) == 0 ? 0 : chance.nextInt(10);
                x.worth(w / 4, w % 4, v);
                plain.worth(w / 4, w % 4, v);
            }
            if (x.changes(0) != plain.changes(0) || x.changes(1) != plain.changes(1)) {
                System.out.println("quarrel " + n + ": " + x.changes(0) + ", " + x.changes(1) + ", due are "
                        + plain.changes(0) + ", " + plain.changes(1));
                System.exit(1);
            }
            pairs += x.changes(0);
            rings += x.changes(1);
        }
        System.out.println(QUARRELS + " quarrels with " + pairs + " pairs and " + rings + " rings are as told plainly");
        if (pairs == 0 || rings == 0) {
            System.exit(1);
        }
    }

    /**
     * That two ways to part again are alike is rare by chance, so there are hills with many roofs, with
     * days that make cells unlike, and all roofs fall.
     */
    private static void falls() {
        int moved = 0;
        for (int n = 0; n < FALLS; n++) {
            Random chance = new Random(1000000 + n);
            HillHours x = new HillHours();
            PlainHill plain = new PlainHill();
            String text = n % 2 == 0 ? wideHill(chance) : wideHill(chance).substring(0, 9);
            typeBoth(x, plain, text, new StringBuilder());
            for (int c = 0; c < 12; c++) {
                int height = chance.nextInt(3) > 0 ? 0 : 1 + chance.nextInt(20);
                x.stand(c, height);
                plain.stand(c, height);
            }
            for (int season = 0; season < 4; season++) {
                int days = chance.nextInt(1 + season) == 0 ? 90 : 0;
                x.days(season, days);
                plain.days(season, days);
            }
            for (int c = 0; c < x.count(0); c++) {
                int d = 90 * chance.nextInt(12);
                long[] got = {x.parts(0), x.parts(1), x.again(c, d, 0), x.again(c, d, 1), x.highest(c, d)};
                long[] due = {plain.parts(0), plain.parts(1), plain.again(c, d, 0), plain.again(c, d, 1), plain.highest(c, d)};
                if (!Arrays.equals(got, due)) {
                    System.out.println("fall " + n + ", " + text + ", cell " + c + ", d " + d + ": "
                            + Arrays.toString(got) + ", due are " + Arrays.toString(due));
                    System.exit(1);
                }
                moved += got[2] > 0 ? 1 : 0;
            }
        }
        System.out.println(FALLS + " hills with " + moved + " falls after which cells change are as told plainly");
        if (moved == 0) {
            System.exit(1);
        }
    }

    private static String wideHill(Random chance) {
        StringBuilder t = new StringBuilder();
        for (int i = 0; i < 14; i++) {
            t.append(i % 5 == 4 ? ';' : (char) ('0' + chance.nextInt(10)));
        }
        return t.toString();
    }

    private static boolean agrees(int run, List<Method> calls) throws Exception {
        Random chance = new Random(run);
        HillHours x = new HillHours();
        PlainHill plain = new PlainHill();
        StringBuilder story = new StringBuilder();
        typeBoth(x, plain, hill(chance), story);
        if (run % 2 == 0) {
            for (int c = 0; c < 12; c++) {
                int owner = chance.nextInt(4);
                x.owner(c, owner);
                plain.owner(c, owner);
                story.append("owner ").append(c).append(' ').append(owner).append('\n');
            }
        }
        for (int n = 0; n < CALLS; n++) {
            if (chance.nextInt(25) == 0) {
                x.wipe();
                plain.wipe();
                story.append("wipe\n");
                typeBoth(x, plain, hill(chance), story);
            }
            Method call = pick(calls, chance);
            Object[] args = argumentsOf(call, chance);
            Method same = PlainHill.class.getDeclaredMethod(call.getName(), call.getParameterTypes());
            long got = ((Number) call.invoke(x, args)).longValue();
            long due = ((Number) same.invoke(plain, args)).longValue();
            story.append(call.getName()).append(Arrays.toString(args)).append(" -> ").append(got).append('\n');
            if (got != due) {
                System.out.println("run " + run + ":\n" + story + "due is " + due);
                return false;
            }
        }
        if (x.digest() != plain.digest()) {
            System.out.println("run " + run + ":\n" + story + "digest is not as due");
            return false;
        }
        return true;
    }

    private static Method pick(List<Method> calls, Random chance) {
        Method call = calls.get(chance.nextInt(calls.size()));
        boolean rare = call.getName().equals("wipe") || call.getName().equals("digest") || call.getName().equals("type");
        return rare && chance.nextInt(4) > 0 ? pick(calls, chance) : call;
    }

    private static Object[] argumentsOf(Method call, Random chance) {
        Object[] args = new Object[call.getParameterCount()];
        for (int i = 0; i < args.length; i++) {
            args[i] = argument(call.getName(), i, chance);
        }
        return args;
    }

    private static int argument(String name, int i, Random chance) {
        if (chance.nextInt(40) == 0) {
            return EDGES[chance.nextInt(EDGES.length)];
        }
        switch (name + i) {
            case "type0":
                return chance.nextBoolean() ? ';' : '0' + chance.nextInt(10);
            case "stand1": case "taken1":
                return chance.nextInt(21);
            case "days1":
                return chance.nextInt(100);
            case "highest1": case "again1":
                return chance.nextInt(chance.nextBoolean() ? 400 : 6000);
            case "worth2": case "count0":
                return chance.nextInt(9);
            case "sort2":
                return chance.nextBoolean() ? chance.nextInt(100) : chance.nextInt(5000);
            case "clouds1":
                return chance.nextInt(17);
            case "sheet2":
                return chance.nextInt(50) - 1;
            case "put3":
                return chance.nextBoolean() ? chance.nextInt(4) : chance.nextInt();
            case "put2": case "get2": case "copy1": case "copy3": case "copy4":
                return chance.nextInt(15);
            case "clear2": case "set0":
                return chance.nextInt(14) - 1;
            case "hours1":
                return chance.nextInt(5) - 1;
            case "steep1": case "shade2": case "seen1":
                return chance.nextInt(12);
            case "put1": case "get1": case "sheet1":
                return chance.nextInt(2);
            default:
                return small(name, i, chance);
        }
    }

    private static int small(String name, int i, Random chance) {
        String cellCalls = " cell0 stand0 owner0 shade0 light0 hours0 taken0 highest0 again0 value0 change0 change1 clear0 ";
        if (cellCalls.contains(" " + name + i + " ")) {
            return chance.nextInt(chance.nextBoolean() ? 4 : 12);
        }
        String twoCalls = " has1 parts0 again2 changes0 sort1 whose0 clear3 ";
        return chance.nextInt(twoCalls.contains(" " + name + i + " ") ? 2 : 4);
    }

    private static String hill(Random chance) {
        int rows = 1 + chance.nextInt(3);
        int width = 1 + chance.nextInt(4);
        StringBuilder t = new StringBuilder();
        for (int r = 0; r < rows; r++) {
            t.append(r == 0 ? "" : ";");
            for (int c = 0; c < width; c++) {
                t.append((char) ('0' + chance.nextInt(10)));
            }
        }
        if (chance.nextInt(8) == 0) {
            t.insert(chance.nextInt(t.length() + 1), "x;;5".charAt(chance.nextInt(4)));
        }
        return t.toString();
    }

    private static void typeBoth(HillHours x, PlainHill plain, String text, StringBuilder story) {
        story.append("typed ").append(text).append('\n');
        for (char b : text.toCharArray()) {
            x.type(b);
            plain.type(b);
        }
    }
}
