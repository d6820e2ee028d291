import java.nio.charset.StandardCharsets;

/** What the tests share: answers that are due, and hills made from a text. */
final class Check {
    static final int LEAST_INT = Integer.MIN_VALUE;
    static final long BAD_LONG = Long.MIN_VALUE + 2;
    static final int[] FAR = {Integer.MIN_VALUE, Integer.MIN_VALUE + 1, -1000000, -3, Integer.MAX_VALUE - 1, Integer.MAX_VALUE};

    private static int asked;
    private static int wrong;

    private Check() {
    }

    static void due(String call, long got, long want) {
        asked++;
        if (got != want) {
            wrong++;
            System.out.println(call + " answered " + got + ", due is " + want);
        }
    }

    static HillHours hill(String text) {
        HillHours x = new HillHours();
        typeInto(x, text);
        return x;
    }

    static void typeInto(HillHours x, String text) {
        for (byte b : text.getBytes(StandardCharsets.ISO_8859_1)) {
            x.type(b & 255);
        }
    }

    static void own(HillHours x, int... owners) {
        for (int cell = 0; cell < owners.length; cell++) {
            x.owner(cell, owners[cell]);
        }
    }

    static void end() {
        System.out.println(asked + " answers, " + wrong + " not as due");
        if (wrong != 0) {
            System.exit(1);
        }
    }
}
