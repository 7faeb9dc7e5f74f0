/** Counts answers that are not as due; a test ends with {@link #end}. */
final class Check {
    private static int wrong = 0;
    private static int asked = 0;

    private Check() {
    }

    static void due(String call, long got, long want) {
        asked++;
        if (got != want) {
            wrong++;
            if (wrong <= 50) {
                System.out.println(call + " answered " + got + ", due is " + want);
            }
        }
    }

    /** Types a text, byte by byte. */
    static void type(LaterJury x, String text) {
        for (int i = 0; i < text.length(); i++) {
            x.type(text.charAt(i));
        }
    }

    /** A new object to which a text without a fault was told. */
    static LaterJury told(String text) {
        LaterJury x = new LaterJury();
        type(x, text);
        due("court() of a new object told " + text, x.court() < 0 ? -1 : 0, 0);
        return x;
    }

    static void end() {
        System.out.println(asked + " answers asked, " + wrong + " not as due");
        if (wrong != 0 || asked == 0) {
            System.exit(1);
        }
    }
}
