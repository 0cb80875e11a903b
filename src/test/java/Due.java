/** Counts the answers that are not the ones that are due, and prints them. */
final class Due {
    private static int asked = 0;
    private static int wrong = 0;
    private static String place = "";

    private Due() {
    }

    /** From here on the calls are told with the place in the document that asks for their answers. */
    static void at(String newPlace) {
        place = newPlace + ": ";
    }

    static int asked() {
        return asked;
    }

    static void is(String call, Object got, Object want) {
        asked++;
        if (!want.equals(got)) {
            wrong++;
            System.out.println(place + call + " answered " + got + ", due is " + want);
        }
    }

    static void throwsIndex(String call, Runnable act) {
        is(call, thrownBy(act), IndexOutOfBoundsException.class);
    }

    static void throwsArgument(String call, Runnable act) {
        is(call, thrownBy(act), IllegalArgumentException.class);
    }

    private static Object thrownBy(Runnable act) {
        try {
            act.run();
            return "nothing thrown";
        } catch (RuntimeException e) {
            return e.getClass();
        }
    }

    static void end(String test) {
        System.out.println(test + ": " + asked + " answers, " + wrong + " not as due");
        if (wrong != 0 || asked == 0) {
            System.exit(1);
        }
    }
}
