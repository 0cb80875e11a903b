/** Promises 50 to 53: knock, house, isSound and digest. */
public final class WholeTest {
    private static final int MAX = Integer.MAX_VALUE;
    private static final int MIN = Integer.MIN_VALUE;

    public static void main(String[] args) {
        knocking();
        houses();
        sound();
        digests();
        askingChangesNothing();
        Due.end("WholeTest");
    }

    private static void knocking() {
        Periodcard x = new Periodcard();
        for (int n = 1; n <= 5; n++) {
            Due.is("50: knock", x.knock(), n);
            Due.is("51: how often one knocked", x.house(0), n);
        }
        Due.is("50: another object", new Periodcard().knock(), 1);
    }

    private static void houses() {
        Periodcard x = new Periodcard();
        Due.is("51: all are ZERO", x.house(3), 4);
        x.write(1, 1, 0, 0);
        x.write(2, 1, -12, 0);
        x.write(3, 0, 0, -1);
        Due.is("51: one is ZERO", x.house(3), 1);
        Due.is("51: two are NEGATIVE", x.house(4), 2);
        x.take(0);
        x.take(0);
        Due.is("51: REFUSED twice", x.house(1), 2);
        x.lay(1);
        Due.is("51: one lies there", x.house(2), 1);
        Due.is("51: none knocked", x.house(0), 0);
        Due.throwsArgument("51: what is 5", () -> x.house(5));
        Due.throwsArgument("51: what is -1", () -> x.house(-1));
        Due.throwsArgument("51: what is far off", () -> x.house(MIN));
    }

    private static Periodcard full(int seed) {
        int[] numbers = {0, 1, -1, MAX, MIN, 12, -12, 25, MAX - 1, MIN + 1};
        Periodcard x = new Periodcard();
        for (int n = 0; n < 4; n++) {
            int k = seed + 3 * n;
            x.write(n, numbers[k % 10], numbers[(k / 2 + 1) % 10], numbers[(k / 3 + 2) % 10]);
            x.lay(n);
            x.date(n, 1600 + (k * 97) % 801, 1 + k % 12, 1 + (k * 5) % 28);
        }
        x.date(3, 2024, 1, 29 + seed % 3);
        return x;
    }

    private static void sound() {
        Due.is("52: a new object", new Periodcard().isSound(), true);
        for (int seed = 0; seed < 200; seed++) {
            Due.is("52: object " + seed, full(seed).isSound(), true);
        }
    }

    private static void digests() {
        Due.is("53: a new object", new Periodcard().digest(), Checksum.of(new Periodcard()));
        for (int seed = 0; seed < 200; seed++) {
            Periodcard x = full(seed);
            Due.is("53: object " + seed, x.digest(), Checksum.of(x));
            x.knock();
            x.take(0);
            Due.is("53: changed object " + seed, x.digest(), Checksum.of(x));
        }
    }

    private static void askingChangesNothing() {
        Periodcard x = full(7);
        long d = x.digest();
        x.isSound();
        Due.is("52, 53: asking changes nothing", x.digest(), d);
        Due.is("52, 53: asking is not counted", x.house(1), 0);
    }
}
