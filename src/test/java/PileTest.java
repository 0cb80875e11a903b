/** Promises 21 to 24: the pile. */
public final class PileTest {
    private static final int REFUSED = -9;

    public static void main(String[] args) {
        layingAndTaking();
        fullPile();
        summing();
        sumsOneByOne();
        noSuchCard();
        Due.end("PileTest");
    }

    private static void layingAndTaking() {
        Periodcard x = new Periodcard();
        Due.is("22: none lies there", x.take(0), REFUSED);
        x.write(0, 1, 2, 3);
        Due.is("21: first", x.lay(0), 1);
        Due.is("21: it stays on the card", x.text(0), "1y 2m 3d");
        x.write(0, 4, 5, 6);
        Due.is("21: second", x.lay(0), 2);
        x.write(0, 7, 8, 9);
        Due.is("24: as they were laid", x.piled(0) + x.piled(1), "1y 2m 3d4y 5m 6d");
        Due.is("24: none behind the last", x.piled(2), "");
        Due.is("24: none ahead of the first", x.piled(-1), "");
        Due.is("24: far off", x.piled(Integer.MAX_VALUE) + x.piled(Integer.MIN_VALUE), "");
        Due.is("22: what was laid last", x.take(3), 1);
        Due.is("22: text", x.text(3), "4y 5m 6d");
        Due.is("24: taken", x.piled(1), "");
        Due.is("22: the last one", x.take(2), 0);
        Due.is("22: text", x.text(2), "1y 2m 3d");
        Due.is("22: none is left", x.take(2), REFUSED);
        Due.is("22: nothing changes", x.text(2), "1y 2m 3d");
        Due.is("22: counted", x.house(1), 2);
    }

    private static void fullPile() {
        Periodcard x = new Periodcard();
        for (int n = 1; n <= 8; n++) {
            x.ofDays(1, n);
            Due.is("21: how many lie there", x.lay(1), n);
            Due.is("51: how many lie there", x.house(2), n);
        }
        Due.is("21: 8 lie there", x.lay(1), REFUSED);
        Due.is("21: counted", x.house(1), 1);
        Due.is("24: the last one", x.piled(7), "0y 0m 8d");
        Due.is("24: no ninth", x.piled(8), "");
        Due.is("22: from the full pile", x.take(0), 7);
        Due.is("21: again", x.lay(2), 8);
        Due.is("24: the last one", x.piled(7), "0y 0m 0d");
    }

    private static void summing() {
        Periodcard x = new Periodcard();
        x.write(1, 1, 1, 1);
        Due.is("23: an empty pile", x.sum(1), 1);
        Due.is("23: nothing", x.text(1), "0y 0m 0d");
        Due.is("23: again", x.sum(1), 0);
        x.write(0, 1, 14, -3);
        x.lay(0);
        x.lay(0);
        x.write(0, 5, -30, 1);
        x.lay(0);
        Due.is("23: sum", x.sum(1), 1);
        Due.is("23: text", x.text(1), "7y -2m -5d");
        Due.is("23: again", x.sum(1), 0);
        Due.is("23: the pile stays", x.house(2), 3);
        Due.is("23: not what stands on the card", x.sum(0) + x.text(0), "17y -2m -5d");
    }

    private static void sumsOneByOne() {
        Periodcard x = new Periodcard();
        int[] laid = {Integer.MAX_VALUE, 1, -5};
        for (int days : laid) {
            x.ofDays(0, days);
            x.lay(0);
        }
        x.write(1, 9, 9, 9);
        Due.is("23: one sum on the way can not be done", x.sum(1), REFUSED);
        Due.is("23: nothing changes", x.text(1), "9y 9m 9d");
        Due.is("23: counted", x.house(1), 1);
        x.take(0);
        x.take(0);
        x.ofDays(0, -5);
        x.lay(0);
        x.ofDays(0, 1);
        x.lay(0);
        Due.is("23: in another order", x.sum(1), 1);
        Due.is("23: text", x.text(1), "0y 0m 2147483643d");
    }

    private static void noSuchCard() {
        Periodcard empty = new Periodcard();
        Periodcard full = new Periodcard();
        for (int n = 0; n < 8; n++) {
            full.lay(0);
        }
        for (int n : new int[] {-1, 4}) {
            Due.throwsIndex("21", () -> full.lay(n));
            Due.throwsIndex("22", () -> empty.take(n));
            Due.throwsIndex("22", () -> full.take(n));
            Due.throwsIndex("23", () -> full.sum(n));
        }
        Due.is("21 to 23: nothing changes", full.house(2), 8);
        Due.is("21 to 23: not counted", full.house(1) + empty.house(1), 0);
    }
}
