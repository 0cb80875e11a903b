import java.util.ArrayList;
import java.util.List;

/** The checksum as promise 53 tells it, by the other methods of the face alone. */
final class Checksum {
    private final Periodcard x;
    private final List<Long> all = new ArrayList<>();

    private Checksum(Periodcard x) {
        this.x = x;
    }

    static long of(Periodcard x) {
        long d = 6217;
        for (long v : numbers(x)) {
            d = d * 31 + v;
        }
        return d;
    }

    /** Each v, in the order in which the checksum takes them. */
    static List<Long> numbers(Periodcard x) {
        Checksum checksum = new Checksum(x);
        checksum.cards();
        checksum.dates();
        for (int what = 0; what < 5; what++) {
            checksum.next(x.house(what));
        }
        checksum.next(x.isSound() ? 1 : 0);
        return checksum.all;
    }

    private void next(long v) {
        all.add(v);
    }

    private void cards() {
        for (int n = 0; n < 4; n++) {
            next(x.part(n, 0));
            next(x.part(n, 1));
            next(x.part(n, 2));
            next(Long.parseLong(x.total(n)));
            next(x.isZero(n) ? 1 : 0);
            next(x.isNegative(n) ? 1 : 0);
            next(x.text(n).length());
            next(x.tidy(n).length());
            next(x.opposite(n).length());
        }
        for (int n = 0; n < 4; n++) {
            for (int m = 0; m < 4; m++) {
                next(x.areSame(n, m) ? 1 : 0);
                next(x.areAlike(n, m) ? 1 : 0);
            }
        }
        for (int k = 0; k < 8; k++) {
            next(x.piled(k).length());
        }
    }

    private void dates() {
        for (int n = 0; n < 4; n++) {
            for (int what = 0; what < 4; what++) {
                next(x.ofDate(n, what));
            }
            for (int m = 0; m < 4; m++) {
                next(x.moved(n, m, false).length());
                next(x.moved(n, m, true).length());
            }
        }
        for (int n = 0; n < 4; n++) {
            for (int m = 0; m < 4; m++) {
                next(x.order(n, m));
                next(x.apart(n, m).length());
            }
        }
    }
}
