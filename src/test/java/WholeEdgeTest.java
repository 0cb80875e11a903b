import java.math.BigInteger;

/** The edges that promises 50 to 53 name: knock, house, isSound and digest. */
public final class WholeEdgeTest {
    private static final int MAX = Integer.MAX_VALUE;
    private static final int MIN = Integer.MIN_VALUE;
    private static final int REFUSED = -9;
    /** Spans of which opposites, sums, tidy ones and moves can not be done, and some of which they can. */
    private static final int[][] SPANS = {{0, 0, 0}, {MAX, MAX, MAX}, {MIN, MIN, MIN}, {MIN + 1, MIN + 1, MIN + 1},
        {MAX, 12, 0}, {MAX, 11, 0}, {MIN, -12, 0}, {MIN, -11, 0}, {1, -12, 0}, {-1, 12, 0}, {0, 14, -3}, {1, 2, -3},
        {0, MIN, 0}, {0, 0, MIN}, {1 << 30, 0, 0}, {-(1 << 30), 0, 0}, {178956971, MIN, 0}, {800, 11, 30}};
    private static final int[][] DAYS = {{1600, 1, 1}, {2400, 12, 31}, {2000, 2, 29}, {2024, 1, 31}, {2024, 2, 28},
        {1900, 2, 28}, {1970, 1, 1}, {2400, 12, 28}, {1600, 1, 29}};
    /** What an object has that is new: its numbers, as the checksum takes them. */
    private static final String NEW_CARD = "0 0 0 0 1 0 8 8 8 ";
    private static final String NEW_DATE = "2000 1 1 10957 8 8 8 8 8 8 8 8 ";

    public static void main(String[] args) {
        Edges edges = new Edges(args);
        counted(edges);
        sound(edges);
        checksum(edges);
        edges.allOfPromises(50, 53);
        Due.end("WholeEdgeTest");
    }

    private static void counted(Edges edges) {
        edges.promise(50, "Returns how often one knocked, with this.", WholeEdgeTest::knocks);
        edges.promise(51, "`what`: 0 how often one knocked,", WholeEdgeTest::houseOfKnocks);
        edges.promise(51, "1 how often REFUSED was told,", WholeEdgeTest::houseOfRefused);
        edges.promise(51, "2 how many lie on the PILE,", WholeEdgeTest::houseOfPile);
        edges.promise(51, "3 how many CARDS are ZERO,", WholeEdgeTest::houseOfZero);
        edges.promise(51, "4 how many are NEGATIVE", WholeEdgeTest::houseOfNegative);
        edges.promise(51, "Throws `IllegalArgumentException` if what is not 0 to 4",
            () -> Kept.range(0, 4, (x, what) -> x.house(what)));
    }

    private static void sound(Edges edges) {
        edges.promise(52, "each SPAN is the SAME as one that is written with its three numbers;",
            WholeEdgeTest::soundWritten);
        edges.promise(52, "where it can be done, the opposite of its opposite is the SAME,",
            WholeEdgeTest::soundOpposites);
        edges.promise(52, "TIDY it is ALIKE to what it was, and tidied again the SAME;", WholeEdgeTest::soundTidy);
        edges.promise(52, "the sum is the SAME both ways round, or can be done neither way, and where it can be done,"
            + " it, less the second one, is the first one;", WholeEdgeTest::soundSums);
        edges.promise(52, "they are ALIKE just if their opposites are, where both can be done;",
            WholeEdgeTest::soundAlike);
        edges.promise(52, "of each two DATES the SPAN BETWEEN them, where it is told, is told by between() as by"
            + " until(), and leads back.", WholeEdgeTest::soundDates);
    }

    private static void checksum(Edges edges) {
        edges.promise(53, "A number d starts with 6217;", WholeEdgeTest::newObject);
        edges.promise(53, "which wraps around as a 64-bit integer", WholeEdgeTest::wrapsAround);
        edges.promise(53, "(n by n, m by m, also the same)", WholeEdgeTest::pairsInOrder);
        edges.promise(53, "how many signs piled() of 0 to 7 have;", WholeEdgeTest::pilesInChecksum);
        edges.promise(53, "how many signs text(), tidy() and opposite() have;", WholeEdgeTest::signsOfSpans);
        edges.promise(53, "how many signs moved() has, and how many BACK;", WholeEdgeTest::signsOfDates);
        edges.promise(53, "house() of 0 to 4; 1 if isSound(), otherwise 0.", WholeEdgeTest::houseInChecksum);
    }

    // ---- what is counted

    private static void knocks() {
        Periodcard x = new Periodcard();
        Due.is("the first one", x.knock(), 1);
        Due.is("the second one", x.knock(), 2);
        x.take(0);
        x.digest();
        x.isSound();
        Due.is("the third one", x.knock(), 3);
        Due.is("the first one at another object", new Periodcard().knock(), 1);
    }

    private static void houseOfKnocks() {
        Periodcard x = new Periodcard();
        Due.is("none", x.house(0), 0);
        for (int n = 1; n <= 200; n++) {
            x.knock();
            Due.is("knocked", x.house(0), n);
        }
    }

    private static void houseOfRefused() {
        Periodcard x = new Periodcard();
        Due.is("none", x.house(1), 0);
        for (int n = 1; n <= 100; n++) {
            x.take(0);
            Due.is("refused", x.house(1), n);
        }
        x.write(0, MIN, MAX, MIN);
        x.opposite(0);
        x.moved(0, 0, false);
        x.walk(0, 0, 12);
        x.digest();
        x.isSound();
        Due.is("texts, walks and checksums are not counted", x.house(1), 100);
        Due.throwsIndex("negated", () -> x.negated(4));
        Due.is("exceptions are not counted", x.house(1), 100);
        x.negated(0);
        Due.is("refused", x.house(1), 101);
    }

    private static void houseOfPile() {
        Periodcard x = new Periodcard();
        for (int n = 0; n <= 8; n++) {
            Due.is("laid", x.house(2), n);
            x.lay(0);
        }
        Due.is("no ninth", x.house(2), 8);
        for (int n = 8; n >= 0; n--) {
            Due.is("left", x.house(2), n);
            x.take(0);
        }
        Due.is("none is left", x.house(2), 0);
    }

    private static void houseOfZero() {
        Periodcard x = new Periodcard();
        for (int n = 0; n < 4; n++) {
            Due.is("ZERO", x.house(3), 4 - n);
            x.write(n, n == 0 ? 1 : 0, n == 1 ? -1 : 0, n > 1 ? MIN : 0);
        }
        Due.is("none is ZERO", x.house(3), 0);
        x.write(0, 1, -12, 0);
        Due.is("a total of 0", x.house(3), 0);
    }

    private static void houseOfNegative() {
        Periodcard x = new Periodcard();
        for (int n = 0; n < 4; n++) {
            Due.is("NEGATIVE", x.house(4), n);
            x.write(n, n == 0 ? -1 : MAX, n == 1 ? -1 : MAX, n > 1 ? MIN : MAX);
        }
        Due.is("all are NEGATIVE", x.house(4), 4);
        x.write(0, MAX, MAX, MAX);
        Due.is("one is not", x.house(4), 3);
    }

    // ---- whether all is sound

    private static Periodcard withSpans(int[] first, int[] second) {
        Periodcard x = new Periodcard();
        x.write(0, first[0], first[1], first[2]);
        x.write(1, second[0], second[1], second[2]);
        return x;
    }

    private static void soundWritten() {
        for (int[] span : SPANS) {
            Periodcard x = withSpans(span, span);
            x.write(2, x.part(0, 0), x.part(0, 1), x.part(0, 2));
            Due.is("written with its three numbers", x.areSame(0, 2), true);
            Due.is("sound", x.isSound(), true);
        }
    }

    private static void soundOpposites() {
        for (int[] span : SPANS) {
            Periodcard x = withSpans(span, span);
            boolean isDone = span[0] != MIN && span[1] != MIN && span[2] != MIN;
            Due.is("opposite", x.negated(0) != REFUSED, isDone);
            Due.is("of the opposite", x.negated(0) != REFUSED, isDone);
            Due.is("the same", x.areSame(0, 1), true);
            Due.is("sound", x.isSound(), true);
        }
    }

    private static void soundTidy() {
        for (int[] span : SPANS) {
            Periodcard x = withSpans(span, span);
            boolean isDone = x.normalized(0) != REFUSED;
            Due.is("alike", x.areAlike(0, 1), true);
            Due.is("again", x.normalized(0), isDone ? 0 : REFUSED);
            Due.is("sound", x.isSound(), true);
        }
    }

    private static void soundSums() {
        for (int[] first : SPANS) {
            for (int[] second : SPANS) {
                Periodcard x = withSpans(first, second);
                Due.is("sound", x.isSound(), true);
                Due.is("both ways round", x.with(0, 1, false), x.with(1, 0, false));
                x.copy(2, 0);
                if (x.plus(2, 1) != REFUSED) {
                    Due.is("less the second one", x.with(2, 1, true), x.text(0));
                    Due.is("sound", x.isSound(), true);
                }
            }
        }
    }

    private static void soundAlike() {
        for (int[] first : SPANS) {
            for (int[] second : SPANS) {
                Periodcard x = withSpans(first, second);
                boolean isAlike = x.areAlike(0, 1);
                if (x.negated(0) != REFUSED && x.negated(1) != REFUSED) {
                    Due.is("their opposites", x.areAlike(0, 1), isAlike);
                }
                Due.is("sound", x.isSound(), true);
            }
        }
    }

    private static void soundDates() {
        for (int[] a : DAYS) {
            for (int[] b : DAYS) {
                Periodcard x = new Periodcard();
                x.date(0, a[0], a[1], a[2]);
                x.date(1, b[0], b[1], b[2]);
                Due.is("sound", x.isSound(), true);
                boolean isTold = x.between(0, 0, 1) != REFUSED;
                Due.is("told by both", x.until(1, 0, 1) != REFUSED, isTold);
                Due.is("told the same", x.areSame(0, 1), true);
                if (isTold) {
                    x.move(0, 0);
                    Due.is("leads back", x.order(0, 1), 0);
                }
            }
        }
    }

    // ---- the checksum

    private static String words(Periodcard x) {
        StringBuilder words = new StringBuilder();
        for (long number : Checksum.numbers(x)) {
            words.append(number).append(' ');
        }
        return words.toString();
    }

    private static void isChecksum(String name, Periodcard x) {
        Due.is(name, x.digest(), Checksum.of(x));
    }

    private static void newObject() {
        String due = NEW_CARD.repeat(4) + "1 1 ".repeat(16) + "0 ".repeat(8) + NEW_DATE.repeat(4)
            + "0 8 ".repeat(16) + "0 0 0 4 0 1 ";
        Due.is("numbers", words(new Periodcard()), due);
        isChecksum("of a new object", new Periodcard());
        Due.is("of another new object", new Periodcard().digest(), new Periodcard().digest());
    }

    private static void wrapsAround() {
        for (int[] span : SPANS) {
            Periodcard x = withSpans(span, SPANS[2]);
            x.write(2, MAX, MAX, MAX);
            BigInteger d = BigInteger.valueOf(6217);
            for (long v : Checksum.numbers(x)) {
                d = d.multiply(BigInteger.valueOf(31)).add(BigInteger.valueOf(v));
            }
            Due.is("the last 64 bits", x.digest(), d.longValue());
            Due.is("there are more", d.bitLength() > 64, true);
        }
    }

    private static void pairsInOrder() {
        int[][] days = {DAYS[3], DAYS[1], DAYS[0], DAYS[6]};
        for (int n = 0; n < 4; n++) {
            for (int m = 0; m < 4; m++) {
                Periodcard x = Kept.sample();
                x.copy(n, m);
                x.date(n, days[m][0], days[m][1], days[m][2]);
                isChecksum("of " + n + " as " + m, x);
            }
        }
    }

    private static void pilesInChecksum() {
        for (int laid = 0; laid <= 8; laid++) {
            Periodcard x = new Periodcard();
            for (int k = 0; k < laid; k++) {
                x.ofDays(0, k % 2 == 0 ? MIN : k);
                x.lay(0);
            }
            isChecksum("of a pile of " + laid, x);
            x.take(1);
            isChecksum("one was taken", x);
        }
    }

    private static void signsOfSpans() {
        int[] some = {0, 9, 10, 99, 100, 999, 1000, 9999, 10000, 99999, 100000, 999999, 1000000, 9999999, 10000000,
            99999999, 100000000, 999999999, 1000000000, MAX};
        for (int number : some) {
            Periodcard x = withSpans(new int[] {number, -number, 1}, new int[] {-number, 1, number});
            isChecksum("of " + number, x);
        }
        for (int[] span : SPANS) {
            isChecksum("of ends", withSpans(span, SPANS[1]));
        }
    }

    private static void signsOfDates() {
        for (int[] day : DAYS) {
            for (int[] span : SPANS) {
                Periodcard x = withSpans(span, new int[] {0, 0, 9});
                x.date(2, day[0], day[1], day[2]);
                x.date(3, 2024, 9, 9);
                isChecksum("of days and spans", x);
            }
        }
    }

    private static void houseInChecksum() {
        Periodcard x = Kept.sample();
        isChecksum("of all that is counted", x);
        x.knock();
        x.take(0);
        isChecksum("of more", x);
    }
}
