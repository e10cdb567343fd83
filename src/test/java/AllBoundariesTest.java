import java.math.BigInteger;
import java.util.ArrayList;
import java.util.List;

/** Promises 19 to 22 and the 512 calls, sentence by sentence: a method for each that names a boundary. */
public final class AllBoundariesTest {
    private static final int OUTSIDE = BuyersWeights.OUTSIDE, STATE = BuyersWeights.STATE, FULL = BuyersWeights.FULL;
    private static final Check CHECK = new Check();

    public static void main(String[] args) {
        imageNeedsAMarket();
        imageIsOneTheLatest();
        imageChangesNothingElse();
        restoreNeedsAnImage();
        restoreRefusesAnotherMarket();
        restoreTakesARefusedMarketForNone();
        restoreAgainAndAgain();
        restoreBringsBackWhatIsKept();
        restoreLeavesWhatIsNotKept();
        restoreOfAnEmptyAndOfAFullOne();
        imageIsNoMirror();
        countTells0To11();
        countOfTheFullest();
        countOfMarketsRead();
        digestOfANewObject();
        digestWithoutAMarket();
        digestOfEveryScene();
        digestWrapsAround();
        digestChangesNothing();
        the512thCallIsGood();
        CHECK.end("AllBoundariesTest");
    }

    private static void due(String call, long got, long want) {
        CHECK.due(call, got, want);
    }

    // ---- 19: An IMAGE is kept (one; the latest): the HOUR. STATE: no MARKET.

    private static void imageNeedsAMarket() {
        BuyersWeights x = Check.typed(new BuyersWeights(), "h01,h01;0");
        due("19: no market", x.image(), STATE);
        due("19: nothing is kept", x.restore(), STATE);
        x.market();
        due("19: a refused one is not kept", x.restore(), STATE);
        due("19: with one", x.image(), 1);
    }

    private static void imageIsOneTheLatest() {
        BuyersWeights x = Check.marketOf("h01,h01;0");
        for (int hour = 1; hour <= 5; hour++) {
            due("19: the hour", x.image(), hour);
            x.hour();
        }
        due("19: the latest", x.restore(), 5);
        due("19: no former one", x.restore(), 5);
        due("19: of a restored one", x.image(), 5);
    }

    private static void imageChangesNothingElse() {
        for (Scene scene : new Scene[] {Scene.JUST_READ, Scene.LIVELY, Scene.FULL}) {
            BuyersWeights x = scene.made.get();
            long before = x.digest();
            x.image();
            due("19: " + scene, x.digest(), before);
            x.restore();
            due("20: at once, " + scene, x.digest(), before);
        }
    }

    // ---- 20: It goes on from the IMAGE: the HOUR. STATE: none was kept, or there is another MARKET since.

    private static void restoreNeedsAnImage() {
        due("20: no market", new BuyersWeights().restore(), STATE);
        BuyersWeights x = Check.marketOf("h01,h01;0");
        x.buy(0, 1, 0);
        due("20: none was kept", x.restore(), STATE);
        due("20: the sale stays", x.count(3), 1);
    }

    private static void restoreRefusesAnotherMarket() {
        BuyersWeights x = Check.marketOf("h01,h01;0");
        x.hour();
        x.image();
        Check.typed(x, "h01,h01;0");
        due("20: a page is no market yet", x.restore(), 2);
        x.market();
        due("20: another one, though alike", x.restore(), STATE);
        due("20: its hour stays", x.count(2), 1);
        x.hour();
        x.hour();
        due("20: kept of this one", x.image(), 3);
        due("20: so it goes on", x.restore(), 3);
    }

    private static void restoreTakesARefusedMarketForNone() {
        BuyersWeights x = Check.marketOf("h01,h01;0");
        x.image();
        x.hour();
        due("20: no letter", x.market(), STATE);
        Check.typed(x, "h01,h01;4");
        due("20: no market", x.market(), STATE);
        due("20: so there is no other", x.restore(), 1);
    }

    private static void restoreAgainAndAgain() {
        BuyersWeights x = Scene.LIVELY.made.get();
        due("20: first", x.restore(), 1);
        long kept = x.digest();
        for (int time = 0; time < 5; time++) {
            x.buy(0, 1, time % 3);
            x.hour();
            x.pass(0);
            x.lose(20);
            due("20: again", x.restore(), 1);
            due("20: as it was kept", x.digest(), kept);
        }
    }

    // ---- An IMAGE keeps STONES, the HOUR, what each got, and paid, SALES, the LEDGER.

    private static void restoreBringsBackWhatIsKept() {
        BuyersWeights x = Check.marketOf("o24,m93,w05,r71;2");
        x.buy(3, 1, 0);
        x.buy(0, 3, 3);
        x.hour();
        x.pass(3);
        x.lose(1);
        String before = told(x);
        x.image();
        for (int sale = 0; sale < 8; sale++) {
            x.buy(sale % 4, (sale + 1) % 4, 3 - sale % 4);
            x.pass(sale % 4);
        }
        x.hour();
        x.lose(20);
        due("20: all is another now", told(x).equals(before) ? 1 : 0, 0);
        due("20: the hour", x.restore(), 2);
        due("20: each house, sales, the ledger", told(x).equals(before) ? 1 : 0, 1);
    }

    private static String told(BuyersWeights x) {
        StringBuilder text = new StringBuilder();
        for (int house = 0; house < 4; house++) {
            for (int what = 0; what <= 6; what++) {
                text.append(x.about(house, what)).append(' ');
            }
        }
        for (int what = 0; what <= 11; what++) {
            text.append(x.count(what)).append(' ');
        }
        return text.append(x.rubbed(0)).append(' ').append(x.rubbed(1)).append(' ').append(x.watch()).toString();
    }

    private static void restoreLeavesWhatIsNotKept() {
        BuyersWeights x = Check.marketOf("h01,h01;0");
        x.image();
        Check.typed(x, "r99;");
        x.plan(0, 1, 0);
        x.restore();
        due("20: letters", x.count(9), 4);
        due("20: their fault", x.fault(), 3);
        due("20: markets read", x.count(10), 1);
        due("20: plans done", x.count(11), 1);
        x.image();
        x.blank();
        x.restore();
        due("20: a page that is empty stays so", x.count(9), 0);
    }

    private static void restoreOfAnEmptyAndOfAFullOne() {
        BuyersWeights x = Check.marketOf("m99,o98,r07,w16;3");
        x.image();
        Check.buyTimes(x, 100, 0, 1, 2);
        for (int hand = 0; hand < 8; hand++) {
            x.pass(hand % 4);
        }
        x.lose(20);
        x.restore();
        CHECK.alike("20: back to the start", x, imageAtOnce());
        BuyersWeights full = Scene.FULL.made.get();
        full.image();
        full.clear();
        full.hour();
        due("20: back to a full one", full.restore(), 2);
        due("20: 100 sales", full.buy(0, 1, 0), FULL);
        due("20: 8 hands", full.pass(0), FULL);
        CHECK.due("20: what it lost", full.count(8), 3);
    }

    private static BuyersWeights imageAtOnce() {
        BuyersWeights x = Check.marketOf("m99,o98,r07,w16;3");
        x.image();
        return x;
    }

    /** What is done behind a restore() must not get into the image itself. */
    private static void imageIsNoMirror() {
        BuyersWeights x = imageAtOnce();
        x.restore();
        x.buy(1, 0, 1);
        x.pass(2);
        x.lose(2);
        x.hour();
        x.restore();
        CHECK.alike("20: the image is as it was", x, imageAtOnce());
    }

    // ---- 21: How many: 0 .. 11. OUTSIDE.

    private static void countTells0To11() {
        BuyersWeights x = Scene.LIVELY.made.get();
        for (int what = -50; what <= 50; what++) {
            boolean inside = what >= 0 && what <= 11;
            due("21: count(" + what + ") is taken", x.count(what) == OUTSIDE ? 0 : 1, inside ? 1 : 0);
        }
        due("21: the lowest", x.count(Integer.MIN_VALUE), OUTSIDE);
        due("21: the highest", x.count(Integer.MAX_VALUE), OUTSIDE);
        due("21: the hour without a market", new BuyersWeights().count(2), 0);
    }

    private static void countOfTheFullest() {
        BuyersWeights x = Check.marketOf("w01,h01,h01,h99;3");
        Check.buyTimes(x, 100, 0, 3, 3);
        Check.hours(x, 1);
        for (int hand = 0; hand < 8; hand++) {
            x.pass(3);
        }
        x.lose(20);
        for (int plan = 0; plan < 40; plan++) {
            x.plan(0, 60, 0);
        }
        Check.typed(x, "??????????????????");
        int[] want = {4, 3, 2, 100, 100 * 23, 100 * 9, 49, 8, 20, 18, 1, 40};
        for (int what = 0; what < want.length; what++) {
            due("21: count(" + what + ") of the fullest", x.count(what), want[what]);
        }
    }

    private static void countOfMarketsRead() {
        BuyersWeights x = new BuyersWeights();
        x.market();
        due("21: a refused one was not read", x.count(10), 0);
        for (int read = 1; read <= 40; read++) {
            Check.typed(x, "h01,h01;0");
            x.market();
            x.market();
            due("21: read", x.count(10), read);
        }
    }

    // ---- 22: h is 977, then for each of these numbers, in order, 31 times h, and it (as longs, wrapping)

    private static long folded(List<Long> numbers) {
        BigInteger h = BigInteger.valueOf(977);
        for (long number : numbers) {
            h = h.multiply(BigInteger.valueOf(31)).add(BigInteger.valueOf(number));
        }
        // longValue() keeps the lowest 64 bits, as wrapping does
        return h.longValue();
    }

    /** The numbers of a digest but for the letters of the page, which are given. */
    private static List<Long> numbersOf(BuyersWeights x, String page) {
        List<Long> numbers = new ArrayList<>();
        int houses = x.count(0);
        for (int house = 0; house < houses; house++) {
            for (int what = 0; what <= 6; what++) {
                numbers.add((long) x.about(house, what));
            }
            for (int other = 0; other < houses; other++) {
                if (other != house) {
                    numbers.add((long) x.fair(house, other));
                }
            }
        }
        if (houses > 0) {
            for (int what = 0; what <= 2; what++) {
                numbers.add((long) x.rubbed(what));
            }
            numbers.add((long) x.watch());
        }
        for (char letter : page.toCharArray()) {
            numbers.add((long) letter);
        }
        for (int what = 0; what <= 11; what++) {
            numbers.add((long) x.count(what));
        }
        return numbers;
    }

    private static void digestOfANewObject() {
        long h = 977;
        for (int number = 0; number < 12; number++) {
            h *= 31;
        }
        due("22: twelve times 0", new BuyersWeights().digest(), h);
    }

    private static void digestWithoutAMarket() {
        BuyersWeights x = new BuyersWeights();
        x.lose(20);
        Check.typed(x, " ~");
        due("22: no houses, no ledger", x.digest(),
            folded(List.of(32L, 126L, 0L, 0L, 0L, 0L, 0L, 0L, 0L, 0L, 20L, 2L, 0L, 0L)));
    }

    private static void digestOfEveryScene() {
        for (Scene scene : Scene.values()) {
            BuyersWeights x = scene.made.get();
            x.blank();
            due("22: " + scene + ", empty page", x.digest(), folded(numbersOf(x, "")));
            Check.typed(x, "m99,h01,o42,w28;1~");
            due("22: " + scene + ", full page", x.digest(), folded(numbersOf(x, "m99,h01,o42,w28;1~")));
        }
    }

    private static void digestWrapsAround() {
        BuyersWeights x = new BuyersWeights();
        Check.typed(x, "~~~~~~~~~~~~~~~~~~");
        List<Long> numbers = numbersOf(x, "~~~~~~~~~~~~~~~~~~");
        due("22: far beyond a long", x.digest(), folded(numbers));
        due("22: so many that it wraps", numbers.size(), 30);
    }

    private static void digestChangesNothing() {
        for (Scene scene : Scene.values()) {
            BuyersWeights x = scene.made.get();
            due("22: twice the same", x.digest(), x.digest());
            CHECK.alike("22: " + scene, x, scene.made.get());
        }
    }

    // ---- An object is used for at most 512 calls after it has been made.

    private static void the512thCallIsGood() {
        BuyersWeights x = Check.marketOf("m99,o98,r07,w16;3");
        int calls = 18;
        while (calls < 511) {
            x.hour();
            calls++;
        }
        due("512: the last call", x.measure(3, 0, 3), 11 - 3 + 1);
        BuyersWeights refused = new BuyersWeights();
        for (int call = 1; call < 512; call++) {
            refused.buy(0, 1, 0);
        }
        due("512: behind refusals alone", refused.letter('h'), 1);
    }
}
