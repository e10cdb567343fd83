import java.util.function.Supplier;
import java.util.function.ToLongFunction;

/** What the tests share: a page typed in, answers compared, wrong ones told. */
final class Check {
    private int wrong = 0;
    private int asked = 0;

    void due(String call, long got, long want) {
        asked++;
        if (got != want) {
            wrong++;
            System.out.println(call + " answered " + got + ", due is " + want);
        }
    }

    /** A refused call is made on one of two like objects: both must be alike in everything behind it. */
    void refused(String call, Supplier<BuyersWeights> made, ToLongFunction<BuyersWeights> refusedCall, long want) {
        BuyersWeights x = made.get();
        due(call, refusedCall.applyAsLong(x), want);
        alike(call + " leaves everything as it was", x, made.get());
    }

    void alike(String call, BuyersWeights got, BuyersWeights want) {
        asked++;
        String gotAll = everything(got);
        String wantAll = everything(want);
        if (!gotAll.equals(wantAll)) {
            wrong++;
            System.out.println(call + ":\n  there is " + gotAll + "\n  due is   " + wantAll);
        }
    }

    /** Ends the test: exit code 1 if an answer was not as due. */
    void end(String name) {
        System.out.println(name + ": " + (asked - wrong) + " of " + asked + " answers as due");
        if (wrong != 0) {
            System.exit(1);
        }
    }

    static BuyersWeights typed(BuyersWeights x, String text) {
        for (int at = 0; at < text.length(); at++) {
            x.letter(text.charAt(at));
        }
        return x;
    }

    static BuyersWeights marketOf(String text) {
        BuyersWeights x = typed(new BuyersWeights(), text);
        if (x.market() < 0) {
            throw new IllegalArgumentException("no market: " + text);
        }
        return x;
    }

    static void buyTimes(BuyersWeights x, int times, int buyer, int dealer, int stone) {
        for (int time = 0; time < times; time++) {
            x.buy(buyer, dealer, stone);
        }
    }

    static void hours(BuyersWeights x, int hours) {
        for (int hour = 0; hour < hours; hour++) {
            x.hour();
        }
    }

    /** All that can be asked, of the image too; that is asked by going back to it, so the object is used up. */
    private static String everything(BuyersWeights x) {
        StringBuilder text = new StringBuilder();
        tellNow(x, text);
        text.append("; restore ").append(x.restore());
        tellNow(x, text);
        return text.toString();
    }

    private static void tellNow(BuyersWeights x, StringBuilder text) {
        text.append(" digest ").append(x.digest()).append(" fault ").append(x.fault()).append(" counts");
        for (int what = 0; what <= 11; what++) {
            text.append(' ').append(x.count(what));
        }
        for (int house = 0; house < 4; house++) {
            text.append(" house");
            for (int what = 0; what <= 6; what++) {
                text.append(' ').append(x.about(house, what));
            }
        }
        text.append(" ledger ").append(x.watch());
        for (int what = 0; what <= 2; what++) {
            text.append(' ').append(x.rubbed(what)).append(' ').append(x.markets(9, 99, what));
        }
    }
}
