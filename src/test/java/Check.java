/** What the tests of one promise share: a page typed in, answers compared, wrong ones told. */
final class Check {
    private int wrong = 0;
    private int asked = 0;

    void due(String call, long got, long want) {
        asked++;
        if (got != want) {
            wrong++;
            System.out.println(call + " answered " + got + ", due is " + want);
        }
    }

    /** Ends the test: exit code 1 if an answer was not as due. */
    void end(String name) {
        System.out.println(name + ": " + (asked - wrong) + " of " + asked + " answers as due");
        if (wrong != 0) {
            System.exit(1);
        }
    }

    static BuyersWeights typed(BuyersWeights x, String text) {
        for (int at = 0; at < text.length(); at++) {
            x.letter(text.charAt(at));
        }
        return x;
    }

    static BuyersWeights marketOf(String text) {
        BuyersWeights x = typed(new BuyersWeights(), text);
        if (x.market() < 0) {
            throw new IllegalArgumentException("no market: " + text);
        }
        return x;
    }
}
