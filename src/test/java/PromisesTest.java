/** Each promise of the document by itself: ordinary calls, the edges that it names, refusals in their order. */
public final class PromisesTest {
    private static final int NONE = BuyersWeights.NONE, UNKNOWN = BuyersWeights.UNKNOWN,
        OUTSIDE = BuyersWeights.OUTSIDE, STATE = BuyersWeights.STATE, FULL = BuyersWeights.FULL;
    private static final int LOW = Integer.MIN_VALUE, HIGH = Integer.MAX_VALUE;
    private static final Check CHECK = new Check();

    public static void main(String[] args) {
        promise1NewObject();
        promise2Letter();
        promise3Blank();
        promise4Fault();
        promise5Market();
        promise6About();
        promise7As();
        promise8Measure();
        promise9Buy();
        promise10Hour();
        promise11Plan();
        promise11PlanLimits();
        promise12Fair();
        promise13Pass();
        promise14Lose();
        promise15Clear();
        promise16Rubbed();
        promise17Watch();
        promise18Markets();
        promise19Image();
        promise20Restore();
        promise21Count();
        promise22Digest();
        CHECK.end("PromisesTest");
    }

    private static void due(String call, long got, long want) {
        CHECK.due(call, got, want);
    }

    private static void promise1NewObject() {
        BuyersWeights x = new BuyersWeights();
        for (int what = 0; what <= 11; what++) {
            due("1: count(" + what + ")", x.count(what), 0);
        }
        due("1: about(0, 0)", x.about(0, 0), UNKNOWN);
        due("1: fault()", x.fault(), 0);
    }

    private static void promise2Letter() {
        BuyersWeights x = new BuyersWeights();
        due("2: below the first", x.letter(31), OUTSIDE);
        due("2: beyond the last", x.letter(127), OUTSIDE);
        due("2: lowest", x.letter(LOW), OUTSIDE);
        due("2: highest", x.letter(HIGH), OUTSIDE);
        due("2: 16-bit wrap", x.letter(65536 + 104), OUTSIDE);
        due("2: refusals leave the page", x.count(9), 0);
        due("2: the first", x.letter(32), 1);
        due("2: the last", x.letter(126), 2);
        for (int n = 3; n <= 18; n++) {
            due("2: letter " + n, x.letter('h'), n);
        }
        due("2: the 19th", x.letter('h'), FULL);
        due("2: outside ahead of full", x.letter(127), OUTSIDE);
        due("2: still 18", x.count(9), 18);
        due("2: 18 letters can be looked at", x.fault(), 0);
    }

    private static void promise3Blank() {
        BuyersWeights x = new BuyersWeights();
        due("3: empty", x.blank(), 0);
        Check.typed(x, "h01");
        due("3: three", x.blank(), 3);
        due("3: empty again", x.blank(), 0);
        due("3: goes on from the start", x.letter('r'), 1);
        BuyersWeights y = Check.marketOf("h01,h01;0");
        Check.typed(y, "h");
        y.blank();
        due("3: the market stays", y.count(0), 2);
    }

    private static void fault(String page, int want) {
        due("4: fault of \"" + page + "\"", Check.typed(new BuyersWeights(), page).fault(), want);
    }

    private static void promise4Fault() {
        fault("", 0);
        fault("x", 0);
        fault("H", 0);
        fault(" h01", 0);
        for (char kind : "hrowm".toCharArray()) {
            fault("" + kind, 1);
        }
        fault("hh", 1);
        fault("h/", 1);
        fault("h:", 1);
        fault("h0", 2);
        fault("h9", 2);
        fault("h00", 2);
        fault("h0:", 2);
        fault("h09", 3);
        fault("h01;", 3);
        fault("h011", 3);
        fault("h01,", 4);
        fault("h01,,", 4);
        fault("h01,h01", 7);
        fault("h01,h01;", 8);
        fault("h01,h01;;", 8);
        fault("h01,h01;4", 8);
        fault("h01,h01;0", 9);
        fault("h01,h01;3", 9);
        fault("h01,h01;30", 9);
        fault("h01,h01;3,h01", 9);
        fault("h01,h01.3", 7);
        fault("r99,m09,o98;", 12);
        fault("r99,m09,o98,", 12);
        fault("r99,m09,o98,w01", 15);
        fault("r99,m09,o98,w01,", 15);
        fault("r99,m09,o98,w01;", 16);
        fault("r99,m09,o98,w01;2", 17);
        fault("r99,m09,o98,w01;22", 17);
    }

    private static void noMarket(String page) {
        BuyersWeights x = Check.typed(new BuyersWeights(), page);
        due("5: market() of \"" + page + "\"", x.market(), STATE);
        due("5: it leaves the page", x.count(9), Math.min(page.length(), 18));
        due("5: it was not read", x.count(10), 0);
    }

    private static void promise5Market() {
        for (String page : new String[] {"", "h", "h01", "h01,", "h01;0", "h01,h01", "h01,h01;", "h01,h01;4",
            "h01,h00;1", "h01,h01;00", "r99,m09,o98,w01,h11;2", "h01,h01,;0", ";0", "0", "h01,x01;0"}) {
            noMarket(page);
        }
        due("5: two houses", Check.typed(new BuyersWeights(), "h01,r12;0").market(), 2);
        due("5: three houses", Check.typed(new BuyersWeights(), "h01,r12,o23;1").market(), 3);
        due("5: four houses", Check.typed(new BuyersWeights(), "h01,r12,o23,w34;2").market(), 4);
        anotherMarket();
    }

    private static void anotherMarket() {
        BuyersWeights x = Check.marketOf("m99,o99,r99,w99;3");
        x.buy(1, 0, 1);
        x.buy(0, 1, 0);
        x.hour();
        x.pass(0);
        x.lose(7);
        x.plan(0, 5, 0);
        Check.typed(x, "o12,h34");
        due("5: refused", x.market(), STATE);
        due("5: a refusal leaves the market", x.count(0), 4);
        due("5: and the hour", x.count(2), 2);
        due("5: and the ledger", x.count(7), 1);
        Check.typed(x, ";1");
        due("5: another one", x.market(), 2);
        due("5: the page is empty then", x.count(9), 0);
        long[] want = {2, 1, 1, 0, 0, 0, 24, 0, 0, 0, 2, 1};
        for (int what = 0; what < want.length; what++) {
            due("5: count(" + what + ") of another one", x.count(what), want[what]);
        }
        int[] house = {2, 11, 2, 0, 0, 0, 0};
        for (int what = 0; what < house.length; what++) {
            due("5: about(0, " + what + ") of another one", x.about(0, what), house[what]);
        }
        due("5: houses that are gone", x.about(2, 0), UNKNOWN);
        due("5: market() with an empty page", x.market(), STATE);
        due("5: leaves it", x.count(0), 2);
    }

    private static void promise6About() {
        BuyersWeights x = Check.marketOf("h09,r98,o57,w46;1");
        int[][] want = {{0, 10, 9}, {1, 19, 8}, {2, 15, 7}, {3, 14, 6}};
        for (int house = 0; house < 4; house++) {
            for (int what = 0; what <= 6; what++) {
                due("6: about(" + house + ", " + what + ")", x.about(house, what), what < 3 ? want[house][what] : 0);
            }
        }
        x.buy(0, 1, 2);
        x.buy(3, 1, 2);
        x.buy(0, 2, 3);
        int[] first = {0, 10, 9, 16 + 15, 8 + 7, 0, 0};
        int[] second = {1, 19, 8, 0, 0, 2, 0};
        int[] third = {2, 11, 7, 0, 0, 1, 2};
        int[] fourth = {3, 14, 6, 13 + 1 + 1, 8, 0, 1};
        for (int what = 0; what <= 6; what++) {
            due("6: buyer, " + what, x.about(0, what), first[what]);
            due("6: dealer, " + what, x.about(1, what), second[what]);
            due("6: stone, " + what, x.about(2, what), third[what]);
            due("6: widow, " + what, x.about(3, what), fourth[what]);
        }
        due("6: what below", x.about(0, -1), OUTSIDE);
        due("6: what beyond", x.about(0, 7), OUTSIDE);
        due("6: house below", x.about(-1, 0), UNKNOWN);
        due("6: house beyond", x.about(4, 0), UNKNOWN);
        due("6: unknown ahead of outside", x.about(4, 7), UNKNOWN);
        due("6: lowest", x.about(LOW, LOW), UNKNOWN);
        due("6: highest what", x.about(3, HIGH), OUTSIDE);
        due("6: the fifth kind", Check.marketOf("h01,m01;0").about(1, 0), 4);
    }

    private static void promise7As() {
        String kinds = "hrowm";
        for (int own = 0; own < 5; own++) {
            BuyersWeights x = Check.marketOf("h01," + kinds.charAt(own) + "01;0");
            for (int kind = 0; kind < 5; kind++) {
                boolean is = kind == 0 || kind == own || (own == 4 && kind == 1);
                due("7: " + kinds.charAt(own) + " as " + kind, x.as(1, kind), is ? 1 : NONE);
            }
            due("7: kind below", x.as(1, -1), OUTSIDE);
            due("7: kind beyond", x.as(1, 5), OUTSIDE);
            due("7: house below", x.as(-1, 0), UNKNOWN);
            due("7: house beyond", x.as(2, 0), UNKNOWN);
            due("7: unknown ahead of outside", x.as(2, 5), UNKNOWN);
        }
        due("7: a rubber is no miller", Check.marketOf("r01,h01;0").as(0, 4), NONE);
        due("7: house 0", Check.marketOf("m01,h01;0").as(0, 1), 0);
        due("7: no market", new BuyersWeights().as(0, 0), UNKNOWN);
    }

    private static void refusesTrades(String promise, BuyersWeights x, boolean sale) {
        int[][] wrong = {{-1, 1, 0}, {3, 1, 0}, {0, -1, 0}, {0, 3, 0}, {0, 1, -1}, {0, 1, 3}, {0, 0, 0}, {1, 1, 2},
            {LOW, 1, 0}, {0, HIGH, 0}, {0, 1, LOW}};
        for (int[] w : wrong) {
            int got = sale ? x.buy(w[0], w[1], w[2]) : x.measure(w[0], w[1], w[2]);
            due(promise + ": of " + w[0] + ", " + w[1] + ", " + w[2], got, UNKNOWN);
        }
    }

    private static void promise8Measure() {
        BuyersWeights x = Check.marketOf("h31,w52,m73;2");
        due("8: odd hour", x.measure(0, 1, 0), 15);
        due("8: another stone", x.measure(0, 1, 2), 19);
        due("8: the dealer's stone", x.measure(0, 1, 1), 17);
        due("8: a widow buys", x.measure(1, 0, 0), 16);
        due("8: nothing is worn", x.measure(1, 2, 0), 16);
        due("8: nothing is sold", x.count(3), 0);
        x.hour();
        due("8: even hour", x.measure(0, 1, 0), 11);
        due("8: a widow in an even hour", x.measure(1, 0, 0), 12);
        refusesTrades("8", x, false);
        due("8: no market", new BuyersWeights().measure(0, 1, 0), UNKNOWN);
        lightestStone();
    }

    private static void lightestStone() {
        BuyersWeights x = Check.marketOf("w01,m01,h01;3");
        for (int sale = 0; sale < 9; sale++) {
            x.buy(0, 1, 2);
        }
        due("8: the stone is 1", x.about(2, 1), 1);
        due("8: lightest, odd hour", x.measure(1, 0, 2), 4);
        due("8: lightest, odd hour, widow", x.measure(0, 1, 2), 5);
        x.hour();
        due("8: 0 at least", x.measure(1, 0, 2), 0);
        due("8: a widow's 1 is under the least, too", x.measure(0, 1, 2), 0);
    }

    private static void promise9Buy() {
        BuyersWeights x = Check.marketOf("o52,h73,r94;1");
        due("9: honest stone, house deals", x.buy(0, 1, 0), 16);
        due("9: worn by 1", x.about(0, 1), 14);
        due("9: honest stone, rubber deals", x.buy(0, 2, 0), 15);
        due("9: worn by 2", x.about(0, 1), 12);
        due("9: house's stone, rubber deals", x.buy(0, 2, 1), 18);
        due("9: rubbed by 1", x.about(1, 1), 16);
        due("9: house's stone, honest deals", x.buy(2, 0, 1), 17);
        due("9: not worn", x.about(1, 1), 16);
        due("9: rubber's own stone, he deals", x.buy(1, 2, 2), 20);
        due("9: rubbed, too", x.about(2, 1), 18);
        due("9: a rubber that buys rubs nothing", x.buy(2, 1, 2), 19);
        due("9: as it was", x.about(2, 1), 18);
        refusesTrades("9", x, true);
        due("9: six sales", x.count(3), 6);
        due("9: got by the first", x.about(0, 3), 16 + 15 + 18);
        due("9: paid by the first in the dealers' coin", x.about(0, 4), 3 + 4 + 4);
        due("9: no market", new BuyersWeights().buy(0, 1, 0), UNKNOWN);
        millersAndLimits();
    }

    private static void millersAndLimits() {
        BuyersWeights x = Check.marketOf("o01,m09,h05;0");
        due("9: house's stone, miller deals", x.buy(0, 1, 2), 10);
        due("9: rubbed by 2", x.about(2, 1), 8);
        due("9: honest stone, miller deals", x.buy(0, 1, 0), 10);
        due("9: worn by 3", x.about(0, 1), 7);
        for (int sale = 2; sale < 100; sale++) {
            x.buy(0, 1, 0);
        }
        due("9: 1 at least", x.about(0, 1), 1);
        due("9: a hundred", x.count(3), 100);
        due("9: a hundred and one", x.buy(0, 1, 0), FULL);
        due("9: unknown ahead of full", x.buy(0, 0, 0), UNKNOWN);
        due("9: full changes nothing", x.about(0, 4), 900);
        due("9: used", x.about(0, 6), 99);
    }

    private static void promise10Hour() {
        BuyersWeights x = new BuyersWeights();
        due("10: no market", x.hour(), STATE);
        due("10: no hour", x.count(2), 0);
        Check.typed(x, "h01,h01;2");
        x.market();
        due("10: at first", x.count(2), 1);
        for (int hour = 2; hour < 300; hour++) {
            due("10: hour", x.hour(), hour);
        }
        due("10: told", x.count(2), 299);
        due("10: odd", x.measure(0, 1, 0), 12);
    }

    private static void plan(BuyersWeights x, int house, int ounces, int... want) {
        int[] whats = {0, 1, 10, 11, 12};
        for (int at = 0; at < whats.length; at++) {
            due("11: plan(" + house + ", " + ounces + ", " + whats[at] + ")", x.plan(house, ounces, whats[at]),
                at < want.length ? want[at] : NONE);
        }
    }

    private static void promise11Plan() {
        // one dear sale against two cheap ones: the price comes first
        plan(Check.marketOf("h91,h09,h04;0"), 0, 20, 8, 2, 20, 20);
        // like prices: the fewest sales, though others come first by numbers
        plan(Check.marketOf("h91,m01,h02;0"), 0, 38, 3, 2, 20, 10);
        // the stone that the rubber wears is the other one's in the second sale
        plan(Check.marketOf("h01,r01;0"), 0, 20, 2, 2, 10, 11);
        // a worn stone brings less: three sales with the third by the other stone
        plan(Check.marketOf("h01,m01;0"), 0, 28, 3, 3, 10, 10, 11);
        plan(Check.marketOf("h01,m01;0"), 0, 29, NONE);
        // none, and the most that can be
        plan(Check.marketOf("h01,h01;0"), 0, 31, NONE);
        plan(Check.marketOf("h99,h99;3"), 1, 60, 27, 3, 0, 0, 0);
        BuyersWeights even = Check.marketOf("h01,h01;3");
        even.hour();
        plan(even, 0, 7, 1, 1, 10);
        plan(even, 0, 8, 2, 2, 10, 10);
        plan(even, 0, 21, 3, 3, 10, 10, 10);
        plan(even, 0, 22, NONE);
        due("11: no sale was made", even.count(3), 0);
        due("11: no stone was worn", even.count(6), 20);
        BuyersWeights full = Check.marketOf("h01,h01;0");
        for (int sale = 0; sale < 100; sale++) {
            full.buy(0, 1, 0);
        }
        plan(full, 0, 10, 1, 1, 10);
    }

    private static void promise11PlanLimits() {
        BuyersWeights x = Check.marketOf("w05,h91;0");
        due("11: house below", x.plan(-1, 1, 0), UNKNOWN);
        due("11: house beyond", x.plan(2, 1, 0), UNKNOWN);
        due("11: unknown ahead of outside", x.plan(2, 0, 99), UNKNOWN);
        int[][] outside = {{0, 0}, {61, 0}, {-1, 0}, {LOW, 0}, {HIGH, 0}, {1, -1}, {1, 2}, {1, 9}, {1, 13}, {1, LOW},
            {1, HIGH}};
        for (int[] o : outside) {
            due("11: plan(0, " + o[0] + ", " + o[1] + ")", x.plan(0, o[0], o[1]), OUTSIDE);
        }
        due("11: refusals are not done", x.count(11), 0);
        due("11: a widow's measure", x.plan(0, 60, 0), 3);
        due("11: none is done, too", x.plan(1, 58, 0), NONE);
        for (int done = 3; done <= 40; done++) {
            x.plan(0, 1, 0);
            due("11: done", x.count(11), done);
        }
        due("11: 41st", x.plan(0, 1, 0), STATE);
        due("11: outside ahead of state", x.plan(0, 61, 0), OUTSIDE);
        due("11: unknown ahead of state", x.plan(2, 1, 0), UNKNOWN);
        due("11: 40 stay", x.count(11), 40);
        due("11: no market", new BuyersWeights().plan(0, 1, 0), UNKNOWN);
        Check.typed(x, "h01,h01;0");
        x.market();
        due("11: another market does not undo them", x.plan(0, 1, 0), STATE);
    }

    private static void promise12Fair() {
        BuyersWeights x = Check.marketOf("h03,r93,o04,w92;1");
        int[][] want = {{NONE, 0, 0, 0}, {0, NONE, 0, 1}, {0, 0, NONE, 0}, {1, 1, 1, NONE}};
        want[0][3] = 1;
        for (int dealer = 0; dealer < 4; dealer++) {
            for (int buyer = 0; buyer < 4; buyer++) {
                due("12: fair(" + dealer + ", " + buyer + ")", x.fair(dealer, buyer),
                    dealer == buyer ? UNKNOWN : want[dealer][buyer]);
            }
        }
        due("12: dealer below", x.fair(-1, 0), UNKNOWN);
        due("12: dealer beyond", x.fair(4, 0), UNKNOWN);
        due("12: buyer below", x.fair(0, -1), UNKNOWN);
        due("12: buyer beyond", x.fair(0, 4), UNKNOWN);
        due("12: no market", new BuyersWeights().fair(0, 1), UNKNOWN);
        // by the buyer's own stone: a dealer's heavy one makes up for no coin
        due("12: light stone, light coin", Check.marketOf("h01,h01,h92;0").fair(1, 0), 1);
        due("12: heavy stone, heavy coin", Check.marketOf("h01,h03,h94;0").fair(2, 0), 0);
        nothingForCoin();
    }

    private static void nothingForCoin() {
        BuyersWeights x = Check.marketOf("h01,m09,h01;3");
        for (int sale = 0; sale < 5; sale++) {
            x.buy(0, 1, 0);
        }
        due("12: dear", x.fair(1, 0), 0);
        x.hour();
        due("12: nothing from any is fair", x.fair(1, 0), 1);
        due("12: of the other, too", x.fair(2, 0), 1);
        due("12: to one with a heavier stone it is not", x.fair(1, 2), 0);
    }

    private static void promise13Pass() {
        BuyersWeights x = Check.marketOf("h01,h01;0");
        due("13: below", x.pass(-1), UNKNOWN);
        due("13: beyond", x.pass(2), UNKNOWN);
        for (int told = 1; told <= 8; told++) {
            due("13: told", x.pass(told % 2), told);
        }
        due("13: the ninth", x.pass(0), FULL);
        due("13: unknown ahead of full", x.pass(2), UNKNOWN);
        due("13: eight", x.count(7), 8);
        due("13: no market", new BuyersWeights().pass(0), UNKNOWN);
    }

    private static void promise14Lose() {
        BuyersWeights x = new BuyersWeights();
        due("14: below", x.lose(-1), OUTSIDE);
        due("14: beyond", x.lose(21), OUTSIDE);
        due("14: at first 0, without a market", x.lose(20), 0);
        due("14: refused", x.lose(LOW), OUTSIDE);
        due("14: then what was told", x.lose(0), 20);
        due("14: and again", x.lose(5), 0);
        due("14: told", x.count(8), 5);
        Check.typed(x, "h01,h01;0");
        x.market();
        due("14: a market that is read tells nothing of it", x.count(8), 0);
    }

    private static void promise15Clear() {
        BuyersWeights x = Check.marketOf("h01,h01,h01;0");
        due("15: empty", x.clear(), 0);
        x.pass(2);
        x.pass(2);
        x.pass(1);
        x.lose(3);
        due("15: three hands", x.clear(), 3);
        due("15: none", x.count(7), 0);
        due("15: lost nothing", x.count(8), 0);
        due("15: all sets", x.rubbed(0), 8);
        x.pass(0);
        due("15: one hand", x.clear(), 1);
        due("15: all sets again", x.rubbed(0), 8);
        due("15: from the start", x.pass(0), 1);
        due("15: no market", new BuyersWeights().clear(), 0);
    }

    private static void rubbed(BuyersWeights x, int lost, int sets, int least, int all, int watch) {
        x.lose(lost);
        due("16: sets for " + lost, x.rubbed(0), sets);
        due("16: the least for " + lost, x.rubbed(1), least);
        due("16: in all for " + lost, x.rubbed(2), all);
        due("17: watch for " + lost, x.watch(), watch);
    }

    private static void promise16Rubbed() {
        BuyersWeights x = Check.marketOf("h01,h01,h01,h01;0");
        rubbed(x, 0, 16, 0, 0, 0);
        rubbed(x, 1, 0, NONE, NONE, NONE);
        for (int house : new int[] {0, 1, 1, 2, 2, 2, 2}) {
            x.pass(house);
        }
        // 1, 2, 4 times: the last house is free in every set
        rubbed(x, 0, 2, 0, 0, 3);
        rubbed(x, 5, 2, 5, 5, 3);
        rubbed(x, 7, 2, 7, 7, 3);
        rubbed(x, 8, 0, NONE, NONE, NONE);
        x.pass(3);
        // 1, 2, 4, 1 times: {0,1} or {1,3} for 3
        rubbed(x, 3, 2, 3, 2, 0);
        rubbed(x, 8, 1, 15, 15, 0);
        rubbed(x, 6, 2, 6, 4, 0);
        due("16: below", x.rubbed(-1), OUTSIDE);
        due("16: beyond", x.rubbed(3), OUTSIDE);
        BuyersWeights none = new BuyersWeights();
        due("16: no market", none.rubbed(0), STATE);
        due("16: outside ahead of state", none.rubbed(3), OUTSIDE);
        due("16: two houses", Check.marketOf("r01,m01;0").rubbed(0), 4);
    }

    private static void promise17Watch() {
        due("17: no market", new BuyersWeights().watch(), STATE);
        BuyersWeights x = Check.marketOf("h01,h01,h01;0");
        x.pass(0);
        x.pass(1);
        x.pass(2);
        // {0}, {1}, {2}: each leaves two at worst
        rubbed(x, 1, 3, 1, 0, 0);
        rubbed(x, 2, 3, 3, 0, 0);
        x.pass(0);
        // 2, 1, 1 times: {0} or {1,2}
        rubbed(x, 2, 2, 1, 0, 0);
        // {0,1} or {0,2}: house 0 tells nothing
        rubbed(x, 3, 2, 3, 1, 1);
        rubbed(x, 1, 2, 2, 0, 1);
        rubbed(x, 5, 0, NONE, NONE, NONE);
    }

    private static void promise18Markets() {
        BuyersWeights x = Check.marketOf("o24,m93,w05;2");
        long before = x.digest();
        due("18: ounces", x.markets(20, 77, 0), 186);
        due("18: stones", x.markets(20, 77, 1), 31);
        due("18: seed", x.markets(20, 77, 2), 387832273);
        due("18: ounces again", x.markets(20, 77, 0), 186);
        due("18: nothing is changed", x.digest(), before);
        due("18: no sale", x.markets(0, 1, 0), OUTSIDE);
        due("18: too many", x.markets(61, 1, 0), OUTSIDE);
        due("18: seed below", x.markets(1, -1, 0), OUTSIDE);
        due("18: lowest seed", x.markets(1, LOW, 0), OUTSIDE);
        due("18: what below", x.markets(1, 1, -1), OUTSIDE);
        due("18: what beyond", x.markets(1, 1, 3), OUTSIDE);
        BuyersWeights none = new BuyersWeights();
        due("18: no market", none.markets(1, 0, 0), STATE);
        due("18: outside ahead of state", none.markets(61, 0, 0), OUTSIDE);
        due("18: three draws", x.markets(1, HIGH, 2), 646343466);
        due("18: the first seed", x.markets(60, 0, 2), seedAfter(0, 180));
        // two hours on, tilt and stones as they are now
        BuyersWeights y = Check.marketOf("h11,h22;3");
        int odd = y.markets(1, 3, 0);
        y.hour();
        due("18: by the hour", odd - y.markets(1, 3, 0), odd == 0 ? 0 : 6);
        drawsWithoutSale();
    }

    /** With two houses, seeds whose first two draws are alike make no sale, and others one of 12 or 13 ounces. */
    private static void drawsWithoutSale() {
        for (int seed = 0; seed < 20; seed++) {
            BuyersWeights x = Check.marketOf("r11,m22;0");
            int first = seedAfter(seed, 1) / 65536 % 2;
            int second = seedAfter(seed, 2) / 65536 % 2;
            int stone = seedAfter(seed, 3) / 65536 % 2;
            due("18: one sale by " + seed, x.markets(1, seed, 0), first == second ? 0 : 11 + stone);
            int rub = first == second ? 0 : second == 1 ? 2 : 1;
            due("18: stones by " + seed, x.markets(1, seed, 1), 23 - rub);
        }
    }

    private static int seedAfter(int seed, int draws) {
        long now = seed;
        for (int draw = 0; draw < draws; draw++) {
            now = (1103515245L * now + 12345L) & 0x7fffffffL;
        }
        return (int) now;
    }

    private static void promise19Image() {
        BuyersWeights x = new BuyersWeights();
        due("19: no market", x.image(), STATE);
        due("19: none kept", x.restore(), STATE);
        Check.typed(x, "o31,m42;1");
        x.market();
        due("19: hour 1", x.image(), 1);
        x.hour();
        x.hour();
        due("19: hour 3", x.image(), 3);
        x.hour();
        due("19: the latest", x.restore(), 3);
    }

    private static void promise20Restore() {
        BuyersWeights x = Check.marketOf("o31,m42;1");
        x.buy(0, 1, 0);
        x.pass(1);
        x.lose(1);
        long before = x.digest();
        due("20: none was kept", x.restore(), STATE);
        x.image();
        x.buy(0, 1, 0);
        x.buy(1, 0, 1);
        x.hour();
        x.pass(0);
        x.lose(9);
        due("20: restored", x.restore(), 1);
        due("20: all is as it was", x.digest(), before);
        x.clear();
        x.hour();
        due("20: again", x.restore(), 1);
        due("20: all is as it was again", x.digest(), before);
        Check.typed(x, "h");
        x.plan(0, 5, 0);
        x.restore();
        due("20: the page is not of it", x.count(9), 1);
        due("20: nor are plans", x.count(11), 1);
        x.blank();
        Check.typed(x, "o31,m42;1");
        due("20: a page alone is no market", x.restore(), 1);
        x.market();
        due("20: another market, though of the same text", x.restore(), STATE);
        due("20: it changes nothing", x.count(3), 0);
        due("20: nor is one kept", x.image(), 1);
        due("20: now there is", x.restore(), 1);
    }

    private static void promise21Count() {
        BuyersWeights x = Check.marketOf("o31,m42,w23;2");
        x.buy(0, 1, 0);
        x.buy(2, 0, 1);
        x.hour();
        x.buy(2, 1, 2);
        x.pass(0);
        x.pass(2);
        x.lose(13);
        x.plan(0, 1, 0);
        x.plan(0, 60, 0);
        Check.typed(x, "h0?");
        int ounces = 15 + 17 + (12 - 2 + 1);
        int stones = (13 - 3) + 14 + (12 - 2);
        long[] want = {3, 2, 2, 3, ounces, 2 + 1 + 2, stones, 2, 13, 3, 1, 2};
        for (int what = 0; what < want.length; what++) {
            due("21: count(" + what + ")", x.count(what), want[what]);
        }
        due("21: below", x.count(-1), OUTSIDE);
        due("21: beyond", x.count(12), OUTSIDE);
        due("21: lowest", x.count(LOW), OUTSIDE);
        due("21: highest", x.count(HIGH), OUTSIDE);
    }

    private static void promise22Digest() {
        BuyersWeights x = new BuyersWeights();
        due("22: new", x.digest(), folded());
        Check.typed(x, "h0?");
        x.lose(4);
        due("22: letters, no market", x.digest(), folded('h', '0', '?', 0, 0, 0, 0, 0, 0, 0, 0, 4, 3, 0, 0));
        BuyersWeights y = Check.marketOf("o31,m42;2");
        due("22: a market", y.digest(), folded(2, 13, 1, 0, 0, 0, 0, 1, 4, 14, 2, 0, 0, 0, 0, 1,
            4, 0, 0, 0, 2, 2, 1, 0, 0, 0, 27, 0, 0, 0, 1, 0));
        y.lose(1);
        y.letter('w');
        due("22: no sets", y.digest(), folded(2, 13, 1, 0, 0, 0, 0, 1, 4, 14, 2, 0, 0, 0, 0, 1,
            0, -1, -1, -1, 'w', 2, 2, 1, 0, 0, 0, 27, 0, 1, 1, 1, 0));
        due("22: told twice", y.digest(), y.digest());
    }

    private static long folded(long... numbers) {
        long h = 977;
        for (long number : numbers.length == 0 ? new long[12] : numbers) {
            h = 31 * h + number;
        }
        return h;
    }
}
