import java.math.BigInteger;

/** Promises 13 to 18, the LEDGER and MARKETS, sentence by sentence: a method for each that names a boundary. */
public final class LedgerBoundariesTest {
    private static final int NONE = BuyersWeights.NONE, UNKNOWN = BuyersWeights.UNKNOWN,
        OUTSIDE = BuyersWeights.OUTSIDE, STATE = BuyersWeights.STATE, FULL = BuyersWeights.FULL;
    private static final String FOUR = "h01,h01,h01,h01;0";
    private static final Check CHECK = new Check();

    public static void main(String[] args) {
        passKnowsTheLastHouse();
        passIsFullAt8();
        passRoomComesBack();
        loseTakes0To20();
        loseTellsWhatWasTold();
        loseNeedsNoMarket();
        clearOfEmptyAndFull();
        emptyLedgerFitsAllSets();
        oneHouseAsOftenAsItWasTold();
        fullLedger();
        lostMoreThanCanBe();
        kindsDoNotRubInTheLedger();
        rubbedTells0To2();
        rubbedNeedsAMarket();
        rubbedSetsAtTheSides();
        watchOfNoneAndOfOne();
        watchTakesTheLeast();
        watchTheLastHouse();
        watchNeedsAMarket();
        askingTheLedgerChangesNothing();
        marketsTake1To60Sales();
        marketsTakeSeedsFrom0();
        marketsTell0To2();
        marketsNeedAMarket();
        drawsWrapAround();
        hourGoesByWithoutASale();
        drawnSaleIsASale();
        stonesOfMarketsAre1AtLeast();
        ouncesOfMarketsAre0AtLeast();
        marketsKnowNoFull();
        marketsChangeNothing();
        CHECK.end("LedgerBoundariesTest");
    }

    private static void due(String call, long got, long want) {
        CHECK.due(call, got, want);
    }

    private static BuyersWeights told(String market, int lost, int... hands) {
        BuyersWeights x = Check.marketOf(market);
        for (int hand : hands) {
            x.pass(hand);
        }
        x.lose(lost);
        return x;
    }

    private static void sets(String name, BuyersWeights x, int many, int least, int inAll, int watch) {
        due("16: " + name + ": how many", x.rubbed(0), many);
        due("16: " + name + ": the least", x.rubbed(1), least);
        due("16: " + name + ": in all", x.rubbed(2), inAll);
        due("17: " + name + ": watch", x.watch(), watch);
    }

    private static void noSets(String name, BuyersWeights x) {
        sets(name, x, 0, NONE, NONE, NONE);
    }

    // ---- 13: how many are told. UNKNOWN; FULL. (8 at most, a HOUSE as often as it was told)

    private static void passKnowsTheLastHouse() {
        for (int houses = 2; houses <= 4; houses++) {
            BuyersWeights x = Check.marketOf("h01,h01,h01,h01".substring(0, 4 * houses - 1) + ";0");
            due("13: below", x.pass(-1), UNKNOWN);
            due("13: beyond", x.pass(houses), UNKNOWN);
            due("13: nothing was told", x.count(7), 0);
            due("13: the first", x.pass(0), 1);
            due("13: the last", x.pass(houses - 1), 2);
        }
        due("13: no market", new BuyersWeights().pass(0), UNKNOWN);
    }

    private static void passIsFullAt8() {
        for (int house = 0; house < 4; house++) {
            BuyersWeights x = Check.marketOf(FOUR);
            for (int told = 1; told <= 8; told++) {
                due("13: " + house + ", time " + told, x.pass(house), told);
            }
            due("13: time 9", x.pass(house), FULL);
            due("13: another house", x.pass(3 - house), FULL);
            due("13: the house is looked at first", x.pass(4), UNKNOWN);
            due("13: on the other side, too", x.pass(-1), UNKNOWN);
            due("13: 8 stay", x.count(7), 8);
            x.lose(8);
            due("13: all of them are of that house", x.rubbed(2), 1 << house);
        }
    }

    private static void passRoomComesBack() {
        BuyersWeights x = told(FOUR, 0, 0, 1, 2, 3, 0, 1, 2);
        x.image();
        due("13: the 8th", x.pass(3), 8);
        due("13: full", x.pass(3), FULL);
        x.restore();
        due("13: the 8th behind restore()", x.pass(3), 8);
        due("13: full again", x.pass(3), FULL);
        x.clear();
        due("13: the 1st behind clear()", x.pass(3), 1);
        Check.typed(x, FOUR);
        x.market();
        due("13: the 1st behind market()", x.pass(3), 1);
    }

    // ---- 14: how much was told. OUTSIDE: ounces (0 to 20). (at first 0)

    private static void loseTakes0To20() {
        BuyersWeights x = Check.marketOf(FOUR);
        for (int ounces = 0; ounces <= 20; ounces++) {
            due("14: lose(" + ounces + ")", x.lose(ounces), ounces == 0 ? 0 : ounces - 1);
            due("14: told", x.count(8), ounces);
        }
        due("14: below", x.lose(-1), OUTSIDE);
        due("14: beyond", x.lose(21), OUTSIDE);
        due("14: 20 stay", x.count(8), 20);
    }

    private static void loseTellsWhatWasTold() {
        BuyersWeights x = Check.marketOf(FOUR);
        due("14: at first 0", x.lose(20), 0);
        due("14: the most", x.lose(20), 20);
        due("14: down to the least", x.lose(0), 20);
        due("14: then 0", x.lose(7), 0);
        due("14: refused", x.lose(21), OUTSIDE);
        due("14: as if it had not been", x.lose(1), 7);
    }

    private static void loseNeedsNoMarket() {
        BuyersWeights x = new BuyersWeights();
        due("14: no market", x.lose(20), 0);
        due("14: told", x.count(8), 20);
        due("14: refused", x.lose(21), OUTSIDE);
        due("15: clear() needs none either", x.clear(), 0);
        due("15: it lost nothing", x.count(8), 0);
    }

    // ---- 15: The LEDGER is empty, it lost nothing: how many hands were told.

    private static void clearOfEmptyAndFull() {
        BuyersWeights x = Check.marketOf(FOUR);
        due("15: of an empty one", x.clear(), 0);
        x.lose(20);
        due("15: no hands, but a loss", x.clear(), 0);
        due("15: it lost nothing", x.lose(3), 0);
        for (int hand = 0; hand < 8; hand++) {
            x.pass(hand % 4);
        }
        due("15: of a full one", x.clear(), 8);
        CHECK.alike("15: as if nothing had been told", x, Check.marketOf(FOUR));
        BuyersWeights lively = Scene.LIVELY.made.get();
        due("15: hands", lively.clear(), 3);
        due("15: sales stay", lively.count(3), 3);
        due("15: letters stay", lively.count(9), 8);
        due("15: the image stays", lively.restore(), 1);
        due("15: with its hands", lively.count(7), 1);
    }

    // ---- RUBBED: which sets of HOUSES (as bits, of all, those who rub) make it so: how many; the least; who is in all

    private static void emptyLedgerFitsAllSets() {
        sets("2 houses, nothing told", Check.marketOf("h01,h01;0"), 4, 0, 0, 0);
        sets("3 houses, nothing told", Check.marketOf("h01,h01,h01;0"), 8, 0, 0, 0);
        sets("4 houses, nothing told", Check.marketOf(FOUR), 16, 0, 0, 0);
        noSets("lost 1 by no hand", told(FOUR, 1));
        noSets("lost 20 by no hand", told(FOUR, 20));
    }

    private static void oneHouseAsOftenAsItWasTold() {
        int[] eight = {3, 3, 3, 3, 3, 3, 3, 3};
        sets("8 times, lost 8", told(FOUR, 8, eight), 8, 8, 8, 0);
        sets("8 times, lost 0", told(FOUR, 0, eight), 8, 0, 0, 0);
        noSets("8 times, lost 7", told(FOUR, 7, eight));
        noSets("8 times, lost 9", told(FOUR, 9, eight));
        noSets("8 times, lost 1", told(FOUR, 1, eight));
    }

    private static void fullLedger() {
        int[] all = {0, 1, 2, 3, 0, 1, 2, 3};
        sets("all twice, lost 8", told(FOUR, 8, all), 1, 15, 15, 0);
        sets("all twice, lost 0", told(FOUR, 0, all), 1, 0, 0, 0);
        sets("all twice, lost 2", told(FOUR, 2, all), 4, 1, 0, 0);
        sets("all twice, lost 6", told(FOUR, 6, all), 4, 7, 0, 0);
        noSets("all twice, lost 7", told(FOUR, 7, all));
    }

    private static void lostMoreThanCanBe() {
        int[] all = {0, 1, 2, 3, 0, 1, 2, 3};
        noSets("all twice, lost 9", told(FOUR, 9, all));
        noSets("all twice, lost 20", told(FOUR, 20, all));
        noSets("one hand, lost 2", told(FOUR, 2, 1));
        sets("one hand, lost 1", told(FOUR, 1, 1), 8, 2, 2, 0);
    }

    private static void kindsDoNotRubInTheLedger() {
        sets("a miller twice, lost 2", told("m01,h01;0", 2, 0, 0), 2, 1, 1, 1);
        noSets("a miller once, lost 2", told("m01,h01;0", 2, 0));
        sets("a house rubs as well", told("h01,h01;0", 1, 1), 2, 2, 2, 0);
        sets("a rubber may not rub", told("r01,h01;0", 0, 0), 2, 0, 0, 1);
    }

    // ---- 16: 0 how many sets, 1 the least, 2 who is in all, as bits (NONE: there are none). OUTSIDE; STATE: no MARKET.

    private static void rubbedTells0To2() {
        BuyersWeights x = Check.marketOf(FOUR);
        due("16: what below", x.rubbed(-1), OUTSIDE);
        due("16: what beyond", x.rubbed(3), OUTSIDE);
        due("16: how many may be 0, which is not NONE", told(FOUR, 1).rubbed(0), 0);
        due("16: nobody in all is not NONE", told(FOUR, 1, 0, 1).rubbed(2), 0);
    }

    private static void rubbedNeedsAMarket() {
        BuyersWeights x = Check.typed(new BuyersWeights(), "h01,h01;0");
        for (int what = 0; what <= 2; what++) {
            due("16: no market", x.rubbed(what), STATE);
        }
        due("16: what is looked at first", x.rubbed(3), OUTSIDE);
        due("16: on the other side, too", x.rubbed(-1), OUTSIDE);
        x.market();
        due("16: with one", x.rubbed(0), 4);
    }

    private static void rubbedSetsAtTheSides() {
        // 1, 2, 4 and 1 times: 5 is the 1 of either side and 4
        sets("the first and the last are alike", told(FOUR, 5, 0, 1, 1, 2, 2, 2, 2, 3), 2, 5, 4, 0);
        sets("only the last", told("h01,h01,h01;0", 2, 2, 2, 1), 2, 4, 4, 0);
        sets("only the first", told("h01,h01,h01;0", 2, 0, 0, 1), 2, 1, 1, 2);
    }

    // ---- WATCH: .. fewest of these sets were left at worst: of like ones the least; none, if there are none.
    // ---- 17: NONE. STATE: no MARKET.

    private static void watchOfNoneAndOfOne() {
        due("17: no set", told(FOUR, 9, 0).watch(), NONE);
        due("17: one set, all are like", told("h01,h01;0", 2, 0, 1).watch(), 0);
        due("17: one set, nobody rubs", told("h01,h01;0", 0, 0, 1).watch(), 0);
    }

    private static void watchTakesTheLeast() {
        due("17: {0}, {1}, {2}, {3}", told(FOUR, 1, 0, 1, 2, 3).watch(), 0);
        due("17: {0,1}, {0,2}", told("h01,h01,h01;0", 3, 0, 0, 1, 2).watch(), 1);
        due("17: {1}, {2} of 0 twice", told("h01,h01,h01;0", 1, 0, 0, 1, 2).watch(), 1);
        // 3, 1, 1 and 1 times, lost 3: {0} or {1,2,3}
        due("17: {0}, {1,2,3}", told(FOUR, 3, 0, 0, 0, 1, 2, 3).watch(), 0);
        // 3, 1, 1 and 2 times, lost 3: {0}, {1,3}, {2,3}
        due("17: {0}, {1,3}, {2,3}", told(FOUR, 3, 0, 0, 0, 1, 2, 3, 3).watch(), 0);
        // 1, 1, 1 and 2 times, lost 2: {0,1}, {0,2}, {1,2}, {3}: 0 to 2 halve them, 3 leaves three
        due("17: halves ahead of one of four", told(FOUR, 2, 0, 1, 2, 3, 3).watch(), 0);
        // 2, 1, 1 and 1 times, lost 2: {0}, {1,2}, {1,3}, {2,3}: 0 leaves three, 1 halves them
        due("17: not the first, if another halves", told(FOUR, 2, 0, 0, 1, 2, 3).watch(), 1);
    }

    private static void watchTheLastHouse() {
        due("17: only the last is open, of 4", told(FOUR, 3, 0, 1, 2).watch(), 3);
        due("17: only the last is open, of 3", told("h01,h01,h01;0", 2, 0, 1).watch(), 2);
        due("17: only the last is open, of 2", told("h01,h01;0", 0, 0).watch(), 1);
    }

    private static void watchNeedsAMarket() {
        BuyersWeights x = new BuyersWeights();
        x.lose(9);
        due("17: no market, even if nothing fits", x.watch(), STATE);
    }

    private static void askingTheLedgerChangesNothing() {
        BuyersWeights x = Scene.LIVELY.made.get();
        for (int what = 0; what <= 2; what++) {
            x.rubbed(what);
        }
        x.watch();
        CHECK.alike("16, 17: asked only", x, Scene.LIVELY.made.get());
    }

    // ---- MARKETS by a SEED, as they would be. 18: OUTSIDE: sales (1 to 60), seed (0 at least), what; STATE: no MARKET.

    /** The seed after so many draws, by the document's words on numbers without an end. */
    private static int seedAfter(int seed, int draws) {
        BigInteger now = BigInteger.valueOf(seed);
        for (int draw = 0; draw < draws; draw++) {
            now = now.multiply(BigInteger.valueOf(1103515245)).add(BigInteger.valueOf(12345));
            now = now.mod(BigInteger.TWO.pow(31));
        }
        return now.intValueExact();
    }

    private static int drawn(int seed, int draws, int of) {
        return seedAfter(seed, draws) / 65536 % of;
    }

    private static void marketsTake1To60Sales() {
        BuyersWeights x = Check.marketOf("h01,h12;1");
        due("18: 0 sales", x.markets(0, 1, 0), OUTSIDE);
        due("18: 61 sales", x.markets(61, 1, 0), OUTSIDE);
        due("18: 1 sale", x.markets(1, 1, 2), seedAfter(1, 3));
        due("18: 60 sales", x.markets(60, 1, 2), seedAfter(1, 180));
    }

    private static void marketsTakeSeedsFrom0() {
        BuyersWeights x = Check.marketOf("h01,h12;1");
        due("18: seed -1", x.markets(1, -1, 2), OUTSIDE);
        due("18: the lowest", x.markets(1, Integer.MIN_VALUE, 2), OUTSIDE);
        due("18: seed 0", x.markets(1, 0, 2), seedAfter(0, 3));
        due("18: the highest", x.markets(1, Integer.MAX_VALUE, 2), seedAfter(Integer.MAX_VALUE, 3));
    }

    private static void marketsTell0To2() {
        BuyersWeights x = Check.marketOf("h01,h12;1");
        due("18: what below", x.markets(1, 1, -1), OUTSIDE);
        due("18: what beyond", x.markets(1, 1, 3), OUTSIDE);
        due("18: stones that no one rubs", x.markets(60, 1, 1), 21);
    }

    private static void marketsNeedAMarket() {
        BuyersWeights x = Check.typed(new BuyersWeights(), "h01,h12;1");
        due("18: no market", x.markets(1, 0, 0), STATE);
        due("18: sales are looked at first", x.markets(0, 0, 0), OUTSIDE);
        due("18: the seed, too", x.markets(1, -1, 0), OUTSIDE);
        due("18: what, too", x.markets(1, 0, 3), OUTSIDE);
    }

    private static void drawsWrapAround() {
        BuyersWeights x = Check.marketOf("h01,h12,h23;0");
        for (int shift = 0; shift < 31; shift++) {
            int seed = Integer.MAX_VALUE >> shift;
            due("18: seed behind " + seed, x.markets(1, seed, 2), seedAfter(seed, 3));
            int stone = drawn(seed, 3, 3);
            boolean sale = drawn(seed, 1, 3) != drawn(seed, 2, 3);
            due("18: ounces by " + seed, x.markets(1, seed, 0), sale ? 10 + stone : 0);
        }
    }

    /** Of itself as the dealer: none; behind each an HOUR goes by, so the next one is weighed in an even hour. */
    private static void hourGoesByWithoutASale() {
        int seen = 0;
        for (int seed = 0; seed < 40; seed++) {
            boolean first = drawn(seed, 1, 2) != drawn(seed, 2, 2);
            boolean second = drawn(seed, 4, 2) != drawn(seed, 5, 2);
            BuyersWeights x = Check.marketOf("h01,h01;3");
            due("18: two by " + seed, x.markets(2, seed, 0), (first ? 13 : 0) + (second ? 7 : 0));
            x.hour();
            due("18: two by " + seed + ", from hour 2", x.markets(2, seed, 0), (first ? 7 : 0) + (second ? 13 : 0));
            seen |= 1 << ((first ? 2 : 0) + (second ? 1 : 0));
        }
        due("18: all four cases were seen", seen, 15);
    }

    /** One sale by a seed is what buy() of the drawn houses is, for each kind as a buyer, a dealer, a stone's house. */
    private static void drawnSaleIsASale() {
        for (String market : new String[] {"w01,o12,r23,m34;2", "m91,w82,h73,o64;1", "o11,r11;3", "w51,m01,o02;0"}) {
            int houses = (market.length() - 1) / 4;
            for (int seed = 0; seed < 80; seed++) {
                BuyersWeights x = Check.marketOf(market);
                int ounces = x.markets(1, seed, 0);
                int stones = x.markets(1, seed, 1);
                int got = x.buy(drawn(seed, 1, houses), drawn(seed, 2, houses), drawn(seed, 3, houses));
                due("18: ounces in " + market + " by " + seed, ounces, got == UNKNOWN ? 0 : got);
                due("18: stones in " + market + " by " + seed, stones, x.count(6));
            }
        }
    }

    private static void stonesOfMarketsAre1AtLeast() {
        BuyersWeights x = Check.marketOf("m01,m01;0");
        for (int seed = 0; seed < 10; seed++) {
            due("18: all rubbed by " + seed, x.markets(60, seed, 1), 2);
        }
        BuyersWeights four = Check.marketOf("m91,m91,m91,m91;0");
        due("18: one sale rubs one stone", 76 - four.markets(1, 3, 1), drawn(3, 1, 4) == drawn(3, 2, 4) ? 0 : 2);
    }

    private static void ouncesOfMarketsAre0AtLeast() {
        BuyersWeights x = Check.marketOf("m01,m01;3");
        Check.buyTimes(x, 5, 0, 1, 0);
        Check.buyTimes(x, 5, 0, 1, 1);
        x.hour();
        for (int seed = 0; seed < 40; seed++) {
            boolean second = drawn(seed, 4, 2) != drawn(seed, 5, 2);
            due("18: nothing, then 4, by " + seed, x.markets(2, seed, 0), second ? 4 : 0);
        }
    }

    private static void marketsKnowNoFull() {
        BuyersWeights x = Check.marketOf("h01,h12;1");
        int ounces = x.markets(60, 7, 0);
        Check.buyTimes(x, 100, 0, 1, 0);
        due("18: what would be, after 100 sales", x.markets(60, 7, 0), ounces);
    }

    private static void marketsChangeNothing() {
        BuyersWeights x = Scene.LIVELY.made.get();
        x.markets(60, 5, 0);
        x.markets(60, 5, 1);
        CHECK.alike("18: they only would be", x, Scene.LIVELY.made.get());
    }
}
