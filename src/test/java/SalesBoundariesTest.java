/** Promises 6 to 10 and what a SALE is, sentence by sentence: a method for each that names a boundary. */
public final class SalesBoundariesTest {
    private static final int NONE = BuyersWeights.NONE, UNKNOWN = BuyersWeights.UNKNOWN,
        OUTSIDE = BuyersWeights.OUTSIDE, STATE = BuyersWeights.STATE, FULL = BuyersWeights.FULL;
    private static final String KINDS = "hrowm";
    private static final Check CHECK = new Check();

    public static void main(String[] args) {
        aboutKnowsTheLastHouse();
        aboutTells0To6();
        aboutOfTheFullest();
        asKnowsTheLastHouse();
        asOfEachKind();
        measureByOddAndEvenHours();
        measureIs0AtLeast();
        measureOfAWidowIs1More();
        measureByAnyStone();
        measureRefusesItself();
        measureChangesNothing();
        buyWearsToOneAtLeast();
        buyRefusesItself();
        buyOfNothingIsASale();
        buyIsFullAt100();
        buyIsNotFullAnyMore();
        measureKnowsNoFull();
        hourNeedsAMarket();
        hourGoesOn();
        CHECK.end("SalesBoundariesTest");
    }

    private static void due(String call, long got, long want) {
        CHECK.due(call, got, want);
    }

    private static BuyersWeights marketOfHouses(int houses) {
        return Check.marketOf("h01,h12,h23,h34".substring(0, 4 * houses - 1) + ";0");
    }

    // ---- 6: UNKNOWN; OUTSIDE. (what = 0 .. 6)

    private static void aboutKnowsTheLastHouse() {
        for (int houses = 2; houses <= 4; houses++) {
            BuyersWeights x = marketOfHouses(houses);
            due("6: below the first of " + houses, x.about(-1, 1), UNKNOWN);
            due("6: the first of " + houses, x.about(0, 1), 10);
            due("6: the last of " + houses, x.about(houses - 1, 1), 9 + houses);
            due("6: beyond the last of " + houses, x.about(houses, 1), UNKNOWN);
        }
        due("6: no market", new BuyersWeights().about(0, 0), UNKNOWN);
        due("6: no market, no such what", new BuyersWeights().about(0, 7), UNKNOWN);
    }

    private static void aboutTells0To6() {
        BuyersWeights x = Check.marketOf("m93,w01;3");
        x.buy(1, 0, 0);
        int[] miller = {4, 17, 3, 0, 0, 1, 1};
        int[] widow = {3, 10, 1, 23, 3, 0, 0};
        for (int what = 0; what <= 6; what++) {
            due("6: about(0, " + what + ")", x.about(0, what), miller[what]);
            due("6: about(1, " + what + ")", x.about(1, what), widow[what]);
        }
        due("6: what below", x.about(0, -1), OUTSIDE);
        due("6: what beyond", x.about(0, 7), OUTSIDE);
        due("6: the house is looked at first", x.about(2, 7), UNKNOWN);
    }

    private static void aboutOfTheFullest() {
        BuyersWeights x = Check.marketOf("w01,h99;3");
        Check.buyTimes(x, 100, 0, 1, 1);
        due("6: got", x.about(0, 3), 100 * (19 + 3 + 1));
        due("6: paid", x.about(0, 4), 100 * 9);
        due("6: a dealer", x.about(1, 5), 100);
        due("6: its stone was used", x.about(1, 6), 100);
        due("6: a house's stone is not worn by a house", x.about(1, 1), 19);
    }

    // ---- 7: NONE: it is none such. UNKNOWN; OUTSIDE.

    private static void asKnowsTheLastHouse() {
        for (int houses = 2; houses <= 4; houses++) {
            BuyersWeights x = marketOfHouses(houses);
            due("7: below the first of " + houses, x.as(-1, 0), UNKNOWN);
            due("7: the first of " + houses, x.as(0, 0), 0);
            due("7: the last of " + houses, x.as(houses - 1, 0), houses - 1);
            due("7: beyond the last of " + houses, x.as(houses, 0), UNKNOWN);
            due("7: kind below", x.as(0, -1), OUTSIDE);
            due("7: kind beyond", x.as(0, 5), OUTSIDE);
            due("7: the house is looked at first", x.as(houses, 5), UNKNOWN);
            due("7: on the other side, too", x.as(-1, -1), UNKNOWN);
        }
    }

    private static void asOfEachKind() {
        String[] are = {"hrowm", "rm", "o", "w", "m"};
        for (char own : KINDS.toCharArray()) {
            BuyersWeights x = Check.marketOf(own + "01,h01," + own + "01;0");
            for (int kind = 0; kind < 5; kind++) {
                boolean is = are[kind].indexOf(own) >= 0;
                due("7: first " + own + " as " + kind, x.as(0, kind), is ? 0 : NONE);
                due("7: last " + own + " as " + kind, x.as(2, kind), is ? 2 : NONE);
            }
        }
    }

    // ---- A SALE: .. TILT more, if the number of the HOUR is odd, TILT less, if it is even; a WIDOW 1 more; 0 at least.

    private static void measureByOddAndEvenHours() {
        for (int tilt = 0; tilt <= 3; tilt++) {
            BuyersWeights x = Check.marketOf("h01,h51;" + tilt);
            for (int hour = 1; hour <= 6; hour++) {
                int want = hour % 2 == 1 ? 15 + tilt : 15 - tilt;
                due("8: tilt " + tilt + ", hour " + hour, x.measure(0, 1, 1), want);
                x.hour();
            }
        }
    }

    /** Stone 2 is brought down to the lightest, 1, in an even hour. */
    private static BuyersWeights lightStone(int tilt) {
        BuyersWeights x = Check.marketOf("w01,m01,h01;" + tilt);
        Check.buyTimes(x, 5, 0, 1, 2);
        x.hour();
        return x;
    }

    private static void measureIs0AtLeast() {
        int[] want = {1, 0, 0, 0};
        for (int tilt = 0; tilt <= 3; tilt++) {
            BuyersWeights x = lightStone(tilt);
            due("8: 1 less " + tilt, x.measure(1, 0, 2), want[tilt]);
            due("9: sold so, too", x.buy(1, 0, 2), want[tilt]);
            due("9: got so, too", x.about(1, 3), want[tilt]);
        }
    }

    private static void measureOfAWidowIs1More() {
        int[] want = {2, 1, 0, 0};
        for (int tilt = 0; tilt <= 3; tilt++) {
            BuyersWeights x = lightStone(tilt);
            due("8: a widow, 1 less " + tilt, x.measure(0, 1, 2), want[tilt]);
            x.hour();
            due("8: a widow, 1 and " + tilt, x.measure(0, 1, 2), 1 + tilt + 1);
            due("8: a widow deals, no more", x.measure(1, 0, 2), 1 + tilt);
            due("8: a widow's stone is no more", x.measure(1, 2, 0), 10 + tilt);
        }
    }

    private static void measureByAnyStone() {
        BuyersWeights x = Check.marketOf("h11,h31,h51,h71;0");
        due("8: the buyer's own", x.measure(0, 3, 0), 11);
        due("8: another one's", x.measure(0, 3, 1), 13);
        due("8: the dealer's", x.measure(0, 3, 3), 17);
    }

    private static void refusesItself(String promise, BuyersWeights x, int houses, boolean sale) {
        for (int buyer = -1; buyer <= houses; buyer++) {
            for (int stone = -1; stone <= houses; stone++) {
                int got = sale ? x.buy(buyer, buyer, stone) : x.measure(buyer, buyer, stone);
                due(promise + ": " + buyer + " of itself by " + stone, got, UNKNOWN);
            }
        }
    }

    // ---- 8: UNKNOWN: buyer, dealer, stone, or the buyer is the dealer.

    private static void measureRefusesItself() {
        for (int houses = 2; houses <= 4; houses++) {
            BuyersWeights x = marketOfHouses(houses);
            refusesItself("8", x, houses, false);
            int last = houses - 1;
            due("8: the last ones", x.measure(last, last - 1, last), 10 + last);
            due("8: buyer below", x.measure(-1, 0, 0), UNKNOWN);
            due("8: buyer beyond", x.measure(houses, 0, 0), UNKNOWN);
            due("8: dealer below", x.measure(0, -1, 0), UNKNOWN);
            due("8: dealer beyond", x.measure(0, houses, 0), UNKNOWN);
            due("8: stone below", x.measure(0, 1, -1), UNKNOWN);
            due("8: stone beyond", x.measure(0, 1, houses), UNKNOWN);
        }
    }

    private static void measureChangesNothing() {
        BuyersWeights x = Scene.LIVELY.made.get();
        x.measure(2, 1, 0);
        x.measure(0, 1, 0);
        CHECK.alike("8: it only would be", x, Scene.LIVELY.made.get());
    }

    // ---- Then the STONE weighs less: by 1, if its HOUSE is HONEST; by 1 besides, if the dealer is a RUBBER, by 2
    // ---- besides, if he is a MILLER (1 at least).

    private static void buyWearsToOneAtLeast() {
        for (char buyer : KINDS.toCharArray()) {
            for (char dealer : KINDS.toCharArray()) {
                int rub = dealer == 'm' ? 2 : dealer == 'r' ? 1 : 0;
                wearsBy(buyer, dealer, 0, rub + (buyer == 'o' ? 1 : 0));
                wearsBy(buyer, dealer, 1, rub + (dealer == 'o' ? 1 : 0));
                wearsBy(buyer, dealer, 2, rub + 1);
            }
        }
    }

    private static void wearsBy(char buyer, char dealer, int stone, int wear) {
        BuyersWeights x = Check.marketOf(buyer + "01," + dealer + "01,o01;0");
        int weight = 10;
        for (int sale = 0; sale < 12; sale++) {
            String name = "9: " + buyer + " of " + dealer + " by " + stone + ", sale " + sale;
            due(name, x.buy(0, 1, stone), weight + (buyer == 'w' ? 1 : 0));
            weight = weight - wear < 1 ? 1 : weight - wear;
            due(name + ", the stone then", x.about(stone, 1), weight);
            due(name + ", all stones then", x.count(6), 20 + weight);
        }
    }

    // ---- 9: UNKNOWN: buyer, dealer, stone, or the buyer is the dealer; FULL: there were 100.

    private static void buyRefusesItself() {
        for (int houses = 2; houses <= 4; houses++) {
            BuyersWeights x = marketOfHouses(houses);
            refusesItself("9", x, houses, true);
            due("9: buyer below", x.buy(-1, 0, 0), UNKNOWN);
            due("9: buyer beyond", x.buy(houses, 0, 0), UNKNOWN);
            due("9: dealer below", x.buy(0, -1, 0), UNKNOWN);
            due("9: dealer beyond", x.buy(0, houses, 0), UNKNOWN);
            due("9: stone below", x.buy(0, 1, -1), UNKNOWN);
            due("9: stone beyond", x.buy(0, 1, houses), UNKNOWN);
            due("9: none of them was a sale", x.count(3), 0);
            int last = houses - 1;
            due("9: the last ones", x.buy(last, last - 1, last), 10 + last);
        }
    }

    private static void buyOfNothingIsASale() {
        BuyersWeights x = lightStone(3);
        due("9: nothing is got", x.buy(1, 0, 2), 0);
        due("9: yet it is paid", x.about(1, 4), 1);
        due("9: yet he was a dealer", x.about(0, 5), 1);
        due("9: yet the stone was used", x.about(2, 6), 6);
        due("9: yet it is a sale", x.count(3), 6);
    }

    private static void buyIsFullAt100() {
        BuyersWeights x = Check.marketOf("h01,h02;0");
        for (int sale = 1; sale <= 100; sale++) {
            due("9: sale " + sale, x.buy(sale % 2, 1 - sale % 2, 0), 10);
            due("9: sales told", x.count(3), sale);
        }
        due("9: sale 101", x.buy(0, 1, 0), FULL);
        due("9: numbers are looked at first", x.buy(0, 0, 0), UNKNOWN);
        due("9: stones, too", x.buy(0, 1, 2), UNKNOWN);
        due("9: 100 stay", x.count(3), 100);
        due("9: got stays", x.count(4), 1000);
        due("9: paid stays", x.count(5), 50 + 100);
    }

    private static void buyIsNotFullAnyMore() {
        BuyersWeights x = Check.marketOf("h01,h02;0");
        Check.buyTimes(x, 99, 0, 1, 0);
        x.image();
        due("9: the 100th", x.buy(0, 1, 0), 10);
        due("9: full", x.buy(0, 1, 0), FULL);
        x.restore();
        due("9: the 100th behind restore()", x.buy(0, 1, 0), 10);
        due("9: full behind it", x.buy(0, 1, 0), FULL);
        x.image();
        x.restore();
        due("9: an image of a full one is full", x.buy(0, 1, 0), FULL);
        Check.typed(x, "h01,h02;0");
        x.market();
        due("9: another market", x.buy(0, 1, 0), 10);
    }

    private static void measureKnowsNoFull() {
        due("8: after 100 sales", Scene.FULL.made.get().measure(3, 0, 3), 11 - 3 + 1);
    }

    // ---- 10: An HOUR goes by: the number of the HOUR. STATE: no MARKET.

    private static void hourNeedsAMarket() {
        BuyersWeights x = Check.typed(new BuyersWeights(), "h01,h01;0");
        due("10: no market", x.hour(), STATE);
        due("10: no hour", x.count(2), 0);
        x.market();
        due("10: the first to go by", x.hour(), 2);
        Check.typed(x, "h01,h01;0");
        x.market();
        due("10: another market, from hour 1", x.hour(), 2);
    }

    private static void hourGoesOn() {
        BuyersWeights x = Check.marketOf("h01,h01;3");
        for (int hour = 2; hour <= 490; hour++) {
            due("10: hour", x.hour(), hour);
        }
        due("10: told", x.count(2), 490);
        due("10: an even one", x.measure(0, 1, 0), 7);
        x.buy(0, 1, 0);
        due("10: a sale takes no hour", x.count(2), 490);
    }
}
