/** Promises 11 and 12, PLAN and FAIR, sentence by sentence: a method for each that names a boundary. */
public final class PlanBoundariesTest {
    private static final int NONE = BuyersWeights.NONE, UNKNOWN = BuyersWeights.UNKNOWN,
        OUTSIDE = BuyersWeights.OUTSIDE, STATE = BuyersWeights.STATE, FULL = BuyersWeights.FULL;
    private static final Check CHECK = new Check();

    public static void main(String[] args) {
        planFor1To60Ounces();
        planBy1To3Sales();
        planGetsAsManyOrMore();
        planIsInThisHour();
        planOfNothingIsNone();
        planWearsAsItGoes();
        planWearsToOneAtLeast();
        planPaysLeastFirst();
        planTakesTheFewestSalesThen();
        planTakesTheFirstByNumbersThen();
        planIsOfAnotherDealer();
        planOfAWidow();
        planTells0And1And10To12();
        planKnowsTheLastHouse();
        planIsDone40Times();
        planRefusedIsNotDone();
        planCountIsNotUndone();
        planChangesOnlyItsCount();
        planKnowsNoFull();
        fairIsAtLeastAsMany();
        fairLooksAtOtherDealersOnly();
        fairOfTwoHouses();
        fairForNothing();
        fairForAWidowsOneMore();
        fairIsByTheBuyersStone();
        fairRefusesTheSame();
        fairChangesNothing();
        CHECK.end("PlanBoundariesTest");
    }

    private static void due(String call, long got, long want) {
        CHECK.due(call, got, want);
    }

    /** How much is paid, then the sales; nothing: there is no plan. */
    private static void plan(String name, BuyersWeights x, int house, int ounces, int... want) {
        boolean none = want.length == 0;
        String call = name + ": plan(" + house + ", " + ounces + ", ";
        due(call + "0)", x.plan(house, ounces, 0), none ? NONE : want[0]);
        due(call + "1)", x.plan(house, ounces, 1), none ? NONE : want.length - 1);
        for (int sale = 1; sale <= 3; sale++) {
            due(call + (9 + sale) + ")", x.plan(house, ounces, 9 + sale), sale < want.length ? want[sale] : NONE);
        }
    }

    // ---- PLAN for a HOUSE and so many OUNCES (1 to 60): by 1 to 3 SALES of its own, one behind the other, in this
    // ---- HOUR, it gets as many, or more, in all

    private static void planFor1To60Ounces() {
        BuyersWeights x = Check.marketOf("h01,h93;3");
        due("11: 0 ounces", x.plan(0, 0, 0), OUTSIDE);
        due("11: 61 ounces", x.plan(0, 61, 0), OUTSIDE);
        due("11: none was done", x.count(11), 0);
        plan("11: the least", x, 0, 1, 3, 10);
        plan("11: the most", x, 0, 60, 9, 11, 11, 11);
    }

    private static void planBy1To3Sales() {
        BuyersWeights x = Check.marketOf("h31,h51;0");
        plan("11: by 1", x, 0, 15, 1, 11);
        plan("11: by 2", x, 0, 16, 2, 10, 10);
        plan("11: still by 2", x, 0, 30, 2, 11, 11);
        plan("11: by 3", x, 0, 31, 3, 10, 10, 10);
        plan("11: still by 3", x, 0, 45, 3, 11, 11, 11);
        plan("11: not by 4", x, 0, 46);
    }

    private static void planGetsAsManyOrMore() {
        BuyersWeights x = Check.marketOf("h31,h51;0");
        plan("11: more", x, 0, 12, 1, 10);
        plan("11: as many", x, 0, 13, 1, 10);
        plan("11: 1 too few by that stone", x, 0, 14, 1, 11);
        plan("11: as many by two", x, 0, 28, 2, 10, 11);
        plan("11: 1 too few by these", x, 0, 29, 2, 11, 11);
    }

    private static void planIsInThisHour() {
        BuyersWeights x = Check.marketOf("h01,h01;3");
        plan("11: odd", x, 0, 39, 3, 10, 10, 10);
        plan("11: odd", x, 0, 40);
        x.hour();
        plan("11: even", x, 0, 21, 3, 10, 10, 10);
        plan("11: even", x, 0, 22);
        due("11: no hour went by", x.count(2), 2);
    }

    private static BuyersWeights lightest(String market) {
        BuyersWeights x = Check.marketOf(market);
        Check.buyTimes(x, 5, 0, 1, 0);
        Check.buyTimes(x, 5, 0, 1, 1);
        return x;
    }

    private static void planOfNothingIsNone() {
        BuyersWeights x = lightest("h01,m01;3");
        x.hour();
        plan("11: nothing is ever got", x, 0, 1);
        x.hour();
        plan("11: 4 each time", x, 0, 12, 3, 10, 10, 10);
        plan("11: 4 each time", x, 0, 13);
    }

    private static void planWearsAsItGoes() {
        BuyersWeights x = Check.marketOf("h01,r01;0");
        plan("11: rubbed by 1", x, 0, 19, 2, 10, 10);
        plan("11: two stones, none rubbed yet", x, 0, 20, 2, 10, 11);
        plan("11: one of them rubbed", x, 0, 29, 3, 10, 10, 11);
        plan("11: 1 too many", x, 0, 30);
        BuyersWeights y = Check.marketOf("o01,m01;0");
        plan("11: an honest one rubbed by 3", y, 0, 17, 2, 10, 10);
        plan("11: an honest one once", y, 0, 18, 2, 10, 11);
        plan("11: the other one rubbed by 2", y, 0, 28, 3, 10, 11, 11);
        plan("11: 1 too many", y, 0, 29);
    }

    private static void planWearsToOneAtLeast() {
        BuyersWeights x = lightest("h01,m01;0");
        plan("11: 1 each time", x, 0, 3, 3, 10, 10, 10);
        plan("11: 1 each time", x, 0, 4);
        BuyersWeights y = Check.marketOf("h01,m01;0");
        Check.buyTimes(y, 4, 0, 1, 0);
        Check.buyTimes(y, 5, 0, 1, 1);
        plan("11: 2, then 1, then 1", y, 0, 4, 3, 10, 10, 10);
        plan("11: 2, then 1, then 1", y, 0, 5);
    }

    // ---- it pays least; of like ones the fewest SALES, of these the first by numbers (..)

    private static void planPaysLeastFirst() {
        plan("11: the cheapest dealer", Check.marketOf("h91,m09,h01,h02;0"), 0, 19, 1, 20);
        plan("11: two of the cheap one", Check.marketOf("h91,m02,h05;0"), 0, 36, 4, 10, 10);
        // 37 is too much for two of the miller, who rubs: he and the other one, or he three times
        plan("11: three for 6, not two for 7", Check.marketOf("h91,m02,h05;0"), 0, 37, 6, 10, 10, 10);
        plan("11: two for 5, not three for 6", Check.marketOf("h91,m02,h03;0"), 0, 37, 5, 20, 10);
    }

    private static void planTakesTheFewestSalesThen() {
        BuyersWeights x = Check.marketOf("h91,m02,h04;0");
        // 4 and 2 by two sales or 2, 2 and 2 by three, which come first by numbers
        plan("11: 6 by two", x, 0, 38, 6, 20, 10);
        plan("11: 6 by three at last", x, 0, 39, 6, 10, 10, 10);
    }

    private static void planTakesTheFirstByNumbersThen() {
        plan("11: the first dealer", Check.marketOf("h01,h01,h01,h01;0"), 1, 10, 1, 0);
        plan("11: the first stone", Check.marketOf("h01,h11,h11,h01;0"), 3, 11, 1, 1);
        plan("11: the dealer ahead of the stone", Check.marketOf("h01,h01,h01,h51;0"), 0, 15, 1, 13);
        plan("11: sale by sale", Check.marketOf("o91,o91;0"), 0, 38, 2, 10, 11);
        plan("11: each stone once", Check.marketOf("o91,o91,o91,h02;0"), 3, 57, 3, 0, 1, 2);
        plan("11: a light one first", Check.marketOf("h01,h91,h01;0"), 2, 29, 2, 0, 1);
    }

    private static void planIsOfAnotherDealer() {
        plan("11: its own coin is of no use", Check.marketOf("h01,h09;0"), 0, 1, 9, 10);
        plan("11: nor is the last one's", Check.marketOf("h09,h08,h01;0"), 2, 1, 8, 10);
        plan("11: its own stone is", Check.marketOf("h99,h01;0"), 0, 19, 1, 10);
    }

    private static void planOfAWidow() {
        BuyersWeights x = Check.marketOf("w01,h01;0");
        plan("11: 1 more each time", x, 0, 33, 3, 10, 10, 10);
        plan("11: not 2", x, 0, 34);
        plan("11: not of a widow as a dealer", x, 1, 31);
        BuyersWeights y = lightest("w01,m01;2");
        y.hour();
        plan("11: 1 and 1 less 2 is nothing", y, 0, 1);
    }

    // ---- 11: what = 0 .., 1 .., 10 to 12 the so-manieth (NONE: there is none such); NONE: there is none. UNKNOWN;
    // ---- OUTSIDE: ounces, what; STATE: plan() was done 40 times.

    private static void planTells0And1And10To12() {
        BuyersWeights x = Check.marketOf("h01,h01;0");
        for (int what : new int[] {Integer.MIN_VALUE, -1, 2, 3, 8, 9, 13, 14, Integer.MAX_VALUE}) {
            due("11: what " + what, x.plan(0, 1, what), OUTSIDE);
        }
        plan("11: one sale, no second, no third", x, 0, 10, 1, 10);
        plan("11: two sales, no third", x, 0, 11, 2, 10, 10);
        plan("11: three sales", x, 0, 21, 3, 10, 10, 10);
        plan("11: none", x, 0, 31);
    }

    private static void planKnowsTheLastHouse() {
        for (int houses = 2; houses <= 4; houses++) {
            BuyersWeights x = Check.marketOf("h01,h01,h01,h01".substring(0, 4 * houses - 1) + ";0");
            due("11: house below", x.plan(-1, 1, 0), UNKNOWN);
            due("11: first house", x.plan(0, 1, 10), 10);
            due("11: last house", x.plan(houses - 1, 1, 10), 0);
            due("11: house beyond", x.plan(houses, 1, 0), UNKNOWN);
            due("11: the house is looked at first", x.plan(houses, 0, 2), UNKNOWN);
        }
        due("11: no market", new BuyersWeights().plan(0, 1, 0), UNKNOWN);
    }

    private static void planIsDone40Times() {
        BuyersWeights x = Check.marketOf("h01,h01;0");
        for (int done = 1; done <= 40; done++) {
            due("11: time " + done, x.plan(0, done, 0), done <= 10 ? 1 : done <= 20 ? 2 : done <= 30 ? 3 : NONE);
            due("11: told, NONE, too", x.count(11), done);
        }
        due("11: time 41", x.plan(0, 1, 0), STATE);
        due("11: where there is none, too", x.plan(0, 60, 0), STATE);
        due("11: numbers are looked at first", x.plan(0, 61, 0), OUTSIDE);
        due("11: what, too", x.plan(0, 1, 2), OUTSIDE);
        due("11: the house, too", x.plan(2, 1, 0), UNKNOWN);
        due("11: 40 stay", x.count(11), 40);
    }

    private static void planRefusedIsNotDone() {
        BuyersWeights x = new BuyersWeights();
        x.plan(0, 1, 0);
        Check.typed(x, "h01,h01;0");
        x.market();
        for (int time = 0; time < 50; time++) {
            x.plan(2, 1, 0);
            x.plan(0, 0, 0);
            x.plan(0, 61, 0);
            x.plan(0, 1, 13);
        }
        due("11: none was done", x.count(11), 0);
        due("11: so the first is", x.plan(0, 1, 0), 1);
        due("11: done once", x.count(11), 1);
    }

    private static void planCountIsNotUndone() {
        BuyersWeights x = Check.marketOf("h01,h01;0");
        x.image();
        for (int done = 0; done < 40; done++) {
            x.plan(0, 1, 0);
        }
        x.restore();
        due("11: not by restore()", x.plan(0, 1, 0), STATE);
        x.clear();
        x.blank();
        Check.typed(x, "h01,h01;0");
        x.market();
        due("11: not by market()", x.plan(0, 1, 0), STATE);
        due("11: told", x.count(11), 40);
    }

    private static void planChangesOnlyItsCount() {
        BuyersWeights x = Scene.LIVELY.made.get();
        BuyersWeights y = Scene.LIVELY.made.get();
        x.plan(2, 60, 12);
        x.plan(0, 1, 0);
        y.plan(1, 30, 1);
        y.plan(1, 30, 1);
        CHECK.alike("11: whatever was asked", x, y);
        BuyersWeights z = Scene.LIVELY.made.get();
        long stones = z.count(6);
        z.plan(0, 60, 0);
        due("11: stones are as they were", z.count(6), stones);
        due("11: no sale was made", z.count(3), Scene.LIVELY.sales);
    }

    private static void planKnowsNoFull() {
        BuyersWeights x = Check.marketOf("h01,h01;0");
        Check.buyTimes(x, 100, 0, 1, 0);
        due("11: no sale more", x.buy(0, 1, 0), FULL);
        plan("11: what would be, after 100 sales", x, 0, 30, 3, 10, 10, 10);
    }

    // ---- FAIR ..: gets at least as many OUNCES for each of COIN as of any other dealer. 12: UNKNOWN: dealer, buyer, or
    // ---- these are the same.

    private static void fairIsAtLeastAsMany() {
        for (int coin = 1; coin <= 9; coin++) {
            for (int other = 1; other <= 9; other++) {
                BuyersWeights x = Check.marketOf("h01,h0" + coin + ",h0" + other + ";0");
                due("12: " + coin + " against " + other, x.fair(1, 0), coin <= other ? 1 : 0);
                due("12: " + other + " against " + coin, x.fair(2, 0), other <= coin ? 1 : 0);
            }
        }
        BuyersWeights four = Check.marketOf("h01,h05,h05,h04;0");
        due("12: as one, not as the other", four.fair(1, 0), 0);
        due("12: better than both", four.fair(3, 0), 1);
    }

    private static void fairLooksAtOtherDealersOnly() {
        BuyersWeights x = Check.marketOf("h01,h05,h05;0");
        due("12: the buyer's own coin is of no use", x.fair(1, 0), 1);
        due("12: to another one it is", x.fair(1, 2), 0);
        BuyersWeights last = Check.marketOf("h05,h05,h01;0");
        due("12: the last buyer's, too", last.fair(0, 2), 1);
    }

    private static void fairOfTwoHouses() {
        BuyersWeights x = Check.marketOf("m09,h01;3");
        due("12: there is no other dealer", x.fair(0, 1), 1);
        due("12: nor there", x.fair(1, 0), 1);
    }

    private static void fairForNothing() {
        BuyersWeights x = Check.marketOf("h01,m09,w01;2");
        Check.buyTimes(x, 5, 0, 1, 0);
        Check.buyTimes(x, 5, 0, 1, 2);
        due("12: 3 for 9 against 3 for 1", x.fair(1, 0), 0);
        x.hour();
        due("12: 0 for 9 against 0 for 1", x.fair(1, 0), 1);
        due("12: the other way", x.fair(2, 0), 1);
        due("12: a widow's 0", x.fair(1, 2), 1);
        due("12: one who gets more than 0", x.fair(0, 1), 1);
        x.hour();
        due("12: now", x.fair(1, 0), 0);
    }

    /** By the lightest stones and a tilt of 1 only a widow gets something, so only to her the coin matters. */
    private static void fairForAWidowsOneMore() {
        BuyersWeights x = Check.marketOf("h01,m09,w02;1");
        Check.buyTimes(x, 5, 0, 1, 0);
        Check.buyTimes(x, 5, 0, 1, 2);
        x.hour();
        due("12: 1 for 9 against 1 for 1, to a widow", x.fair(1, 2), 0);
        due("12: 1 for 1 against 1 for 9, to a widow", x.fair(0, 2), 1);
        due("12: 0 for 9 against a widow's 0 for 2", x.fair(1, 0), 1);
        due("12: a widow's 0 for 2 against 0 for 9", x.fair(2, 0), 1);
    }

    private static void fairIsByTheBuyersStone() {
        BuyersWeights x = Check.marketOf("h01,h03,h94;0");
        due("12: a dealer's heavy stone does not count", x.fair(2, 0), 0);
        due("12: nor does his light one", x.fair(1, 0), 1);
        BuyersWeights y = Check.marketOf("h01,h94,h94;0");
        Check.buyTimes(y, 1, 0, 1, 1);
        due("12: 10 for 4, both", y.fair(1, 0), 1);
    }

    private static void fairRefusesTheSame() {
        for (int houses = 2; houses <= 4; houses++) {
            BuyersWeights x = Check.marketOf("h01,h01,h01,h01".substring(0, 4 * houses - 1) + ";0");
            for (int house = -1; house <= houses; house++) {
                due("12: the same", x.fair(house, house), UNKNOWN);
            }
            due("12: dealer below", x.fair(-1, 0), UNKNOWN);
            due("12: dealer beyond", x.fair(houses, 0), UNKNOWN);
            due("12: buyer below", x.fair(0, -1), UNKNOWN);
            due("12: buyer beyond", x.fair(0, houses), UNKNOWN);
            due("12: the last as a dealer", x.fair(houses - 1, 0), 1);
            due("12: the last as a buyer", x.fair(0, houses - 1), 1);
        }
        due("12: no market", new BuyersWeights().fair(0, 1), UNKNOWN);
    }

    private static void fairChangesNothing() {
        BuyersWeights x = Scene.LIVELY.made.get();
        x.fair(0, 1);
        x.fair(2, 0);
        CHECK.alike("12: it only would be", x, Scene.LIVELY.made.get());
    }
}
