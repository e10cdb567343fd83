import java.util.function.ToLongFunction;

/**
 * Every call that can be refused, in every scene, with every mix of numbers at the edges: the refusal is the first that
 * the document tells for the call, it leaves everything as it was, and what is not refused is taken.
 */
public final class RefusalsTest {
    private static final int UNKNOWN = BuyersWeights.UNKNOWN, OUTSIDE = BuyersWeights.OUTSIDE,
        STATE = BuyersWeights.STATE, FULL = BuyersWeights.FULL;
    private static final int TAKEN = 0;
    private static final int LOW = Integer.MIN_VALUE, HIGH = Integer.MAX_VALUE;
    private static final Check CHECK = new Check();

    public static void main(String[] args) {
        for (Scene scene : Scene.values()) {
            sceneIsAsTold(scene);
            pageCalls(scene);
            houseCalls(scene);
            sales(scene);
            plans(scene);
            fair(scene);
            ledgerCalls(scene);
            markets(scene);
            callsOfAll(scene);
        }
        CHECK.end("RefusalsTest");
    }

    private static void due(Scene scene, String call, ToLongFunction<BuyersWeights> made, int refusal) {
        String name = scene + ": " + call;
        if (refusal == TAKEN) {
            // NONE is an answer, too
            CHECK.due(name + " is taken", made.applyAsLong(scene.made.get()) >= BuyersWeights.NONE ? 1 : 0, 1);
        } else {
            CHECK.refused(name, scene.made, made, refusal);
        }
    }

    private static void sceneIsAsTold(Scene scene) {
        BuyersWeights x = scene.made.get();
        CHECK.due(scene + ": houses", x.count(0), scene.houses);
        CHECK.due(scene + ": sales", x.count(3), scene.sales);
        CHECK.due(scene + ": hands", x.count(7), scene.hands);
        CHECK.due(scene + ": letters", x.count(9), scene.letters);
        CHECK.due(scene + ": plans", x.count(11), scene.plans);
    }

    private static boolean unknown(Scene scene, int house) {
        return house < 0 || house >= scene.houses;
    }

    private static boolean noTrade(Scene scene, int buyer, int dealer) {
        return unknown(scene, buyer) || unknown(scene, dealer) || buyer == dealer;
    }

    private static boolean out(int number, int first, int last) {
        return number < first || number > last;
    }

    private static int[] housesOf(Scene scene) {
        return new int[] {LOW, -1, 0, 1, scene.houses - 1, scene.houses, 4, HIGH};
    }

    private static int[] edges(int first, int last) {
        return new int[] {LOW, first - 1, first, last, last + 1, HIGH};
    }

    private static void pageCalls(Scene scene) {
        for (int code : edges(32, 126)) {
            int refusal = out(code, 32, 126) ? OUTSIDE : scene.letters >= 18 ? FULL : TAKEN;
            due(scene, "letter(" + code + ")", x -> x.letter(code), refusal);
        }
        boolean pageIsMarket = scene == Scene.NO_MARKET_ALL_BUT_READ || scene == Scene.ONE_BELOW_FULL;
        due(scene, "market()", BuyersWeights::market, pageIsMarket ? TAKEN : STATE);
        due(scene, "blank()", BuyersWeights::blank, TAKEN);
        due(scene, "fault()", BuyersWeights::fault, TAKEN);
    }

    private static void houseCalls(Scene scene) {
        for (int house : housesOf(scene)) {
            for (int what : edges(0, 6)) {
                int refusal = unknown(scene, house) ? UNKNOWN : out(what, 0, 6) ? OUTSIDE : TAKEN;
                due(scene, "about(" + house + ", " + what + ")", x -> x.about(house, what), refusal);
            }
            for (int kind : edges(0, 4)) {
                int refusal = unknown(scene, house) ? UNKNOWN : out(kind, 0, 4) ? OUTSIDE : TAKEN;
                due(scene, "as(" + house + ", " + kind + ")", x -> x.as(house, kind), refusal);
            }
        }
        due(scene, "hour()", BuyersWeights::hour, scene.houses == 0 ? STATE : TAKEN);
    }

    private static void sales(Scene scene) {
        for (int buyer : housesOf(scene)) {
            for (int dealer : housesOf(scene)) {
                for (int stone : housesOf(scene)) {
                    boolean unknown = noTrade(scene, buyer, dealer) || unknown(scene, stone);
                    String numbers = "(" + buyer + ", " + dealer + ", " + stone + ")";
                    due(scene, "measure" + numbers, x -> x.measure(buyer, dealer, stone), unknown ? UNKNOWN : TAKEN);
                    int refusal = unknown ? UNKNOWN : scene.sales >= 100 ? FULL : TAKEN;
                    due(scene, "buy" + numbers, x -> x.buy(buyer, dealer, stone), refusal);
                }
            }
        }
    }

    private static void plans(Scene scene) {
        for (int house : housesOf(scene)) {
            for (int ounces : edges(1, 60)) {
                for (int what : new int[] {LOW, -1, 0, 1, 2, 9, 10, 11, 12, 13, HIGH}) {
                    boolean outside = out(ounces, 1, 60) || (out(what, 0, 1) && out(what, 10, 12));
                    int refusal = unknown(scene, house) ? UNKNOWN : outside ? OUTSIDE
                        : scene.plans >= 40 ? STATE : TAKEN;
                    due(scene, "plan(" + house + ", " + ounces + ", " + what + ")", x -> x.plan(house, ounces, what),
                        refusal);
                }
            }
        }
    }

    private static void fair(Scene scene) {
        for (int dealer : housesOf(scene)) {
            for (int buyer : housesOf(scene)) {
                int refusal = noTrade(scene, buyer, dealer) ? UNKNOWN : TAKEN;
                due(scene, "fair(" + dealer + ", " + buyer + ")", x -> x.fair(dealer, buyer), refusal);
            }
        }
    }

    private static void ledgerCalls(Scene scene) {
        for (int house : housesOf(scene)) {
            int refusal = unknown(scene, house) ? UNKNOWN : scene.hands >= 8 ? FULL : TAKEN;
            due(scene, "pass(" + house + ")", x -> x.pass(house), refusal);
        }
        for (int ounces : edges(0, 20)) {
            due(scene, "lose(" + ounces + ")", x -> x.lose(ounces), out(ounces, 0, 20) ? OUTSIDE : TAKEN);
        }
        due(scene, "clear()", BuyersWeights::clear, TAKEN);
        for (int what : edges(0, 2)) {
            int refusal = out(what, 0, 2) ? OUTSIDE : scene.houses == 0 ? STATE : TAKEN;
            due(scene, "rubbed(" + what + ")", x -> x.rubbed(what), refusal);
        }
        due(scene, "watch()", BuyersWeights::watch, scene.houses == 0 ? STATE : TAKEN);
    }

    private static void markets(Scene scene) {
        for (int sales : edges(1, 60)) {
            for (int seed : new int[] {LOW, -1, 0, HIGH}) {
                for (int what : edges(0, 2)) {
                    boolean outside = out(sales, 1, 60) || seed < 0 || out(what, 0, 2);
                    int refusal = outside ? OUTSIDE : scene.houses == 0 ? STATE : TAKEN;
                    due(scene, "markets(" + sales + ", " + seed + ", " + what + ")", x -> x.markets(sales, seed, what),
                        refusal);
                }
            }
        }
    }

    private static void callsOfAll(Scene scene) {
        due(scene, "image()", BuyersWeights::image, scene.houses == 0 ? STATE : TAKEN);
        due(scene, "restore()", BuyersWeights::restore, scene.imageKept ? TAKEN : STATE);
        for (int what : edges(0, 11)) {
            due(scene, "count(" + what + ")", x -> x.count(what), out(what, 0, 11) ? OUTSIDE : TAKEN);
        }
    }
}
