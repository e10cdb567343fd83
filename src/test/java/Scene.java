import java.util.function.Supplier;

/** A state that an object can be brought to, again and again, and what is known of it from how it was brought there. */
enum Scene {
    NEW(0, 0, 0, 0, 0, false, BuyersWeights::new),
    NO_MARKET_FULL_PAGE(0, 18, 0, 0, 0, false, Scene::noMarketFullPage),
    NO_MARKET_ALL_BUT_READ(0, 9, 0, 0, 0, false, () -> Check.typed(new BuyersWeights(), "h01,w12;3")),
    JUST_READ(2, 0, 0, 0, 0, false, () -> Check.marketOf("r13,m31;2")),
    LIVELY(3, 8, 3, 3, 1, true, Scene::lively),
    ONE_BELOW_FULL(4, 17, 99, 7, 39, true, () -> worked(99, 7, 39, "h01,r12,o23,w34;3")),
    FULL(4, 18, 100, 8, 40, true, () -> worked(100, 8, 40, "h01,r12,o23,w34;30"));

    final int houses;
    final int letters;
    final int sales;
    final int hands;
    final int plans;
    final boolean imageKept;
    final Supplier<BuyersWeights> made;

    Scene(int houses, int letters, int sales, int hands, int plans, boolean imageKept, Supplier<BuyersWeights> made) {
        this.houses = houses;
        this.letters = letters;
        this.sales = sales;
        this.hands = hands;
        this.plans = plans;
        this.imageKept = imageKept;
        this.made = made;
    }

    private static BuyersWeights noMarketFullPage() {
        BuyersWeights x = Check.typed(new BuyersWeights(), "h01,r12,o23,w34;30");
        x.lose(20);
        return x;
    }

    private static BuyersWeights lively() {
        BuyersWeights x = Check.marketOf("o24,m93,w05;2");
        x.buy(2, 1, 0);
        x.pass(2);
        x.lose(1);
        x.image();
        x.hour();
        x.buy(0, 2, 1);
        x.buy(1, 0, 2);
        x.pass(1);
        x.pass(1);
        x.lose(2);
        x.plan(0, 20, 0);
        return Check.typed(x, "h01,h01;");
    }

    private static BuyersWeights worked(int sales, int hands, int plans, String page) {
        BuyersWeights x = Check.marketOf("m99,o98,r07,w16;3");
        x.buy(1, 0, 1);
        x.pass(3);
        x.lose(1);
        x.image();
        x.hour();
        for (int sale = 1; sale < sales; sale++) {
            x.buy(sale % 4, (sale + 1) % 4, sale % 3);
        }
        for (int hand = 1; hand < hands; hand++) {
            x.pass(hand % 3);
        }
        x.lose(3);
        for (int plan = 0; plan < plans; plan++) {
            x.plan(plan % 4, 1 + plan, 0);
        }
        return Check.typed(x, page);
    }
}
