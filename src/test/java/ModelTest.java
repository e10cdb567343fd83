import java.util.Random;

/**
 * Long runs of drawn calls, good and bad ones, give what the model gives, and the class never throws.
 * A run ends with the object's 512th call: what later ones answer is free.
 */
public final class ModelTest {
    private static final int RUNS = 1500, CALLS = 512, KINDS_OF_STEP = 22;
    private static final int[] ODD_NUMBERS = {Integer.MIN_VALUE, -1000, -104, -2, -1, 4, 5, 7, 9, 13, 21, 31, 61, 100,
        127, 255, 65536, Integer.MAX_VALUE};

    private final Random random;
    private final BuyersWeights x = new BuyersWeights();
    private final Model model = new Model();
    private final Check check;
    private final int favourite;
    private String waiting = "";
    private int calls = 0;

    private ModelTest(int run, Check check) {
        this.random = new Random(run);
        this.check = check;
        this.favourite = run % KINDS_OF_STEP;
    }

    public static void main(String[] args) {
        Check check = new Check();
        for (int run = 0; run < RUNS; run++) {
            new ModelTest(run, check).go(run);
        }
        check.end("ModelTest");
    }

    private void go(int run) {
        boolean marketAtFirst = random.nextInt(8) != 0;
        if (marketAtFirst) {
            waiting = goodMarket();
        }
        while (calls < CALLS) {
            step("run " + run + ", call " + calls + ": ");
        }
        check.due("run " + run + ": calls", calls, CALLS);
    }

    private void due(String call, long got, long want) {
        calls++;
        check.due(call, got, want);
    }

    private void step(String at) {
        // letters of a market come one behind the other more often than other calls, and it is mostly read then
        if (!waiting.isEmpty() && random.nextInt(10) != 0) {
            typeOne(at);
        } else {
            // each run does one thing often, so that what is full or done after many calls is met
            ask(at, random.nextInt(3) == 0 ? favourite : random.nextInt(KINDS_OF_STEP));
        }
        if (calls < CALLS && random.nextInt(8) == 0) {
            due(at + "digest", x.digest(), model.digest());
        }
    }

    private void typeOne(String at) {
        int code = waiting.charAt(0);
        waiting = waiting.substring(1);
        due(at + "letter(" + code + ")", x.letter(code), model.letter(code));
        if (waiting.isEmpty() && calls < CALLS && random.nextInt(4) != 0) {
            due(at + "market behind its letters", x.market(), model.market());
        }
    }

    private void ask(String at, int kindOfStep) {
        int a = house(), b = house(), c = house();
        String call = at + a + ", " + b + ", " + c + ": ";
        switch (kindOfStep) {
            case 0: another(); break;
            case 1: int code = 30 + number(99); due(call + "letter " + code, x.letter(code), model.letter(code)); break;
            case 2: due(call + "blank", x.blank(), model.blank()); break;
            case 3: due(call + "fault", x.fault(), model.fault()); break;
            case 4: due(call + "market", x.market(), model.market()); break;
            case 5: b = number(7); due(call + "about " + b, x.about(a, b), model.about(a, b)); break;
            case 6: b = number(5); due(call + "as " + b, x.as(a, b), model.as(a, b)); break;
            case 7: due(call + "measure", x.measure(a, b, c), model.measure(a, b, c)); break;
            case 8: buyOften(call, a, b, c); break;
            case 9: due(call + "hour", x.hour(), model.hour()); break;
            case 10: plan(call, a, number(61), number(4)); break;
            case 11: due(call + "fair", x.fair(a, b), model.fair(a, b)); break;
            case 12: due(call + "pass", x.pass(a), model.pass(a)); break;
            case 13: b = number(10); due(call + "lose " + b, x.lose(b), model.lose(b)); break;
            case 14: due(call + "clear", x.clear(), model.clear()); break;
            case 15: b = number(3); due(call + "rubbed " + b, x.rubbed(b), model.rubbed(b)); break;
            case 16: due(call + "watch", x.watch(), model.watch()); break;
            case 17: markets(call, number(61), random.nextInt(), number(3)); break;
            case 18: due(call + "image", x.image(), model.image()); break;
            case 19: due(call + "restore", x.restore(), model.restore()); break;
            default: b = number(12); due(call + "count " + b, x.count(b), model.count(b)); break;
        }
    }

    private void buyOften(String call, int buyer, int dealer, int stone) {
        int times = random.nextInt(8) == 0 ? 30 : 1;
        for (int time = 0; time < times && calls < CALLS; time++) {
            due(call + "buy", x.buy(buyer, dealer, stone), model.buy(buyer, dealer, stone));
        }
    }

    private void plan(String call, int house, int ounces, int which) {
        int what = which == 0 ? 0 : which == 1 ? 1 : which + 8;
        due(call + "plan " + ounces + ", " + what, x.plan(house, ounces, what), model.plan(house, ounces, what));
    }

    private void markets(String call, int sales, int drawn, int what) {
        int seed = random.nextInt(8) == 0 ? drawn : drawn & Integer.MAX_VALUE;
        due(call + "markets " + sales + ", " + seed + ", " + what, x.markets(sales, seed, what),
            model.markets(sales, seed, what));
    }

    /** Mostly one that there is. */
    private int house() {
        return number(Math.max(1, model.count(0)));
    }

    /** Mostly 0 to below, now and then any other. */
    private int number(int below) {
        return random.nextInt(16) == 0 ? ODD_NUMBERS[random.nextInt(ODD_NUMBERS.length)] : random.nextInt(below);
    }

    /** A market's letters will come, now and then too few or too many houses, or one letter another. */
    private void another() {
        StringBuilder text = new StringBuilder(random.nextInt(8) == 0 ? marketOf(random.nextInt(6)) : goodMarket());
        if (random.nextInt(4) == 0) {
            String signs = Model.signs();
            text.setCharAt(random.nextInt(text.length()), signs.charAt(random.nextInt(signs.length())));
        }
        if (random.nextInt(3) != 0) {
            due("blank ahead of a market", x.blank(), model.blank());
        }
        waiting = text.toString();
    }

    private String goodMarket() {
        return marketOf(2 + random.nextInt(3));
    }

    private String marketOf(int houses) {
        StringBuilder text = new StringBuilder();
        for (int house = 0; house < houses; house++) {
            text.append(house == 0 ? "" : ",").append("hrowm".charAt(random.nextInt(5)));
            text.append(random.nextInt(10)).append(1 + random.nextInt(random.nextInt(2) == 0 ? 9 : 2));
        }
        return text.append(';').append(random.nextInt(4)).toString();
    }
}
