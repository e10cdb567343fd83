import java.util.Random;

/** Long runs of drawn calls, good and bad ones, give what the model gives, and the class never throws. */
public final class ModelTest {
    private static final int RUNS = 1500, CALLS = 512;
    private static final int[] ODD_NUMBERS = {Integer.MIN_VALUE, -1000, -104, -2, -1, 4, 5, 7, 9, 13, 21, 31, 61, 100,
        127, 255, 65536, Integer.MAX_VALUE};

    private final Random random;
    private final BuyersWeights x = new BuyersWeights();
    private final Model model = new Model();
    private final Check check;
    private final StringBuilder told = new StringBuilder();
    private String waiting = "";

    private ModelTest(int run, Check check) {
        this.random = new Random(run);
        this.check = check;
    }

    public static void main(String[] args) {
        Check check = new Check();
        for (int run = 0; run < RUNS; run++) {
            new ModelTest(run, check).go(run);
        }
        check.end("ModelTest");
    }

    private void go(int run) {
        for (int call = 0; call < CALLS; call++) {
            step("run " + run + ", call " + call + ": ");
        }
    }

    private void step(String at) {
        // letters of a market come one behind the other more often than other calls
        if (!waiting.isEmpty() && random.nextInt(10) != 0) {
            int code = waiting.charAt(0);
            waiting = waiting.substring(1);
            check.due(at + "letter(" + code + ")", x.letter(code), model.letter(code));
            return;
        }
        int a = number(4), b = number(4), c = number(4);
        String call = at + a + ", " + b + ", " + c + ": ";
        switch (random.nextInt(24)) {
            case 0: type(); break;
            case 1: check.due(call + "letter", x.letter(a), model.letter(a)); break;
            case 2: check.due(call + "blank", x.blank(), model.blank()); break;
            case 3: check.due(call + "fault", x.fault(), model.fault()); break;
            case 4: check.due(call + "market", x.market(), model.market()); break;
            case 5: b = number(7); check.due(call + "about " + b, x.about(a, b), model.about(a, b)); break;
            case 6: b = number(5); check.due(call + "as " + b, x.as(a, b), model.as(a, b)); break;
            case 7: check.due(call + "measure", x.measure(a, b, c), model.measure(a, b, c)); break;
            case 8: case 9: case 10: buyOften(call, a, b, c); break;
            case 11: check.due(call + "hour", x.hour(), model.hour()); break;
            case 12: plan(call, a, number(61), number(4)); break;
            case 13: check.due(call + "fair", x.fair(a, b), model.fair(a, b)); break;
            case 14: case 15: check.due(call + "pass", x.pass(a), model.pass(a)); break;
            case 16: b = number(10); check.due(call + "lose " + b, x.lose(b), model.lose(b)); break;
            case 17: if (random.nextInt(4) == 0) check.due(call + "clear", x.clear(), model.clear()); break;
            case 18: check.due(call + "rubbed", x.rubbed(a), model.rubbed(a)); break;
            case 19: check.due(call + "watch", x.watch(), model.watch()); break;
            case 20: markets(call, number(61), random.nextInt(), a); break;
            case 21: check.due(call + "image", x.image(), model.image()); break;
            case 22: check.due(call + "restore", x.restore(), model.restore()); break;
            default: b = number(12); check.due(call + "count " + b, x.count(b), model.count(b)); break;
        }
        if (random.nextInt(4) == 0) {
            check.due(call + "digest", x.digest(), model.digest());
        }
    }

    private void buyOften(String call, int buyer, int dealer, int stone) {
        int times = random.nextInt(20) == 0 ? 30 : 1;
        for (int time = 0; time < times; time++) {
            check.due(call + "buy", x.buy(buyer, dealer, stone), model.buy(buyer, dealer, stone));
        }
    }

    private void plan(String call, int house, int ounces, int which) {
        int what = which == 0 ? 0 : which == 1 ? 1 : which + 8;
        check.due(call + "plan " + ounces + ", " + what, x.plan(house, ounces, what), model.plan(house, ounces, what));
    }

    private void markets(String call, int sales, int drawn, int what) {
        int seed = random.nextInt(8) == 0 ? drawn : drawn & Integer.MAX_VALUE;
        check.due(call + "markets " + sales + ", " + seed, x.markets(sales, seed, what),
            model.markets(sales, seed, what));
    }

    /** Mostly 0 to below, now and then any other. */
    private int number(int below) {
        return random.nextInt(12) == 0 ? ODD_NUMBERS[random.nextInt(ODD_NUMBERS.length)] : random.nextInt(below);
    }

    /** A market's letters, now and then one of them another. */
    private void type() {
        told.setLength(0);
        int houses = random.nextInt(12) == 0 ? random.nextInt(6) : 2 + random.nextInt(3);
        for (int house = 0; house < houses; house++) {
            told.append(house == 0 ? "" : ",").append("hrowm".charAt(random.nextInt(5)));
            told.append(random.nextInt(10)).append(1 + random.nextInt(random.nextInt(2) == 0 ? 9 : 2));
        }
        told.append(';').append(random.nextInt(4));
        if (random.nextInt(4) == 0) {
            String signs = Model.signs();
            told.setCharAt(random.nextInt(told.length()), signs.charAt(random.nextInt(signs.length())));
        }
        if (random.nextInt(3) != 0) {
            x.blank();
            model.blank();
        }
        waiting = told.toString();
    }
}
