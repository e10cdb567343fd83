/**
 * A market where flour is weighed with the stones of the houses and paid in the dealer's coin.
 * All rows are made with the object, so that no call makes anything.
 */
public final class BuyersWeights {
    public static final int NONE = -1, UNKNOWN = -101, OUTSIDE = -102, STATE = -103, FULL = -104;

    private static final int RUBBER = 1, HONEST = 2, WIDOW = 3, MILLER = 4;
    private static final String KIND_LETTERS = "hrowm";

    private static final int LEAST_HOUSES = 2, MOST_HOUSES = 4;
    private static final int LETTERS_PER_HOUSE = 4;
    private static final int MOST_LETTERS = 18;
    private static final int MOST_SALES = 100;
    private static final int MOST_PLANS = 40, MOST_PLANNED_SALES = 3, MOST_WANTED = 60;
    private static final int DEARER_THAN_ANY_PLAN = 1000;
    private static final int MOST_HANDS = 8, MOST_LOST = 20;
    private static final int MOST_DRAWN_SALES = 60;

    private static final int LAST_ABOUT = 6, LAST_COUNT = 11, LAST_RUBBED = 2, LAST_MARKETS = 2;
    private static final int FIRST_MOVE = 10;

    private final Page page;
    private final Market market;
    private final Ledger ledger;
    private final Market keptMarket;
    private final Ledger keptLedger;
    private final Planner planner;
    private final DrawnSales drawnSales;
    private boolean imageKept;
    private int marketsRead;
    private int plansDone;

    public BuyersWeights() {
        page = new Page();
        market = new Market();
        ledger = new Ledger();
        keptMarket = new Market();
        keptLedger = new Ledger();
        planner = new Planner();
        drawnSales = new DrawnSales();
        imageKept = false;
        marketsRead = 0;
        plansDone = 0;
    }

    // ---- the market

    public int letter(int code) {
        if (code < 32 || code > 126) {
            return OUTSIDE;
        }
        if (page.length >= MOST_LETTERS) {
            return FULL;
        }
        page.add((char) code);
        return page.length;
    }

    public int blank() {
        int had = page.length;
        page.empty();
        return had;
    }

    public int fault() {
        return page.firstFault();
    }

    public int market() {
        if (!page.isMarket()) {
            return STATE;
        }
        market.open(page);
        page.empty();
        ledger.forget();
        imageKept = false;
        marketsRead++;
        return market.houses;
    }

    // ---- houses

    public int about(int house, int what) {
        if (!market.has(house)) {
            return UNKNOWN;
        }
        if (what < 0 || what > LAST_ABOUT) {
            return OUTSIDE;
        }
        return market.tell(house, what);
    }

    public int as(int house, int kind) {
        if (!market.has(house)) {
            return UNKNOWN;
        }
        if (kind < 0 || kind >= KIND_LETTERS.length()) {
            return OUTSIDE;
        }
        return isOfKind(market.kinds[house], kind) ? house : NONE;
    }

    public int measure(int buyer, int dealer, int stone) {
        if (!canTrade(buyer, dealer) || !market.has(stone)) {
            return UNKNOWN;
        }
        return market.ounces(market.stones[stone], buyer, market.hourNow);
    }

    public int buy(int buyer, int dealer, int stone) {
        if (!canTrade(buyer, dealer) || !market.has(stone)) {
            return UNKNOWN;
        }
        if (market.sales >= MOST_SALES) {
            return FULL;
        }
        return market.sell(buyer, dealer, stone);
    }

    public int hour() {
        if (!market.isOpen()) {
            return STATE;
        }
        market.hourNow++;
        return market.hourNow;
    }

    // ---- what would be

    public int plan(int house, int ounces, int what) {
        if (!market.has(house)) {
            return UNKNOWN;
        }
        if (ounces < 1 || ounces > MOST_WANTED || !isPlanQuestion(what)) {
            return OUTSIDE;
        }
        if (plansDone >= MOST_PLANS) {
            return STATE;
        }
        plansDone++;
        planner.seek(market, house, ounces);
        return planner.tell(what);
    }

    public int fair(int dealer, int buyer) {
        if (!canTrade(buyer, dealer)) {
            return UNKNOWN;
        }
        return market.isFair(dealer, buyer) ? 1 : 0;
    }

    // ---- the ledger

    public int pass(int house) {
        if (!market.has(house)) {
            return UNKNOWN;
        }
        if (ledger.hands >= MOST_HANDS) {
            return FULL;
        }
        ledger.add(house);
        return ledger.hands;
    }

    public int lose(int ounces) {
        if (ounces < 0 || ounces > MOST_LOST) {
            return OUTSIDE;
        }
        int told = ledger.lost;
        ledger.lost = ounces;
        return told;
    }

    public int clear() {
        int told = ledger.hands;
        ledger.forget();
        return told;
    }

    public int rubbed(int what) {
        if (what < 0 || what > LAST_RUBBED) {
            return OUTSIDE;
        }
        if (!market.isOpen()) {
            return STATE;
        }
        if (what == 0) {
            return ledger.howManySets(market.houses);
        }
        return what == 1 ? ledger.leastSet(market.houses) : ledger.inAllSets(market.houses);
    }

    public int watch() {
        if (!market.isOpen()) {
            return STATE;
        }
        return ledger.houseToWatch(market.houses);
    }

    public int markets(int sales, int seed, int what) {
        if (sales < 1 || sales > MOST_DRAWN_SALES || seed < 0 || what < 0 || what > LAST_MARKETS) {
            return OUTSIDE;
        }
        if (!market.isOpen()) {
            return STATE;
        }
        drawnSales.run(market, sales, seed);
        return what == 0 ? drawnSales.ouncesGot : what == 1 ? market.sum(drawnSales.stones) : drawnSales.seed;
    }

    // ---- what is told of all

    public int image() {
        if (!market.isOpen()) {
            return STATE;
        }
        keptMarket.copyDoingsOf(market);
        keptLedger.copyFrom(ledger);
        imageKept = true;
        return market.hourNow;
    }

    public int restore() {
        if (!imageKept) {
            return STATE;
        }
        market.copyDoingsOf(keptMarket);
        ledger.copyFrom(keptLedger);
        return market.hourNow;
    }

    public int count(int what) {
        switch (what) {
            case 0: return market.houses;
            case 1: return market.tilt;
            case 2: return market.hourNow;
            case 3: return market.sales;
            case 4: return market.sum(market.got);
            case 5: return market.sum(market.paid);
            case 6: return market.sum(market.stones);
            case 7: return ledger.hands;
            case 8: return ledger.lost;
            case 9: return page.length;
            case 10: return marketsRead;
            case 11: return plansDone;
            default: return OUTSIDE;
        }
    }

    public long digest() {
        long h = 977L;
        for (int house = 0; house < market.houses; house++) {
            h = foldHouse(h, house);
        }
        if (market.isOpen()) {
            h = foldLedger(h);
        }
        for (int at = 0; at < page.length; at++) {
            h = fold(h, page.letters[at]);
        }
        for (int what = 0; what <= LAST_COUNT; what++) {
            h = fold(h, count(what));
        }
        return h;
    }

    private long foldHouse(long start, int house) {
        long h = start;
        for (int what = 0; what <= LAST_ABOUT; what++) {
            h = fold(h, about(house, what));
        }
        for (int buyer = 0; buyer < market.houses; buyer++) {
            if (buyer != house) {
                h = fold(h, fair(house, buyer));
            }
        }
        return h;
    }

    private long foldLedger(long start) {
        long h = start;
        for (int what = 0; what <= LAST_RUBBED; what++) {
            h = fold(h, rubbed(what));
        }
        return fold(h, watch());
    }

    private static long fold(long h, long number) {
        return 31L * h + number;
    }

    private boolean canTrade(int buyer, int dealer) {
        return market.has(buyer) && market.has(dealer) && buyer != dealer;
    }

    private static boolean isPlanQuestion(int what) {
        return what == 0 || what == 1 || (what >= FIRST_MOVE && what < FIRST_MOVE + MOST_PLANNED_SALES);
    }

    /** Every house is a plain house (kind 0), and a miller is a rubber, too. */
    private static boolean isOfKind(int own, int asked) {
        return asked == 0 || own == asked || (own == MILLER && asked == RUBBER);
    }

    /** The letters that came in, read by the rule of how a market is written. */
    private static final class Page {
        final char[] letters = new char[MOST_LETTERS];
        int length = 0;

        void add(char letter) {
            if (length < MOST_LETTERS) {
                letters[length] = letter;
                length++;
            }
        }

        void empty() {
            length = 0;
        }

        int firstFault() {
            int semicolon = NONE;
            for (int at = 0; at < length; at++) {
                boolean fits = semicolon == NONE ? fitsHouses(at) : at == semicolon + 1 && isBetween(at, '0', '3');
                if (!fits) {
                    return at;
                }
                if (letters[at] == ';') {
                    semicolon = at;
                }
            }
            return length;
        }

        /** No fault is not enough: a market that only began has none either. */
        boolean isMarket() {
            return length >= 2 && letters[length - 2] == ';' && firstFault() == length;
        }

        int howManyHouses() {
            return length / LETTERS_PER_HOUSE;
        }

        int kind(int house) {
            return KIND_LETTERS.indexOf(letters[house * LETTERS_PER_HOUSE]);
        }

        int digit(int at) {
            return letters[at] - '0';
        }

        private boolean fitsHouses(int at) {
            int part = at % LETTERS_PER_HOUSE;
            if (part == 0) {
                return KIND_LETTERS.indexOf(letters[at]) >= 0;
            }
            if (part == 1) {
                return isBetween(at, '0', '9');
            }
            if (part == 2) {
                return isBetween(at, '1', '9');
            }
            int houses = at / LETTERS_PER_HOUSE + 1;
            return letters[at] == ',' ? houses < MOST_HOUSES : letters[at] == ';' && houses >= LEAST_HOUSES;
        }

        private boolean isBetween(int at, char first, char last) {
            return letters[at] >= first && letters[at] <= last;
        }
    }

    /** The houses, and what was done since the market was read; no houses at first. */
    private static final class Market {
        final int[] kinds = new int[MOST_HOUSES];
        final int[] stones = new int[MOST_HOUSES];
        final int[] coins = new int[MOST_HOUSES];
        final int[] got = new int[MOST_HOUSES];
        final int[] paid = new int[MOST_HOUSES];
        final int[] dealt = new int[MOST_HOUSES];
        final int[] used = new int[MOST_HOUSES];
        int houses = 0;
        int tilt = 0;
        int hourNow = 0;
        int sales = 0;

        /** The page must be a market. */
        void open(Page page) {
            houses = page.howManyHouses();
            tilt = page.digit(page.length - 1);
            hourNow = 1;
            sales = 0;
            for (int house = 0; house < houses; house++) {
                int at = house * LETTERS_PER_HOUSE;
                kinds[house] = page.kind(house);
                stones[house] = 10 + page.digit(at + 1);
                coins[house] = page.digit(at + 2);
                got[house] = 0;
                paid[house] = 0;
                dealt[house] = 0;
                used[house] = 0;
            }
        }

        boolean isOpen() {
            return houses > 0;
        }

        boolean has(int house) {
            return house >= 0 && house < houses;
        }

        int tell(int house, int what) {
            switch (what) {
                case 0: return kinds[house];
                case 1: return stones[house];
                case 2: return coins[house];
                case 3: return got[house];
                case 4: return paid[house];
                case 5: return dealt[house];
                default: return used[house];
            }
        }

        /** Weight and hour are told, not looked up, so that sales that only would be are weighed here, too. */
        int ounces(int weight, int buyer, int atHour) {
            int tilted = atHour % 2 == 0 ? weight - tilt : weight + tilt;
            int given = kinds[buyer] == WIDOW ? tilted + 1 : tilted;
            return Math.max(given, 0);
        }

        int weightAfter(int weight, int owner, int dealer) {
            int wear = kinds[owner] == HONEST ? 1 : 0;
            int rub = kinds[dealer] == MILLER ? 2 : kinds[dealer] == RUBBER ? 1 : 0;
            return Math.max(weight - wear - rub, 1);
        }

        int sell(int buyer, int dealer, int stone) {
            int ounces = ounces(stones[stone], buyer, hourNow);
            got[buyer] += ounces;
            paid[buyer] += coins[dealer];
            dealt[dealer]++;
            used[stone]++;
            sales++;
            stones[stone] = weightAfter(stones[stone], stone, dealer);
            return ounces;
        }

        boolean isFair(int dealer, int buyer) {
            int ounces = ounces(stones[buyer], buyer, hourNow);
            for (int other = 0; other < houses; other++) {
                // ounces / coin of both, multiplied out so that nothing is divided
                if (other != buyer && other != dealer && ounces * coins[other] < ounces * coins[dealer]) {
                    return false;
                }
            }
            return true;
        }

        int sum(int[] row) {
            int all = 0;
            for (int house = 0; house < houses; house++) {
                all += row[house];
            }
            return all;
        }

        /** Houses, kinds, coins and tilt are left out: they stay the same as long as an image holds. */
        void copyDoingsOf(Market other) {
            hourNow = other.hourNow;
            sales = other.sales;
            copyRow(other.stones, stones);
            copyRow(other.got, got);
            copyRow(other.paid, paid);
            copyRow(other.dealt, dealt);
            copyRow(other.used, used);
        }
    }

    private static void copyRow(int[] from, int[] to) {
        System.arraycopy(from, 0, to, 0, MOST_HOUSES);
    }

    /** Whose hands a stone went through; only how often each is told matters, not the order. */
    private static final class Ledger {
        final int[] times = new int[MOST_HOUSES];
        int hands = 0;
        int lost = 0;

        void add(int house) {
            times[house]++;
            hands++;
        }

        void forget() {
            for (int house = 0; house < MOST_HOUSES; house++) {
                times[house] = 0;
            }
            hands = 0;
            lost = 0;
        }

        void copyFrom(Ledger other) {
            copyRow(other.times, times);
            hands = other.hands;
            lost = other.lost;
        }

        int howManySets(int houses) {
            return howManySetsWith(0, houses);
        }

        int leastSet(int houses) {
            for (int set = 0; set < 1 << houses; set++) {
                if (explains(set, houses)) {
                    return set;
                }
            }
            return NONE;
        }

        int inAllSets(int houses) {
            int common = NONE;
            for (int set = 0; set < 1 << houses; set++) {
                if (explains(set, houses)) {
                    // NONE has every bit set, so the first set goes in whole
                    common &= set;
                }
            }
            return common;
        }

        int houseToWatch(int houses) {
            int all = howManySets(houses);
            if (all == 0) {
                return NONE;
            }
            int best = NONE;
            int bestLeft = all + 1;
            for (int house = 0; house < houses; house++) {
                int with = howManySetsWith(1 << house, houses);
                int left = Math.max(with, all - with);
                if (left < bestLeft) {
                    best = house;
                    bestLeft = left;
                }
            }
            return best;
        }

        private int howManySetsWith(int members, int houses) {
            int found = 0;
            for (int set = 0; set < 1 << houses; set++) {
                if ((set & members) == members && explains(set, houses)) {
                    found++;
                }
            }
            return found;
        }

        private boolean explains(int set, int houses) {
            int rubbedOff = 0;
            for (int house = 0; house < houses; house++) {
                if ((set >> house & 1) == 1) {
                    rubbedOff += times[house];
                }
            }
            return rubbedOff == lost;
        }
    }

    /** Tries every run of sales in the order of its numbers, so that the first of like ones is met first. */
    private static final class Planner {
        final int[] stones = new int[MOST_HOUSES];
        final int[] tried = new int[MOST_PLANNED_SALES];
        final int[] best = new int[MOST_PLANNED_SALES];
        int bestSales = 0;
        int bestPaid = 0;
        int buyer = 0;
        int wanted = 0;

        void seek(Market market, int house, int ounces) {
            copyRow(market.stones, stones);
            bestSales = 0;
            bestPaid = DEARER_THAN_ANY_PLAN;
            buyer = house;
            wanted = ounces;
            trySales(market, 0, 0, 0);
        }

        int tell(int what) {
            if (bestSales == 0) {
                return NONE;
            }
            if (what == 0) {
                return bestPaid;
            }
            if (what == 1) {
                return bestSales;
            }
            int move = what - FIRST_MOVE;
            return move >= 0 && move < bestSales ? best[move] : NONE;
        }

        private void trySales(Market market, int made, int got, int paid) {
            if (made >= MOST_PLANNED_SALES) {
                return;
            }
            for (int dealer = 0; dealer < market.houses; dealer++) {
                if (dealer == buyer) {
                    continue;
                }
                for (int stone = 0; stone < market.houses; stone++) {
                    tried[made] = 10 * dealer + stone;
                    trySale(market, made, dealer, stone, got, paid);
                }
            }
        }

        private void trySale(Market market, int made, int dealer, int stone, int got, int paid) {
            int weight = stones[stone];
            int gotThen = got + market.ounces(weight, buyer, market.hourNow);
            int paidThen = paid + market.coins[dealer];
            if (gotThen >= wanted) {
                keepIfBetter(made + 1, paidThen);
            } else if (paidThen < bestPaid) {
                // each sale costs something: beyond the best one's price nothing better can follow
                stones[stone] = market.weightAfter(weight, stone, dealer);
                trySales(market, made + 1, gotThen, paidThen);
                stones[stone] = weight;
            }
        }

        private void keepIfBetter(int sales, int paid) {
            if (paid < bestPaid || (paid == bestPaid && sales < bestSales)) {
                bestPaid = paid;
                bestSales = sales;
                System.arraycopy(tried, 0, best, 0, sales);
            }
        }
    }

    /** Sales by draws from a seed, as they would be: the market itself stays as it is. */
    private static final class DrawnSales {
        final int[] stones = new int[MOST_HOUSES];
        int seed = 0;
        int ouncesGot = 0;

        void run(Market market, int sales, int firstSeed) {
            copyRow(market.stones, stones);
            seed = firstSeed;
            ouncesGot = 0;
            for (int made = 0; made < sales; made++) {
                drawSale(market, market.hourNow + made);
            }
        }

        private void drawSale(Market market, int atHour) {
            // all three are drawn even where no sale comes of it
            int buyer = draw(market.houses);
            int dealer = draw(market.houses);
            int stone = draw(market.houses);
            if (buyer != dealer) {
                ouncesGot += market.ounces(stones[stone], buyer, atHour);
                stones[stone] = market.weightAfter(stones[stone], stone, dealer);
            }
        }

        private int draw(int of) {
            seed = (int) ((1103515245L * seed + 12345L) % (1L << 31));
            return of > 0 ? seed / 65536 % of : 0;
        }
    }
}
