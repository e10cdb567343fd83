import java.util.ArrayList;
import java.util.List;
import java.util.regex.Pattern;

/**
 * The document written down a second time, as near to its words as can be and without care for speed:
 * the market is a text matched by a pattern, a plan is found by looking at every run of sales, hands are a list.
 */
final class Model {
    static final int NONE = -1, UNKNOWN = -101, OUTSIDE = -102, STATE = -103, FULL = -104;
    private static final Pattern MARKET = Pattern.compile("[hrowm][0-9][1-9](,[hrowm][0-9][1-9]){1,3};[0-3]");
    private static final String SIGNS = "hrowm,;0123456789";

    private String page = "";
    private String text = null;
    private Things now = new Things();
    private Things image = null;
    private int reads = 0;
    private int plans = 0;

    /** What an image keeps. */
    private static final class Things {
        int hour = 0;
        List<int[]> sales = new ArrayList<>();
        int[] stones = new int[0];
        int lost = 0;
        List<Integer> hands = new ArrayList<>();

        Things copy() {
            Things other = new Things();
            other.hour = hour;
            other.sales = new ArrayList<>(sales);
            other.stones = stones.clone();
            other.lost = lost;
            other.hands = new ArrayList<>(hands);
            return other;
        }
    }

    int letter(int code) {
        if (code < 32 || code > 126) return OUTSIDE;
        if (page.length() == 18) return FULL;
        page += (char) code;
        return page.length();
    }

    int blank() {
        int had = page.length();
        page = "";
        return had;
    }

    int fault() {
        for (int n = 1; n <= page.length(); n++) {
            if (!begins(page.substring(0, n))) return n - 1;
        }
        return page.length();
    }

    /** Whether some market begins so, found by asking the pattern whether more signs could still match it. */
    private static boolean begins(String start) {
        var matcher = MARKET.matcher(start);
        return matcher.matches() || matcher.hitEnd();
    }

    int market() {
        if (!MARKET.matcher(page).matches()) return STATE;
        text = page;
        page = "";
        image = null;
        now = new Things();
        now.hour = 1;
        now.stones = new int[houses()];
        for (int house = 0; house < houses(); house++) now.stones[house] = 10 + text.charAt(4 * house + 1) - '0';
        reads++;
        return houses();
    }

    private int houses() {
        return text == null ? 0 : text.split(",").length;
    }

    private char kind(int house) {
        return text.charAt(4 * house);
    }

    private int coin(int house) {
        return text.charAt(4 * house + 2) - '0';
    }

    private int tilt() {
        return text == null ? 0 : text.charAt(text.length() - 1) - '0';
    }

    private boolean known(int house) {
        return 0 <= house && house < houses();
    }

    int about(int house, int what) {
        if (!known(house)) return UNKNOWN;
        if (what < 0 || what > 6) return OUTSIDE;
        if (what == 0) return "hrowm".indexOf(kind(house));
        if (what == 1) return now.stones[house];
        if (what == 2) return coin(house);
        int sum = 0;
        for (int[] sale : now.sales) {
            if (what == 3 && sale[0] == house) sum += sale[3];
            if (what == 4 && sale[0] == house) sum += coin(sale[1]);
            if (what == 5 && sale[1] == house) sum++;
            if (what == 6 && sale[2] == house) sum++;
        }
        return sum;
    }

    int as(int house, int kind) {
        if (!known(house)) return UNKNOWN;
        if (kind < 0 || kind > 4) return OUTSIDE;
        String are = new String[] {"hrowm", "rm", "o", "w", "m"}[kind];
        return are.indexOf(kind(house)) >= 0 ? house : NONE;
    }

    private int ounces(int weight, int hour, int buyer) {
        int ounces = weight + (hour % 2 == 1 ? tilt() : -tilt());
        if (kind(buyer) == 'w') ounces += 1;
        return ounces < 0 ? 0 : ounces;
    }

    private void wear(int[] stones, int dealer, int stone) {
        int loss = 0;
        if (kind(stone) == 'o') loss += 1;
        if (kind(dealer) == 'r') loss += 1;
        if (kind(dealer) == 'm') loss += 2;
        stones[stone] = Math.max(1, stones[stone] - loss);
    }

    private boolean sound(int buyer, int dealer, int stone) {
        return known(buyer) && known(dealer) && known(stone) && buyer != dealer;
    }

    int measure(int buyer, int dealer, int stone) {
        return sound(buyer, dealer, stone) ? ounces(now.stones[stone], now.hour, buyer) : UNKNOWN;
    }

    int buy(int buyer, int dealer, int stone) {
        if (!sound(buyer, dealer, stone)) return UNKNOWN;
        if (now.sales.size() == 100) return FULL;
        int ounces = ounces(now.stones[stone], now.hour, buyer);
        now.sales.add(new int[] {buyer, dealer, stone, ounces});
        wear(now.stones, dealer, stone);
        return ounces;
    }

    int hour() {
        return text == null ? STATE : ++now.hour;
    }

    int plan(int house, int ounces, int what) {
        if (!known(house)) return UNKNOWN;
        if (ounces < 1 || ounces > 60) return OUTSIDE;
        if (what != 0 && what != 1 && what != 10 && what != 11 && what != 12) return OUTSIDE;
        if (plans == 40) return STATE;
        plans++;
        List<int[]> runs = new ArrayList<>();
        for (int sales = 1; sales <= 3; sales++) everyRun(house, sales, new int[0], runs);
        int[] best = null;
        for (int[] run : runs) {
            if (gets(house, run) >= ounces && (best == null || isBetter(run, best))) best = run;
        }
        if (best == null) return NONE;
        if (what == 0) return price(best);
        if (what == 1) return best.length;
        return what - 10 < best.length ? best[what - 10] : NONE;
    }

    private void everyRun(int house, int more, int[] start, List<int[]> runs) {
        if (more == 0) {
            runs.add(start);
            return;
        }
        for (int dealer = houses() - 1; dealer >= 0; dealer--) {
            for (int stone = houses() - 1; stone >= 0 && dealer != house; stone--) {
                int[] longer = java.util.Arrays.copyOf(start, start.length + 1);
                longer[start.length] = 10 * dealer + stone;
                everyRun(house, more - 1, longer, runs);
            }
        }
    }

    private int gets(int house, int[] run) {
        int[] stones = now.stones.clone();
        int sum = 0;
        for (int move : run) {
            sum += ounces(stones[move % 10], now.hour, house);
            wear(stones, move / 10, move % 10);
        }
        return sum;
    }

    private int price(int[] run) {
        int sum = 0;
        for (int move : run) sum += coin(move / 10);
        return sum;
    }

    private boolean isBetter(int[] run, int[] than) {
        if (price(run) != price(than)) return price(run) < price(than);
        if (run.length != than.length) return run.length < than.length;
        return java.util.Arrays.compare(run, than) < 0;
    }

    int fair(int dealer, int buyer) {
        if (!sound(buyer, dealer, 0)) return UNKNOWN;
        for (int other = 0; other < houses(); other++) {
            if (other == buyer || other == dealer) continue;
            int ofIt = measure(buyer, dealer, buyer) * coin(other);
            int ofOther = measure(buyer, other, buyer) * coin(dealer);
            if (ofIt < ofOther) return 0;
        }
        return 1;
    }

    int pass(int house) {
        if (!known(house)) return UNKNOWN;
        if (now.hands.size() == 8) return FULL;
        now.hands.add(house);
        return now.hands.size();
    }

    int lose(int ounces) {
        if (ounces < 0 || ounces > 20) return OUTSIDE;
        int was = now.lost;
        now.lost = ounces;
        return was;
    }

    int clear() {
        int told = now.hands.size();
        now.hands.clear();
        now.lost = 0;
        return told;
    }

    private List<Integer> sets() {
        List<Integer> sets = new ArrayList<>();
        for (int set = 0; set < Math.pow(2, houses()); set++) {
            int rubs = 0;
            for (int hand : now.hands) rubs += set / (int) Math.pow(2, hand) % 2;
            if (rubs == now.lost) sets.add(set);
        }
        return sets;
    }

    int rubbed(int what) {
        if (what < 0 || what > 2) return OUTSIDE;
        if (text == null) return STATE;
        List<Integer> sets = sets();
        if (what == 0) return sets.size();
        if (sets.isEmpty()) return NONE;
        if (what == 1) return sets.get(0);
        int all = 0;
        for (int house = 0; house < houses(); house++) {
            int bit = 1 << house;
            if (sets.stream().allMatch(set -> (set & bit) != 0)) all += bit;
        }
        return all;
    }

    int watch() {
        if (text == null) return STATE;
        List<Integer> sets = sets();
        if (sets.isEmpty()) return NONE;
        for (long left = 0; ; left++) {
            for (int house = 0; house < houses(); house++) {
                int bit = 1 << house;
                long rub = sets.stream().filter(set -> (set & bit) != 0).count();
                if (Math.max(rub, sets.size() - rub) == left) return house;
            }
        }
    }

    int markets(int sales, int seed, int what) {
        if (sales < 1 || sales > 60 || seed < 0 || what < 0 || what > 2) return OUTSIDE;
        if (text == null) return STATE;
        int[] stones = now.stones.clone();
        long next = seed;
        int got = 0;
        for (int sale = 0; sale < sales; sale++) {
            int[] draws = new int[3];
            for (int draw = 0; draw < 3; draw++) {
                next = Math.floorMod(1103515245L * next + 12345L, 2147483648L);
                draws[draw] = (int) (next / 65536 % houses());
            }
            if (draws[0] == draws[1]) continue;
            got += ounces(stones[draws[2]], now.hour + sale, draws[0]);
            wear(stones, draws[1], draws[2]);
        }
        return what == 0 ? got : what == 1 ? java.util.stream.IntStream.of(stones).sum() : (int) next;
    }

    int image() {
        if (text == null) return STATE;
        image = now.copy();
        return now.hour;
    }

    int restore() {
        if (image == null) return STATE;
        now = image.copy();
        return now.hour;
    }

    int count(int what) {
        int sum = 0;
        for (int house = 0; house < houses() && what >= 4 && what <= 6; house++) {
            sum += about(house, what == 4 ? 3 : what == 5 ? 4 : 1);
        }
        int[] all = {houses(), tilt(), now.hour, now.sales.size(), sum, sum, sum, now.hands.size(), now.lost,
            page.length(), reads, plans};
        return what < 0 || what >= all.length ? OUTSIDE : all[what];
    }

    long digest() {
        List<Long> numbers = new ArrayList<>();
        for (int house = 0; house < houses(); house++) {
            for (int what = 0; what <= 6; what++) numbers.add((long) about(house, what));
            for (int other = 0; other < houses(); other++) if (other != house) numbers.add((long) fair(house, other));
        }
        if (text != null) {
            for (int what = 0; what <= 2; what++) numbers.add((long) rubbed(what));
            numbers.add((long) watch());
        }
        for (char letter : page.toCharArray()) numbers.add((long) letter);
        for (int what = 0; what <= 11; what++) numbers.add((long) count(what));
        long h = 977;
        for (long number : numbers) h = 31 * h + number;
        return h;
    }

    static String signs() {
        return SIGNS;
    }
}
