/** Promises 1 to 5 and what a MARKET is, sentence by sentence: a method for each that names a boundary. */
public final class PageBoundariesTest {
    private static final int UNKNOWN = BuyersWeights.UNKNOWN, OUTSIDE = BuyersWeights.OUTSIDE,
        STATE = BuyersWeights.STATE, FULL = BuyersWeights.FULL;
    private static final String[] MARKETS = {"h01,r92;0", "o55,w11,m09;3", "m99,h01,o42,w28;1"};
    private static final Check CHECK = new Check();

    public static void main(String[] args) {
        newObjectHasNoMarket();
        letterTakesCodes32To126();
        letterIsFullAbove18();
        letterRoomComesBack();
        blankOfEmptyAndFull();
        faultOfAnEmptyPage();
        faultOfEachLetterInEachPlace();
        faultIsTheFirst();
        faultChangesNothing();
        twoToFourHouses();
        stone0To9Weighs10More();
        coin1To9();
        tilt0To3();
        fiveKinds();
        atFirstNoneThenHour1();
        marketLeavesThePageEmpty();
        marketIsNoneByOneLetter();
        anotherMarketIsGoneWithAllThatWas();
        housesOfABiggerMarketDoNotShineThrough();
        refusedMarketLeavesTheFormer();
        CHECK.end("PageBoundariesTest");
    }

    private static void due(String call, long got, long want) {
        CHECK.due(call, got, want);
    }

    private static BuyersWeights page(String text) {
        return Check.typed(new BuyersWeights(), text);
    }

    // ---- 1: No MARKET.

    private static void newObjectHasNoMarket() {
        BuyersWeights x = new BuyersWeights();
        for (int what = 0; what <= 11; what++) {
            due("1: count(" + what + ")", x.count(what), 0);
        }
        due("1: no house", x.about(0, 0), UNKNOWN);
        due("1: no hour", x.hour(), STATE);
        due("1: no sets", x.rubbed(0), STATE);
        due("1: no watch", x.watch(), STATE);
        due("1: no markets by a seed", x.markets(1, 0, 2), STATE);
        due("1: no image", x.image(), STATE);
        due("1: nothing kept", x.restore(), STATE);
        due("1: no letter", x.blank(), 0);
        due("1: no hand", x.clear(), 0);
    }

    // ---- 2: OUTSIDE: code (32 to 126); FULL: above 18.

    private static void letterTakesCodes32To126() {
        for (int code = -300; code <= 70000; code++) {
            boolean inside = code >= 32 && code <= 126;
            due("2: letter(" + code + ")", new BuyersWeights().letter(code), inside ? 1 : OUTSIDE);
        }
        due("2: lowest", new BuyersWeights().letter(Integer.MIN_VALUE), OUTSIDE);
        due("2: highest", new BuyersWeights().letter(Integer.MAX_VALUE), OUTSIDE);
    }

    private static void letterIsFullAbove18() {
        BuyersWeights x = new BuyersWeights();
        for (int n = 1; n <= 18; n++) {
            due("2: letter " + n, x.letter(31 + n), n);
        }
        due("2: letter 19", x.letter('h'), FULL);
        due("2: letter 20", x.letter(126), FULL);
        due("2: 18 stay", x.count(9), 18);
        due("2: the code is looked at first", x.letter(31), OUTSIDE);
        due("2: on the other side, too", x.letter(127), OUTSIDE);
    }

    private static void letterRoomComesBack() {
        BuyersWeights x = page("h01,h01;0.........");
        due("2: full", x.letter('h'), FULL);
        x.blank();
        due("2: room again behind blank()", x.letter('h'), 1);
        BuyersWeights y = page("m99,h01,o42,w28;1");
        y.market();
        for (int n = 1; n <= 18; n++) {
            due("2: room again behind market(), letter " + n, y.letter(';'), n);
        }
        due("2: full again", y.letter(';'), FULL);
    }

    // ---- 3: THE PAGE is empty: how many letters it had.

    private static void blankOfEmptyAndFull() {
        BuyersWeights x = new BuyersWeights();
        due("3: of an empty page", x.blank(), 0);
        x.letter('h');
        due("3: of one letter", x.blank(), 1);
        Check.typed(x, "h01,h01;0..........");
        due("3: of a full page", x.blank(), 18);
        due("3: empty then", x.blank(), 0);
        due("3: no letter is left", x.count(9), 0);
        CHECK.alike("3: nothing is left of it", x, new BuyersWeights());
    }

    // ---- 4: the first letter that no MARKET has there, behind those ahead of it; how many letters, if there is none.

    private static void faultOfAnEmptyPage() {
        due("4: of an empty page", new BuyersWeights().fault(), 0);
        due("4: a first letter that is wrong", page("0").fault(), 0);
        due("4: a first letter that is right", page("h").fault(), 1);
    }

    /** What a market can have in a place, by the words alone: a group of four for each house, ';', the tilt. */
    private static String allowed(String market, int at) {
        int semicolon = market.indexOf(';');
        if (at > semicolon) {
            return at == semicolon + 1 ? "0123" : "";
        }
        switch (at) {
            case 3: return ",";
            case 7: case 11: return ",;";
            case 15: return ";";
            default: return new String[] {"hrowm", "0123456789", "123456789"}[at % 4];
        }
    }

    private static void faultOfEachLetterInEachPlace() {
        for (String market : MARKETS) {
            for (int at = 0; at <= market.length(); at++) {
                for (char code = 32; code <= 126; code++) {
                    String text = market.substring(0, at) + code;
                    boolean fits = allowed(market, at).indexOf(code) >= 0;
                    due("4: fault of \"" + text + "\"", page(text).fault(), fits ? at + 1 : at);
                }
            }
        }
    }

    private static void faultIsTheFirst() {
        due("4: all are wrong", page("??????????????????").fault(), 0);
        due("4: right ones behind a wrong one", page("?h01,h01;0").fault(), 0);
        due("4: two wrong ones", page("h0?,h0?;0").fault(), 2);
        due("4: the last of 18", page("m99,h01,o42,w28;1;").fault(), 17);
        due("4: a market behind a market", page("h01,h01;0h01,h01;0").fault(), 9);
    }

    private static void faultChangesNothing() {
        for (String text : new String[] {"", "h0", "h00", "h01,h01;0"}) {
            BuyersWeights x = page(text);
            due("4: twice the same", x.fault(), x.fault());
            CHECK.alike("4: fault() of \"" + text + "\" changes nothing", x, page(text));
        }
    }

    // ---- 1 A MARKET is a text: two to four HOUSES ..; STONE (0 to 9; it weighs 10 OUNCES more), COIN (1 to 9); ..

    private static void twoToFourHouses() {
        StringBuilder houses = new StringBuilder("h01");
        for (int count = 1; count <= 4; count++) {
            String text = houses + ";0";
            due("5: \"" + text + "\"", page(text).market(), count >= 2 ? count : STATE);
            houses.append(",h01");
        }
        due("5: no house", page(";0").market(), STATE);
        due("5: one house, its ';'", page("h01;0").fault(), 3);
        due("5: a fifth house, its ','", page("h01,h01,h01,h01,h").fault(), 15);
        due("5: a fifth house", page("h01,h01,h01,h01,h0").market(), STATE);
        due("5: ',' ahead of them", page(",h01,h01;0").market(), STATE);
        due("5: ',' behind them", page("h01,h01,;0").market(), STATE);
        due("5: nothing between", page("h01h01;0").market(), STATE);
    }

    private static void stone0To9Weighs10More() {
        for (int stone = 0; stone <= 9; stone++) {
            due("5: stone " + stone, Check.marketOf("h01,h" + stone + "1;0").about(1, 1), 10 + stone);
        }
        due("5: below 0", page("h01,h/1;0").market(), STATE);
        due("5: beyond 9", page("h01,h:1;0").market(), STATE);
    }

    private static void coin1To9() {
        for (int coin = 1; coin <= 9; coin++) {
            due("5: coin " + coin, Check.marketOf("h0" + coin + ",h01;0").about(0, 2), coin);
        }
        due("5: below 1", page("h01,h00;0").market(), STATE);
        due("5: beyond 9", page("h01,h0:;0").market(), STATE);
    }

    private static void tilt0To3() {
        for (int tilt = 0; tilt <= 3; tilt++) {
            due("5: tilt " + tilt, Check.marketOf("h01,h01;" + tilt).count(1), tilt);
        }
        due("5: below 0", page("h01,h01;/").market(), STATE);
        due("5: beyond 3", page("h01,h01;4").market(), STATE);
    }

    private static void fiveKinds() {
        for (int kind = 0; kind < 5; kind++) {
            char letter = "hrowm".charAt(kind);
            due("5: kind " + letter, Check.marketOf("h01," + letter + "01;0").about(1, 0), kind);
            due("5: no capitals", page("h01," + Character.toUpperCase(letter) + "01;0").market(), STATE);
        }
    }

    private static void atFirstNoneThenHour1() {
        BuyersWeights x = page("h01,h01;0");
        due("5: a page alone has no hour", x.count(2), 0);
        x.market();
        due("5: hour 1", x.count(2), 1);
    }

    // ---- 5: how many HOUSES; THE PAGE is empty then. STATE: it is none.

    private static void marketLeavesThePageEmpty() {
        for (String market : MARKETS) {
            BuyersWeights x = page(market);
            due("5: houses of " + market, x.market(), (market.length() - 1) / 4);
            due("5: no letter", x.count(9), 0);
            due("5: no fault", x.fault(), 0);
            due("5: nothing to read again", x.market(), STATE);
            due("5: read once", x.count(10), 1);
        }
    }

    private static void marketIsNoneByOneLetter() {
        for (String market : MARKETS) {
            for (int length = 0; length < market.length(); length++) {
                String text = market.substring(0, length);
                CHECK.refused("5: market() of \"" + text + "\"", () -> page(text), BuyersWeights::market, STATE);
            }
            for (char more : " 0,;h".toCharArray()) {
                String text = market + more;
                CHECK.refused("5: market() of \"" + text + "\"", () -> page(text), BuyersWeights::market, STATE);
            }
        }
    }

    // ---- 5: (another one is gone, with all that was)

    private static void anotherMarketIsGoneWithAllThatWas() {
        BuyersWeights x = Scene.FULL.made.get();
        x.blank();
        Check.typed(x, "r13,m31;2");
        due("5: another market", x.market(), 2);
        int[] want = {2, 2, 1, 0, 0, 0, 24, 0, 0, 0, 2, 40};
        for (int what = 0; what < want.length; what++) {
            due("5: count(" + what + ") of another one", x.count(what), want[what]);
        }
        BuyersWeights fresh = Check.marketOf("r13,m31;2");
        for (int house = 0; house < 4; house++) {
            for (int what = 0; what <= 6; what++) {
                due("5: about(" + house + ", " + what + ")", x.about(house, what), fresh.about(house, what));
            }
        }
        due("5: the ledger is empty, all sets fit", x.rubbed(0), 4);
        due("5: the image is gone", x.restore(), STATE);
        due("5: sales can be made again", x.buy(0, 1, 0), 13);
        due("5: hands can be told again", x.pass(0), 1);
    }

    private static void housesOfABiggerMarketDoNotShineThrough() {
        BuyersWeights x = Scene.ONE_BELOW_FULL.made.get();
        x.blank();
        Check.typed(x, "h01,h01;0");
        x.market();
        Check.typed(x, "h12,h23,h34,h45;0");
        x.market();
        for (int house = 0; house < 4; house++) {
            due("5: stone of " + house, x.about(house, 1), 11 + house);
            due("5: coin of " + house, x.about(house, 2), 2 + house);
            for (int what = 3; what <= 6; what++) {
                due("5: about(" + house + ", " + what + ")", x.about(house, what), 0);
            }
        }
        due("5: nobody rubbed", x.rubbed(0), 16);
    }

    private static void refusedMarketLeavesTheFormer() {
        BuyersWeights x = Scene.LIVELY.made.get();
        due("5: no tilt yet", x.market(), STATE);
        due("5: the former one's image is still good", x.restore(), 1);
        x.letter('0');
        due("5: read now", x.market(), 2);
        due("5: the former one's image is not", x.restore(), STATE);
    }
}
