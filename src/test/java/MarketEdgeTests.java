import java.util.Arrays;

/** Part 3 of the document, A DAY, (3): MARKETS, who is served by whom, how many and at which price. */
final class MarketEdgeTests {
    private static final int POSTED = 0, CALLED = 1, HAGGLED = 2;
    private static final int CASH = 10000, PIECES = 500;
    private static final Expect is = new Expect();

    public static void main(String[] args) {
        pricesThatMeet();
        postedAsks();
        postedBids();
        calledPrices();
        calledTies();
        calledTillSoManyMoved();
        haggledPrices();
        haggledPairs();
        earlierOnes();
        noOffers();
        marketsByGoods();
        manyOffers();
        taxIsCut();
        taxOfEachMove();
        taxToTheFirstCouncil();
        buyingOfItself();
        largeSums();
        is.end();
    }

    /** Each agent has much of all goods and cash, and the offers of its text, parted by semicolons. */
    private static MarketTown market(int kind, String... offers) {
        MarketTown town = new MarketTown();
        town.good(0, 0, kind);
        for (int i = 0; i < offers.length; i++) {
            town.agent(Scene.AGENT, CASH);
        }
        for (int i = 0; i < offers.length; i++) {
            town.give(i, 0, PIECES);
            Scene.rules(town, i, offers[i].split(";"));
        }
        return town;
    }

    private static void inOrder(MarketTown town, int... order) {
        Scene.nextOrder(town, order);
        town.live(1);
    }

    /** Rows: buyer, seller, how much is paid in all; and nobody else pays. */
    private static void duePaid(String what, MarketTown town, int[]... rows) {
        int[][] due = new int[12][12];
        for (int[] row : rows) {
            due[row[0]][row[1]] = row[2];
        }
        int agents = town.count(0);
        for (int buyer = 0; buyer < agents; buyer++) {
            for (int seller = 0; seller < agents; seller++) {
                is.due(what + ": " + buyer + " to " + seller, town.paid(buyer, seller, 0), due[buyer][seller]);
            }
        }
    }

    private static void dueSold(String what, MarketTown town, int sold, int price) {
        is.due(what + ": sold", town.goods(0, 3), sold);
        is.due(what + ": price", town.goods(0, 2), price);
    }

    private static int[] row(int... numbers) {
        return numbers;
    }

    private static void pricesThatMeet() {
        is.sentence("each is served by asks not above its P", "bids not below it and asks not above it",
                "the highest bid is not below the lowest ask");
        int[][] prices = {{1, 1}, {999, 999}, {5, 5}, {5, 6}, {6, 5}, {1, 2}, {999, 1}, {1, 999}, {998, 999}, {999, 998}};
        for (int kind = POSTED; kind <= HAGGLED; kind++) {
            for (int[] pair : prices) {
                int bid = pair[0];
                int ask = pair[1];
                MarketTown town = market(kind, "bid 0 3 " + bid, "ask 0 4 " + ask);
                town.live(1);
                int price = kind == HAGGLED ? (bid + ask) / 2 : ask;
                boolean meet = bid >= ask;
                String what = "market " + kind + " of " + Arrays.toString(pair);
                dueSold(what, town, meet ? 3 : 0, meet ? price : 0);
                duePaid(what, town, row(0, 1, meet ? 3 * price : 0));
                is.due(what + ": came", town.has(0, 0, -1), PIECES + (meet ? 3 : 0));
                is.due(what + ": went", town.has(1, 0, -1), PIECES - (meet ? 3 : 0));
            }
        }
    }

    private static void postedAsks() {
        is.sentence("each is served by asks not above its P, the cheapest first, of these the earlier, at their price");
        MarketTown town = market(POSTED, "bid 0 9 7", "ask 0 2 7;ask 0 2 5", "ask 0 2 6;ask 0 9 8", "ask 0 2 7");
        inOrder(town, 3, 2, 1, 0);
        // 2 at 5 of 1, 2 at 6 of 2, 2 at 7 of 3, which is earlier, 2 at 7 of 1
        duePaid("all not above 7", town, row(0, 1, 24), row(0, 2, 12), row(0, 3, 14));
        dueSold("all not above 7", town, 8, 7);
        town = market(POSTED, "bid 0 5 7", "ask 0 2 7;ask 0 2 5", "ask 0 2 6;ask 0 9 8", "ask 0 2 7");
        inOrder(town, 1, 2, 3, 0);
        duePaid("the earlier of like ones", town, row(0, 1, 17), row(0, 2, 12));
        dueSold("the earlier of like ones", town, 5, 7);
        town = market(POSTED, "bid 0 5 7", "ask 0 2 7;ask 0 2 5", "ask 0 2 6;ask 0 9 8", "ask 0 2 7");
        inOrder(town, 0, 3, 2, 1);
        duePaid("an ask may come behind the bid", town, row(0, 1, 10), row(0, 2, 12), row(0, 3, 7));
    }

    private static void postedBids() {
        is.sentence("POSTED: bids, the earlier ones first");
        MarketTown town = market(POSTED, "bid 0 3 5", "bid 0 3 9", "ask 0 4 4");
        inOrder(town, 0, 1, 2);
        duePaid("the lower is earlier", town, row(0, 2, 12), row(1, 2, 4));
        town = market(POSTED, "bid 0 3 5", "bid 0 3 9", "ask 0 4 4");
        inOrder(town, 2, 1, 0);
        duePaid("the higher is earlier", town, row(1, 2, 12), row(0, 2, 4));
        town = market(POSTED, "bid 0 3 3", "bid 0 3 9", "ask 0 4 4");
        inOrder(town, 0, 1, 2);
        duePaid("one that is too low is passed by", town, row(1, 2, 12));
        town = market(POSTED, "bid 0 3 3;bid 0 1 4;bid 0 1 2;bid 0 2 9", "ask 0 2 4;ask 0 1 6", "pay 0 1");
        inOrder(town, 0, 1, 2);
        duePaid("rules by their numbers", town, row(0, 1, 4 + 4 + 6));
        dueSold("rules by their numbers", town, 3, 6);
        town = market(POSTED, "bid 0 3 9", "ask 0 3 4;ask 0 9 5", "bid 0 3 4");
        inOrder(town, 0, 2, 1);
        duePaid("an ask that is used up to the last", town, row(0, 1, 12));
        dueSold("an ask that is used up to the last", town, 3, 4);
    }

    private static void calledPrices() {
        is.sentence("CALLED: the price, of all prices of asks and bids, at which most goods move", "of several the least");
        String[][] offers = {{"bid 0 2 9;bid 0 3 6;bid 0 4 4", "ask 0 3 2;ask 0 4 5"}, {"bid 0 5 10", "ask 0 5 3"},
            {"bid 0 5 10", "ask 0 4 3;ask 0 1 10"}, {"bid 0 5 10", "ask 0 4 3;ask 0 1 11"}, {"bid 0 5 10;bid 0 5 3", "ask 0 5 3"},
            {"bid 0 5 10;bid 0 5 3", "ask 0 6 3"}, {"bid 0 1 10;bid 0 9 3", "ask 0 2 2;ask 0 9 3"},
            {"bid 0 1 10;bid 0 9 3", "ask 0 2 2;ask 0 9 4"}, {"bid 0 4 8;bid 0 4 7", "ask 0 4 7;ask 0 4 8"},
            {"bid 0 3 8;bid 0 4 7", "ask 0 4 7;ask 0 4 8"}, {"bid 0 4 8;bid 0 4 7", "ask 0 3 7;ask 0 4 8"},
            {"bid 0 4 8;bid 0 4 7", "ask 0 9 7;ask 0 9 8"}, {"bid 0 1 1", "ask 0 1 1"}, {"bid 0 1 1", "ask 0 1 2"},
            {"bid 0 6 5;bid 0 6 5", "ask 0 5 5;ask 0 5 5"}, {"bid 0 1 999;bid 0 1 998", "ask 0 1 1;ask 0 1 999"}};
        int[][] due = {{5, 5}, {5, 3}, {5, 10}, {4, 3}, {5, 3}, {6, 3}, {10, 3}, {2, 2}, {4, 7}, {4, 7}, {4, 8}, {8, 7}, {1, 1}, {0, 0},
            {10, 5}, {1, 1}};
        for (int i = 0; i < offers.length; i++) {
            MarketTown town = market(CALLED, offers[i]);
            town.live(1);
            String what = Arrays.toString(offers[i]);
            dueSold(what, town, due[i][0], due[i][1]);
            duePaid(what, town, row(0, 1, due[i][0] * due[i][1]));
        }
    }

    private static void calledTies() {
        is.sentence("bids from the highest on (the earlier first) are served by asks from the lowest on (the earlier first)",
                "till so many moved");
        String[] offers = {"bid 0 3 6", "bid 0 3 6", "bid 0 3 9", "ask 0 2 4", "ask 0 4 4;ask 0 1 2"};
        MarketTown town = market(CALLED, offers);
        inOrder(town, 1, 0, 2, 4, 3);
        // 7 move at 4: bid 2 gets 1 and 2 of 4; bid 1, earlier than 0, 2 of 4 and 1 of 3; bid 0 gets 1 of 3
        dueSold("the second bid is earlier", town, 7, 4);
        duePaid("the second bid is earlier", town, row(2, 4, 12), row(1, 4, 8), row(1, 3, 4), row(0, 3, 4));
        town = market(CALLED, offers);
        inOrder(town, 3, 4, 0, 1, 2);
        dueSold("the first bid is earlier", town, 7, 4);
        duePaid("the first bid is earlier", town, row(2, 4, 4), row(2, 3, 8), row(0, 4, 12), row(1, 4, 4));
    }

    private static void calledTillSoManyMoved() {
        is.sentence("till so many moved, all at that price");
        MarketTown town = market(CALLED, "bid 0 4 9", "bid 0 4 7", "ask 0 3 2", "ask 0 9 8");
        inOrder(town, 0, 1, 2, 3);
        // at 8 four move: the bid at 7 gets none, though an ask at 2 is below it
        dueSold("four at 8", town, 4, 8);
        duePaid("four at 8", town, row(0, 2, 24), row(0, 3, 8));
        town = market(CALLED, "bid 0 4 9", "bid 0 4 7", "ask 0 3 2", "ask 0 1 9");
        inOrder(town, 1, 0, 3, 2);
        dueSold("four at 9", town, 4, 9);
        duePaid("four at 9", town, row(0, 2, 27), row(0, 3, 9));
        town = market(CALLED, "bid 0 9 9", "bid 0 4 7", "ask 0 3 2", "ask 0 4 3");
        inOrder(town, 1, 0, 3, 2);
        dueSold("seven at 3", town, 7, 3);
        duePaid("seven at 3", town, row(0, 2, 9), row(0, 3, 12));
    }

    private static void haggledPrices() {
        is.sentence("that many move that both have, at (bid + ask) / 2");
        int[][] rows = {{10, 7, 8}, {10, 8, 9}, {10, 10, 10}, {2, 1, 1}, {999, 1, 500}, {999, 998, 998}, {999, 999, 999}, {1, 1, 1}};
        for (int[] row : rows) {
            MarketTown town = market(HAGGLED, "bid 0 2 " + row[0], "ask 0 2 " + row[1]);
            town.live(1);
            dueSold(Arrays.toString(row), town, 2, row[2]);
            duePaid(Arrays.toString(row), town, row(0, 1, 2 * row[2]));
        }
    }

    private static void haggledPairs() {
        is.sentence("HAGGLED: as long as the highest bid is not below the lowest ask (the earlier ones first)");
        MarketTown town = market(HAGGLED, "bid 0 4 9", "bid 0 4 7", "ask 0 3 2", "ask 0 9 8");
        inOrder(town, 0, 1, 2, 3);
        // 3 at 5, 1 at 8; then 7 is below 8
        dueSold("till the bid is below", town, 4, 8);
        duePaid("till the bid is below", town, row(0, 2, 15), row(0, 3, 8));
        town = market(HAGGLED, "bid 0 4 9", "bid 0 4 7", "ask 0 3 2", "ask 0 9 7");
        inOrder(town, 1, 0, 3, 2);
        // 3 at 5, 1 at 8, 4 at 7
        dueSold("not below", town, 8, 7);
        duePaid("not below", town, row(0, 2, 15), row(0, 3, 8), row(1, 3, 28));
        String[] offers = {"bid 0 3 6", "bid 0 3 6", "bid 0 3 9", "ask 0 2 4", "ask 0 4 4;ask 0 1 2"};
        town = market(HAGGLED, offers);
        inOrder(town, 1, 0, 2, 4, 3);
        // bid 2: 1 of 4 at 5, 2 of 4 at 6; bid 1: 2 of 4 and 1 of 3 at 5; bid 0: 1 of 3 at 5
        dueSold("the second bid is earlier", town, 7, 5);
        duePaid("the second bid is earlier", town, row(2, 4, 17), row(1, 4, 10), row(1, 3, 5), row(0, 3, 5));
        town = market(HAGGLED, offers);
        inOrder(town, 3, 4, 0, 1, 2);
        duePaid("the first bid is earlier", town, row(2, 4, 5), row(2, 3, 12), row(0, 4, 15), row(1, 4, 5));
    }

    private static void earlierOnes() {
        is.sentence("EARLIER is what was offered ahead that day");
        for (int kind = POSTED; kind <= HAGGLED; kind++) {
            for (int first = 0; first < 2; first++) {
                MarketTown town = market(kind, "bid 0 1 5", "bid 0 1 5", "ask 0 1 5", "ask 0 1 5");
                Scene.rules(town, 2 + first, "bid 1 1 1");
                town.unrule(3 - first);
                inOrder(town, 1 - first, first, 2, 3);
                duePaid("the bid of market " + kind, town, row(1 - first, 2 + first, 5));
                MarketTown other = market(kind, "bid 0 1 5", "ask 0 1 5", "ask 0 1 5");
                inOrder(other, 1 + first, 2 - first, 0);
                duePaid("the ask of market " + kind, other, row(0, 1 + first, 5));
                Scene.nextOrder(other, 2 - first, 1 + first, 0);
                other.live(1);
                duePaid("the ask of the next day " + kind, other, row(0, 1 + first, 5), row(0, 2 - first, 5));
            }
        }
    }

    private static void noOffers() {
        is.sentence("MARKETS, by goods");
        for (int kind = POSTED; kind <= HAGGLED; kind++) {
            String[][] offers = {{"pay 1 1", "pay 0 1"}, {"bid 0 1 1", "pay 0 1"}, {"pay 1 1", "ask 0 1 1"}, {"bid 1 1 1", "ask 0 1 1"}};
            for (String[] two : offers) {
                MarketTown town = market(kind, two);
                town.live(1);
                dueSold(kind + Arrays.toString(two), town, 0, 0);
                is.due("cash", town.count(2), 2 * CASH);
            }
        }
    }

    private static void marketsByGoods() {
        is.sentence("a MARKET (0 POSTED, at first, 1 CALLED, 2 HAGGLED)");
        MarketTown town = Scene.of(Scene.AGENT, CASH, Scene.AGENT, 0);
        for (int good = 0; good < 5; good++) {
            town.give(1, good, 9);
            Scene.rules(town, 0, "bid " + good + " 2 " + (9 + good));
            Scene.rules(town, 1, "ask " + good + " 3 " + (4 + good));
        }
        town.good(1, 0, CALLED);
        town.good(2, 0, HAGGLED);
        town.good(3, 0, CALLED);
        town.good(3, 0, POSTED);
        town.live(1);
        int[] prices = {4, 5, 8, 7, 8};
        for (int good = 0; good < 5; good++) {
            is.due("price of " + good, town.goods(good, 2), prices[good]);
            is.due("sold of " + good, town.goods(good, 3), 2);
        }
        town.good(4, 0, HAGGLED);
        town.live(1);
        is.due("another market from now on", town.goods(4, 2), 10);
        is.due("sold in all", town.goods(4, 3), 4);
        offersOfOtherGoods();
    }

    private static void offersOfOtherGoods() {
        is.sentence("MARKETS, by goods");
        for (int kind = POSTED; kind <= HAGGLED; kind++) {
            MarketTown town = Scene.of(Scene.AGENT, CASH, Scene.AGENT, CASH);
            town.give(1, 0, 9);
            town.give(1, 2, 9);
            town.give(1, 4, 9);
            town.good(2, 0, kind);
            Scene.rules(town, 1, "ask 0 1 7", "ask 0 1 6", "ask 0 1 8", "ask 2 2 5", "ask 4 1 2", "ask 4 2 1");
            Scene.rules(town, 0, "bid 0 1 1", "bid 0 1 2", "bid 2 1 5", "bid 2 5 9", "bid 4 9 1", "bid 4 9 3");
            town.live(1);
            is.due("sold of 0 at prices that do not meet", town.goods(0, 3), 0);
            is.due("sold of 2, all there are", town.goods(2, 3), 2);
            // posted: both at 5; called: both at 5; haggled: the higher bid gets both at 7
            is.due("price of 2", town.goods(2, 2), kind == HAGGLED ? 7 : 5);
            is.due("sold of 4, one at 2", town.goods(4, 3), 3);
            is.due("price of 4", town.goods(4, 2), 2);
        }
    }

    private static void manyOffers() {
        is.sentence("AGENTS, 12 at most", "RULES of an AGENT, 6 at most");
        for (int kind = POSTED; kind <= HAGGLED; kind++) {
            MarketTown town = new MarketTown();
            town.good(4, 0, kind);
            for (int i = 0; i < 12; i++) {
                town.agent(Scene.AGENT, 1000);
                town.give(i, 4, 60);
            }
            for (int i = 0; i < 12; i++) {
                for (int rule = 0; rule < 6; rule++) {
                    Scene.rules(town, i, (i < 6 ? "bid 4 10 " : "ask 4 10 ") + 5);
                }
            }
            town.live(1);
            is.due("all of 36 bids and 36 asks", town.goods(4, 3), 360);
            for (int i = 0; i < 12; i++) {
                is.due("cash of " + i, town.about(i, 1), i < 6 ? 700 : 1300);
                is.due("goods of " + i, town.has(i, 4, -1), i < 6 ? 120 : 0);
            }
            MarketTown one = new MarketTown();
            one.good(4, 0, kind);
            for (int i = 0; i < 12; i++) {
                one.agent(Scene.AGENT, 1000);
                one.give(i, 4, 60);
                for (int rule = 0; rule < 6; rule++) {
                    Scene.rules(one, i, i == 11 ? "bid 4 999 1" : "ask 4 1 1");
                }
            }
            one.live(1);
            is.due("all of 66 asks", one.goods(4, 3), 66);
            is.due("one buys all", one.has(11, 4, -1), 126);
        }
    }

    /** Rows: TAX, price, how many, and what is due of it. */
    private static void taxIsCut() {
        is.sentence("then the seller pays TAX (per thousand of that, cut)");
        int[][] rows = {{1, 999, 1, 0}, {1, 500, 2, 1}, {1, 333, 3, 0}, {1, 999, 3, 2}, {999, 1, 1, 0}, {1000, 1, 1, 1}, {500, 1, 1, 0},
            {500, 1, 2, 1}, {500, 3, 1, 1}, {0, 999, 9, 0}, {1000, 999, 9, 8991}, {999, 999, 9, 8982}, {100, 7, 3, 2},
            {334, 3, 1, 1}, {333, 3, 1, 0}};
        for (int kind = POSTED; kind <= HAGGLED; kind++) {
            for (int[] row : rows) {
                MarketTown town = market(kind, "bid 0 " + row[2] + " " + row[1], "ask 0 " + row[2] + " " + row[1]);
                town.agent(Scene.COUNCIL, 0);
                town.policy(row[0], 0);
                town.live(1);
                String what = Arrays.toString(row);
                is.due(what + ": tax", town.paid(1, 2, 1), row[3]);
                is.due(what + ": the council", town.about(2, 1), row[3]);
                is.due(what + ": the seller", town.about(1, 1), CASH + row[1] * row[2] - row[3]);
                is.due(what + ": the buyer", town.about(0, 1), CASH - row[1] * row[2]);
                is.due(what + ": all", town.count(7), row[1] * row[2] + row[3]);
            }
        }
    }

    private static void taxOfEachMove() {
        is.sentence("As goods move, the buyer pays the seller price times many; then the seller pays TAX");
        for (int kind = POSTED; kind <= HAGGLED; kind++) {
            MarketTown town = market(kind, "bid 0 1 3;bid 0 1 3;bid 0 1 3", "ask 0 3 3");
            town.agent(Scene.COUNCIL, 0);
            town.policy(300, 0);
            town.live(1);
            is.due("three moves of 3, cut each: market " + kind, town.paid(1, 2, 1), 0);
            town = market(kind, "bid 0 3 3", "ask 0 3 3");
            town.agent(Scene.COUNCIL, 0);
            town.policy(300, 0);
            town.live(1);
            is.due("one move of 9: market " + kind, town.paid(1, 2, 1), 2);
        }
    }

    private static void taxToTheFirstCouncil() {
        is.sentence("to the first COUNCIL, if there is one");
        MarketTown town = market(POSTED, "bid 0 1 10", "ask 0 1 10");
        town.policy(1000, 0);
        town.agent(Scene.BANK, 0);
        town.live(1);
        is.due("none, no tax", town.count(7), 10);
        is.due("the seller keeps all", town.about(1, 1), CASH + 10);
        town.agent(Scene.COUNCIL, 0);
        town.agent(Scene.COUNCIL, 0);
        town.live(1);
        is.due("the first", town.about(3, 1), 10);
        is.due("not the second", town.about(4, 1), 0);
        is.sentence("PAID from one AGENT to another one (or itself)");
        MarketTown own = Scene.of(Scene.COUNCIL, 50, Scene.COUNCIL, 50);
        own.policy(500, 0);
        own.give(0, 0, 5);
        own.give(1, 1, 5);
        Scene.rules(own, 0, "ask 0 5 2", "bid 1 5 2");
        Scene.rules(own, 1, "bid 0 5 2", "ask 1 5 2");
        own.live(1);
        is.due("the first to itself", own.paid(0, 0, 1), 5);
        is.due("the second to the first", own.paid(1, 0, 1), 5);
        is.due("none to the second", own.paid(0, 1, 1) + own.paid(1, 1, 1), 0);
        is.due("cash of the first", own.about(0, 1), 55);
    }

    private static void buyingOfItself() {
        is.sentence("(An AGENT may buy of itself.)");
        for (int kind = POSTED; kind <= HAGGLED; kind++) {
            MarketTown town = market(kind, "ask 0 3 4;bid 0 3 4");
            town.live(1);
            duePaid("alone", town, row(0, 0, 12));
            dueSold("alone", town, 3, 4);
            is.due("its cash", town.about(0, 1), CASH);
            is.due("its goods", town.has(0, 0, -1), PIECES);
            MarketTown poor = Scene.of(Scene.AGENT, 12, Scene.COUNCIL, 0);
            poor.good(0, 0, kind);
            poor.policy(1000, 0);
            poor.give(0, 0, 3);
            Scene.rules(poor, 0, "ask 0 9 4", "bid 0 9 4");
            poor.live(1);
            is.due("all its cash is tax", poor.about(0, 1), 0);
            is.due("the council", poor.about(1, 1), 12);
            is.due("paid to itself", poor.paid(0, 0, 0), 12);
            is.due("its goods stay", poor.has(0, 0, -1), 3);
        }
    }

    private static void largeSums() {
        is.sentence("all together since the beginning");
        MarketTown town = Scene.of(Scene.COUNCIL, 100000, Scene.AGENT, 100000);
        town.policy(1000, 0);
        town.give(0, 0, 999);
        town.give(1, 0, 999);
        Scene.rules(town, 0, "ask 0 999 100", "bid 0 999 100");
        Scene.days(town, 700);
        is.due("goods", town.paid(0, 0, 0), 700 * 99900);
        is.due("tax", town.paid(0, 0, 1), 700 * 99900);
        is.due("both", town.paid(0, 0, -1), 2 * 700 * 99900);
        is.due("all", town.count(7), 2 * 700 * 99900);
        is.due("sold", town.goods(0, 3), 700 * 999);
        is.due("cash", town.count(2), 200000);
    }
}
