/** Promise 12: what a day does, part by part, as the document tells it in '3 A DAY'. */
final class DayTests {
    private static final int BAD = MarketTown.BAD, NONE = MarketTown.NONE;
    private static final int HOUSE = 1, MAKER = 2, SHOP = 3, BANK = 4, COUNCIL = 5;
    private static final Expect is = new Expect();

    public static void main(String[] args) {
        howManyDays();
        theOrder();
        everyAndConditions();
        whoMayAct();
        making();
        eating();
        asksAndBids();
        payingOfWhatIsFree();
        lending();
        postedMarket();
        calledMarket();
        calledMarketOfSeveralPrices();
        haggledMarket();
        taxes();
        buyingOfOneself();
        loansThatArePaid();
        loansThatAreNot();
        brokeAgents();
        lentOnTheSameDay();
        ages();
        exampleOfReadme();
        is.end();
    }

    private static void howManyDays() {
        MarketTown town = new MarketTown();
        int[] bad = {0, -1, 31, Integer.MIN_VALUE, Integer.MAX_VALUE};
        for (int n : bad) {
            is.due("12: live(" + n + ")", town.live(n), BAD);
        }
        is.due("12: no day", town.count(1), 0);
        is.due("12: one", town.live(1), 1);
        for (int i = 1; i <= 23; i++) {
            is.due("12: thirty more", town.live(30), 1 + 30 * i);
        }
        is.due("12: 701", town.live(10), BAD);
        is.due("12: 691 still", town.count(1), 691);
        is.due("12: 700", town.live(9), 700);
        is.due("12: no more", town.live(1), BAD);
        is.due("12: 700 still", town.count(1), 700);
    }

    private static void theOrder() {
        MarketTown town = new MarketTown();
        for (int i = 0; i < 12; i++) {
            town.agent(i == 3 ? HOUSE : 0, 0);
        }
        is.due("12: no order yet", town.about(5, 6), NONE);
        long lots = 987654321;
        town.lots((int) lots);
        for (int day = 0; day < 30; day++) {
            town.live(1);
            int[] row = new int[12];
            for (int i = 0; i < 12; i++) {
                row[i] = i;
            }
            for (int i = 11; i >= 1; i--) {
                lots = (lots * 1103515245L + 12345L) & 0x7fffffffL;
                int j = (int) ((lots >> 16) % (i + 1));
                int there = row[i];
                row[i] = row[j];
                row[j] = there;
            }
            for (int i = 0; i < 12; i++) {
                is.due("12: the place of " + row[i], town.about(row[i], 6), i);
            }
            is.due("12: lots", town.count(6), lots);
        }
    }

    private static void everyAndConditions() {
        String[] texts = {"every 3 pay 1 1", "if day < 2 pay 1 1", "if day > 2 pay 1 1", "every 2 if day > 2 pay 1 1",
            "if cash < 98 pay 1 1", "if cash > 98 pay 1 1", "if have 2 < 3 pay 1 1", "if have 2 < 4 pay 1 1",
            "if have 2 > 3 pay 1 1", "if have 2 > 2 pay 1 1", "if price 4 < 1 pay 1 1", "if price 4 < 0 pay 1 1",
            "if price 4 > 0 pay 1 1", "if have 1 < 1 pay 1 1", "every 99 pay 1 1", "every 9 pay 1 1"};
        int[] due = {4, 2, 7, 3, 0, 2, 0, 10, 0, 10, 10, 0, 0, 10, 1, 2};
        for (int i = 0; i < texts.length; i++) {
            MarketTown town = new MarketTown();
            town.agent(0, 100);
            town.agent(0, 0);
            town.give(0, 2, 3);
            Expect.rule(town, 0, texts[i]);
            town.live(10);
            is.due("12: fired: " + texts[i], town.told(0, 0, 8), due[i]);
            is.due("12: paid: " + texts[i], town.paid(0, 1, 2), due[i]);
        }
        conditionsSeeTheMomentAndAll();
    }

    private static void conditionsSeeTheMomentAndAll() {
        MarketTown town = new MarketTown();
        town.agent(0, 10);
        town.agent(0, 0);
        town.give(0, 0, 5);
        Expect.rule(town, 0, "ask 0 5 9");
        Expect.rule(town, 0, "bid 1 1 10");
        Expect.rule(town, 0, "if have 0 > 4 pay 1 1");
        Expect.rule(town, 0, "if cash > 9 pay 1 1");
        town.live(1);
        is.due("12: offered goods are had", town.told(0, 2, 8), 1);
        is.due("12: held cash is had", town.told(0, 3, 8), 1);
        is.due("12: but not free", town.about(0, 1), 10);
        town = new MarketTown();
        town.agent(0, 10);
        town.agent(0, 0);
        Expect.rule(town, 0, "if cash > 9 pay 1 1");
        Expect.rule(town, 0, "if cash > 9 pay 1 1");
        Expect.rule(town, 0, "if cash < 10 pay 1 1");
        town.live(1);
        is.due("12: the first fires", town.told(0, 0, 8), 1);
        is.due("12: the second sees what it did", town.told(0, 1, 8), 0);
        is.due("12: so does the third", town.told(0, 2, 8), 1);
    }

    private static void whoMayAct() {
        int[][] may = {{0, 0, 0}, {0, 1, 0}, {1, 0, 0}, {1, 0, 0}, {0, 0, 1}, {0, 0, 1}};
        for (int kind = 0; kind < 6; kind++) {
            MarketTown town = new MarketTown();
            town.agent(kind, 100);
            town.agent(0, 0);
            town.recipe(1, 0, 0, 0, 0);
            town.give(0, 0, 9);
            Expect.rule(town, 0, "make 1 2");
            Expect.rule(town, 0, "eat 0 3");
            Expect.rule(town, 0, "lend 1 4 30");
            Expect.rule(town, 0, "pay 1 5");
            Expect.rule(town, 0, "ask 0 1 5");
            Expect.rule(town, 0, "bid 0 1 1");
            town.live(1);
            is.due("12: kind " + kind + " makes", town.has(0, 1, -1), 2 * may[kind][0]);
            is.due("12: kind " + kind + " eats", town.goods(0, 4), 3 * may[kind][1]);
            is.due("12: kind " + kind + " lends", town.paid(0, 1, 3), 4 * may[kind][2]);
            for (int rule = 0; rule < 3; rule++) {
                is.due("12: kind " + kind + " fires " + rule, town.told(0, rule, 8), may[kind][rule]);
            }
            for (int rule = 3; rule < 6; rule++) {
                is.due("12: kind " + kind + " fires " + rule, town.told(0, rule, 8), 1);
            }
        }
    }

    private static void making() {
        MarketTown town = new MarketTown();
        town.agent(MAKER, 0);
        town.recipe(0, 1, 2, 2, 3);
        town.give(0, 1, 20);
        town.give(0, 2, 10);
        Expect.rule(town, 0, "make 0 9");
        town.live(1);
        is.due("12: made what b allows", town.has(0, 0, -1), 3);
        is.due("12: a went", town.has(0, 1, -1), 14);
        is.due("12: b went", town.has(0, 2, -1), 1);
        is.due("12: made", town.goods(0, 5), 3);
        is.due("12: of age 0, a day on", town.has(0, 0, 1), 3);
        town.recipe(0, 0, 1, 0, 1);
        town.live(1);
        is.due("12: of itself, both numbers together", town.has(0, 0, -1), 2);
        is.due("12: the oldest went", town.has(0, 0, 2), 1);
        is.due("12: new ones came", town.has(0, 0, 1), 1);
        town.recipe(0, 3, 0, 1, 7);
        town.live(1);
        is.due("12: none needed of one", town.has(0, 0, -1), 4);
        is.due("12: all went of the other", town.has(0, 1, -1), 0);
        town.live(1);
        is.due("12: nothing to make it of", town.has(0, 0, -1), 4);
        is.due("12: it fired", town.told(0, 0, 8), 4);
        town.recipe(0, 0, -1, 0, 0);
        town.live(1);
        is.due("12: no recipe", town.has(0, 0, -1), 4);
        is.due("12: it fired", town.told(0, 0, 8), 5);
        is.due("12: made in all", town.goods(0, 5), 3 + 1 + 2);
        makingOfWhatIsFree();
    }

    private static void makingOfWhatIsFree() {
        MarketTown town = new MarketTown();
        town.agent(SHOP, 0);
        town.recipe(0, 1, 1, 1, 1);
        town.give(0, 1, 9);
        Expect.rule(town, 0, "ask 1 4 5");
        Expect.rule(town, 0, "make 0 9");
        Expect.rule(town, 0, "make 0 9");
        town.live(1);
        is.due("12: made of what is free", town.has(0, 0, -1), 2);
        is.due("12: what is offered stays", town.has(0, 1, -1), 5);
    }

    private static void eating() {
        MarketTown town = new MarketTown();
        town.agent(HOUSE, 0);
        town.give(0, 0, 5);
        town.live(1);
        town.give(0, 0, 5);
        Expect.rule(town, 0, "ask 0 2 9");
        Expect.rule(town, 0, "eat 0 6");
        town.live(1);
        is.due("12: the oldest are eaten", town.has(0, 0, 2), 0);
        is.due("12: then newer ones", town.has(0, 0, 1), 4);
        is.due("12: eaten", town.goods(0, 4), 6);
        town.live(1);
        is.due("12: what is free", town.has(0, 0, -1), 2);
        is.due("12: eaten", town.goods(0, 4), 8);
        town.live(1);
        is.due("12: nothing is free", town.goods(0, 4), 8);
        is.due("12: it fired", town.told(0, 1, 8), 3);
    }

    private static void asksAndBids() {
        MarketTown town = new MarketTown();
        town.agent(0, 0);
        town.agent(0, 25);
        town.give(0, 0, 10);
        Expect.rule(town, 0, "ask 0 6 1");
        Expect.rule(town, 0, "ask 0 6 2");
        Expect.rule(town, 0, "ask 0 6 1");
        Expect.rule(town, 1, "bid 0 2 3");
        Expect.rule(town, 1, "bid 0 9 4");
        Expect.rule(town, 1, "bid 0 9 3");
        Expect.rule(town, 1, "bid 0 9 1");
        town.live(1);
        is.due("12: 2 for 3, 4 for 4, 1 for 3 are bid", town.has(1, 0, -1), 7);
        is.due("12: six at 1, one at 2", town.about(1, 1), 25 - 8);
        is.due("12: the price is the latest one", town.goods(0, 2), 2);
        is.due("12: what was not sold stays", town.has(0, 0, -1), 3);
        town.unrule(1);
        town.unrule(1);
        town.unrule(1);
        town.unrule(1);
        town.live(1);
        Expect.rule(town, 1, "bid 0 9 1");
        Expect.rule(town, 1, "bid 0 9 2");
        town.live(1);
        is.due("12: offers last a day", town.has(1, 0, -1), 10);
        is.due("12: three at 1", town.about(1, 1), 25 - 8 - 3);
    }

    private static void payingOfWhatIsFree() {
        MarketTown town = new MarketTown();
        town.agent(0, 10);
        town.agent(0, 0);
        Expect.rule(town, 0, "pay 1 3");
        Expect.rule(town, 0, "bid 0 2 2");
        Expect.rule(town, 0, "pay 1 9");
        Expect.rule(town, 0, "pay 1 9");
        town.live(1);
        is.due("12: paid but for what the bid holds", town.paid(0, 1, 2), 6);
        is.due("12: what is left", town.about(0, 1), 4);
        is.due("12: all fired", town.told(0, 3, 8), 1);
        is.due("12: by no other reason", town.paid(0, 1, -1), 6);
    }

    private static void lending() {
        MarketTown town = new MarketTown();
        town.agent(BANK, 30);
        town.agent(0, 0);
        town.policy(0, 50);
        Expect.rule(town, 0, "lend 1 5 30");
        Expect.rule(town, 0, "bid 0 1 4");
        Expect.rule(town, 0, "lend 1 20 7");
        Expect.rule(town, 0, "lend 1 20 7");
        Expect.rule(town, 0, "lend 1 20 7");
        town.live(1);
        int[][] due = {{0, 1, 7, 30}, {0, 1, 30, 7}, {0, 1, 1, 7}};
        is.due("12: no loan of nothing", town.count(3), 3);
        for (int i = 0; i < 3; i++) {
            for (int what = 0; what < 4; what++) {
                is.due("12: loan(" + i + ", " + what + ")", town.loan(i, what), due[i][what]);
            }
        }
        is.due("12: lent", town.paid(0, 1, 3), 26);
        is.due("12: held", town.about(0, 1), 4);
        is.due("12: owes", town.about(1, 4), 38);
        is.due("12: is owed", town.about(0, 5), 38);
        noMoreThanTwentyLoans();
    }

    private static void noMoreThanTwentyLoans() {
        MarketTown town = new MarketTown();
        town.agent(COUNCIL, 1000);
        town.agent(0, 0);
        for (int i = 0; i < 6; i++) {
            Expect.rule(town, 0, "lend 1 3 6");
        }
        town.live(4);
        is.due("12: twenty", town.count(3), 20);
        is.due("12: nothing is done", town.paid(0, 1, 3), 60);
        is.due("12: but fired", town.told(0, 5, 8), 4);
        town.live(3);
        is.due("12: six were paid at the end of the day", town.count(3), 14);
        is.due("12: paid", town.paid(1, 0, 4), 18);
        town.live(1);
        is.due("12: six more were lent, six were paid", town.count(3), 14);
        is.due("12: the latest is due on day", town.loan(13, 3), 13);
    }

    /** Agents 0 and 1 bid, 2 and 3 ask; agent 0 is rich. */
    private static MarketTown marketTown(int market, String... rules) {
        MarketTown town = new MarketTown();
        for (int i = 0; i < rules.length; i++) {
            town.agent(0, 10000);
            town.give(i, 0, 100);
        }
        town.good(0, 0, market);
        for (int i = 0; i < rules.length; i++) {
            String[] parts = rules[i].split(";");
            for (String part : parts) {
                is.holds("a rule: " + part, Expect.rule(town, i, part) >= 0);
            }
        }
        return town;
    }

    private static void dueCash(String what, MarketTown town, int... gains) {
        for (int i = 0; i < gains.length; i++) {
            is.due(what + ": the gain of " + i, town.about(i, 1) - 10000, gains[i]);
        }
    }

    private static void inRisingOrder(MarketTown town) {
        int[] order = new int[town.count(0)];
        for (int i = 0; i < order.length; i++) {
            order[i] = i;
        }
        Scene.nextOrder(town, order);
    }

    private static void postedMarket() {
        MarketTown town = marketTown(0, "bid 0 5 10", "bid 0 5 20", "ask 0 4 8;ask 0 3 12", "ask 0 4 8;ask 0 2 5");
        inRisingOrder(town);
        town.live(1);
        // bid 0: 2 of agent 3 at 5, 3 of agent 2 at 8; bid 1: 1 of agent 2 at 8, 4 of agent 3 at 8
        dueCash("12: posted", town, -34, -40, 32, 42);
        is.due("12: posted: the price", town.goods(0, 2), 8);
        is.due("12: posted: sold", town.goods(0, 3), 10);
        town = marketTown(0, "bid 0 5 7", "bid 0 5 20", "ask 0 4 8;ask 0 9 12", "ask 0 1 7");
        inRisingOrder(town);
        town.live(1);
        // the first bid gets 1 at 7, then asks are above it; the second one gets 4 at 8 and 1 at 12
        dueCash("12: posted, not above", town, -7, -44, 44, 7);
        is.due("12: posted: the price", town.goods(0, 2), 12);
        town = marketTown(0, "bid 0 5 20", "bid 0 5 9", "ask 0 4 8;ask 0 9 12", "ask 0 1 7");
        inRisingOrder(town);
        town.live(1);
        // the earlier bid gets 1 at 7 and 4 at 8; the later one finds asks above it alone
        dueCash("12: posted, the earlier bid first", town, -39, 0, 32, 7);
        town = marketTown(0, "bid 0 5 9", "bid 0 5 20", "ask 0 4 8;ask 0 9 12", "ask 0 1 7");
        inRisingOrder(town);
        town.live(1);
        dueCash("12: posted, though the later is higher", town, -39, -60, 92, 7);
        town = marketTown(0, "bid 0 5 7", "ask 0 5 8");
        town.live(1);
        dueCash("12: posted, none", town, 0, 0);
        is.due("12: posted: no price", town.goods(0, 2), 0);
        is.due("12: posted: none sold", town.goods(0, 3), 0);
    }

    private static void calledMarket() {
        MarketTown town = marketTown(1, "bid 0 5 10", "bid 0 5 20", "ask 0 4 8;ask 0 3 12", "ask 0 4 8;ask 0 2 5");
        inRisingOrder(town);
        town.live(1);
        // 10 move at 8: bid 1 gets 2 of agent 3, 3 of 2; bid 0 gets 1 of agent 2, 4 of 3
        dueCash("12: called", town, -40, -40, 32, 48);
        is.due("12: called: the price", town.goods(0, 2), 8);
        is.due("12: called: sold", town.goods(0, 3), 10);
        is.due("12: called: 0 of 2", town.paid(0, 2, 0), 8);
        is.due("12: called: 0 of 3", town.paid(0, 3, 0), 32);
        is.due("12: called: 1 of 2", town.paid(1, 2, 0), 24);
        is.due("12: called: 1 of 3", town.paid(1, 3, 0), 16);
    }

    private static void calledMarketOfSeveralPrices() {
        MarketTown town = marketTown(1, "bid 0 5 10", "ask 0 5 3");
        town.live(1);
        is.due("12: called: the least of several", town.goods(0, 2), 3);
        town = marketTown(1, "bid 0 5 10;bid 0 5 7", "ask 0 5 3;ask 0 5 6");
        town.live(1);
        is.due("12: called: the most", town.goods(0, 3), 10);
        is.due("12: called: its price", town.goods(0, 2), 6);
        town = marketTown(1, "bid 0 5 10;bid 0 5 7", "ask 0 5 3;ask 0 5 8");
        town.live(1);
        is.due("12: called: the later ask is too dear for the second bid", town.goods(0, 3), 5);
        is.due("12: called: its price", town.goods(0, 2), 3);
        town = marketTown(1, "bid 0 5 10;bid 0 5 9", "ask 0 4 3;ask 0 5 9;ask 0 5 10");
        town.live(1);
        is.due("12: called: nine move", town.goods(0, 3), 9);
        is.due("12: called: at 9", town.goods(0, 2), 9);
        town = marketTown(1, "bid 0 5 2", "ask 0 5 3");
        town.live(1);
        is.due("12: called: none", town.goods(0, 3), 0);
        is.due("12: called: no price", town.goods(0, 2), 0);
        town = marketTown(1, "bid 0 5 2", "pay 0 1");
        town.live(1);
        is.due("12: called: no asks", town.goods(0, 3), 0);
    }

    private static void haggledMarket() {
        MarketTown town = marketTown(2, "bid 0 5 10", "bid 0 5 20", "ask 0 4 8;ask 0 3 12", "ask 0 4 8;ask 0 2 5");
        inRisingOrder(town);
        town.live(1);
        // bid 1: 2 of agent 3 at 12, 3 of 2 at 14; bid 0: 1 of agent 2 at 9, 4 of 3 at 9
        dueCash("12: haggled", town, -45, -66, 51, 60);
        is.due("12: haggled: the price", town.goods(0, 2), 9);
        is.due("12: haggled: sold", town.goods(0, 3), 10);
        town = marketTown(2, "bid 0 5 10;bid 0 5 7", "ask 0 3 3;ask 0 3 8;ask 0 1 10");
        town.live(1);
        dueCash("12: haggled: 3 at 6, 2 at 9", town, -36, 36);
        town = marketTown(2, "bid 0 5 10;bid 0 1 10", "ask 0 3 10");
        town.live(1);
        dueCash("12: haggled: at what both say", town, -30, 30);
        town = marketTown(2, "bid 0 5 9", "ask 0 3 10");
        town.live(1);
        dueCash("12: haggled: none", town, 0, 0);
    }

    private static void taxes() {
        MarketTown town = new MarketTown();
        town.agent(0, 1000);
        town.agent(0, 0);
        town.agent(COUNCIL, 0);
        town.agent(COUNCIL, 0);
        town.policy(150, 0);
        town.give(1, 0, 99);
        town.give(2, 1, 99);
        Expect.rule(town, 0, "bid 0 3 7");
        Expect.rule(town, 0, "bid 0 2 6");
        Expect.rule(town, 0, "bid 1 9 5");
        Expect.rule(town, 1, "ask 0 99 6");
        Expect.rule(town, 2, "ask 1 99 5");
        town.live(1);
        is.due("12: tax of 18 and of 12, each cut", town.paid(1, 2, 1), 3);
        is.due("12: tax to itself", town.paid(2, 2, 1), 6);
        is.due("12: the second council gets none", town.about(3, 1), 0);
        is.due("12: the seller", town.about(1, 1), 27);
        is.due("12: the council", town.about(2, 1), 48);
        is.due("12: the buyer", town.about(0, 1), 1000 - 75);
        is.due("12: all that was paid", town.count(7), 75 + 9);
        MarketTown free = marketTown(0, "bid 0 5 10", "ask 0 5 3");
        free.policy(500, 0);
        free.live(1);
        is.due("12: no council, no tax", free.count(7), 15);
    }

    private static void buyingOfOneself() {
        for (int market = 0; market < 3; market++) {
            MarketTown town = new MarketTown();
            town.agent(0, 10);
            town.agent(COUNCIL, 0);
            town.policy(1000, 0);
            town.good(0, 0, market);
            town.give(0, 0, 2);
            town.live(1);
            town.give(0, 0, 2);
            Expect.rule(town, 0, "bid 0 3 3");
            Expect.rule(town, 0, "ask 0 3 3");
            town.live(1);
            is.due("12: paid to itself", town.paid(0, 0, 0), 9);
            is.due("12: tax of that", town.paid(0, 1, 1), 9);
            is.due("12: cash", town.about(0, 1), 1);
            is.due("12: sold", town.goods(0, 3), 3);
            is.due("12: goods of age 2 stay", town.has(0, 0, 2), 2);
            is.due("12: goods of age 1 stay", town.has(0, 0, 1), 2);
        }
    }

    private static void loansThatArePaid() {
        MarketTown town = new MarketTown();
        town.agent(BANK, 100);
        town.agent(0, 10);
        town.policy(0, 10);
        Expect.rule(town, 0, "if day < 1 lend 1 50 3");
        Expect.rule(town, 0, "if day < 1 lend 1 40 1");
        town.live(1);
        is.due("12: both are open", town.count(3), 2);
        town.live(1);
        is.due("12: the second is paid", town.paid(1, 0, 4), 44);
        is.due("12: the first is open", town.loan(0, 2), 55);
        town.live(1);
        is.due("12: the first still", town.count(3), 1);
        town.live(1);
        is.due("12: all is paid", town.paid(1, 0, 4), 99);
        is.due("12: none is open", town.count(3), 0);
        is.due("12: not broke", town.about(1, 2), 0);
        is.due("12: cash", town.about(1, 1), 1);
    }

    private static void loansThatAreNot() {
        MarketTown town = new MarketTown();
        town.agent(BANK, 1000);
        town.agent(0, 0);
        town.agent(COUNCIL, 1000);
        town.agent(0, 0);
        Expect.rule(town, 0, "if day < 1 lend 1 7 2");
        Expect.rule(town, 0, "if day < 1 lend 1 7 9");
        Expect.rule(town, 0, "if day < 1 lend 3 5 9");
        Expect.rule(town, 2, "every 30 lend 1 7 2");
        Expect.rule(town, 1, "if day > 0 pay 3 16");
        inRisingOrder(town);
        town.live(1);
        is.due("12: four are open", town.count(3), 4);
        is.due("12: owes", town.about(1, 4), 21);
        town.live(1);
        is.due("12: five are left", town.about(1, 1), 5);
        is.due("12: not broke yet", town.about(1, 2), 0);
        town.unrule(1);
        town.live(1);
        // 5 * 7 / 21 is 1 for each of the three loans; the 2 left go to the first two of them, the bank's
        is.due("12: broke", town.about(1, 2), 1);
        is.due("12: no cash", town.about(1, 1), 0);
        is.due("12: owes nothing", town.about(1, 4), 0);
        is.due("12: the other's loan is open", town.count(3), 1);
        is.due("12: it is of the other", town.loan(0, 1), 3);
        is.due("12: to the bank", town.paid(1, 0, 4), 4);
        is.due("12: to the council", town.paid(1, 2, 4), 1);
        is.due("12: one is broke", town.count(4), 1);
        firstDueFirstPaid();
        unequalShares();
    }

    private static void firstDueFirstPaid() {
        MarketTown town = new MarketTown();
        town.agent(BANK, 1000);
        town.agent(0, 0);
        town.agent(0, 0);
        Expect.rule(town, 0, "if day < 1 lend 1 7 2");
        Expect.rule(town, 0, "if day < 1 lend 1 8 2");
        Expect.rule(town, 1, "if day > 0 pay 2 5");
        town.live(2);
        town.unrule(1);
        town.live(1);
        is.due("12: seven for the first, three for the second", town.paid(1, 0, 4), 10);
        is.due("12: broke by the second", town.about(1, 2), 1);
    }

    private static void unequalShares() {
        MarketTown town = new MarketTown();
        town.agent(BANK, 1000);
        town.agent(BANK, 1000);
        town.agent(0, 0);
        town.agent(0, 0);
        Expect.rule(town, 0, "if day < 1 lend 2 100 1");
        Expect.rule(town, 1, "if day < 1 lend 2 3 5");
        Expect.rule(town, 2, "pay 3 99");
        inRisingOrder(town);
        town.live(1);
        town.unrule(2);
        is.due("12: cash", town.about(2, 1), 4);
        town.live(1);
        // 4 * 100 / 103 is 3, 4 * 3 / 103 is 0; the one left comes to the first loan
        is.due("12: to the first", town.paid(2, 0, 4), 4);
        is.due("12: to the second", town.paid(2, 1, 4), 0);
        is.due("12: closed though not due", town.count(3), 0);
    }

    private static void brokeAgents() {
        MarketTown town = new MarketTown();
        town.agent(BANK, 1000);
        town.agent(HOUSE, 0);
        town.agent(0, 0);
        town.give(1, 0, 10);
        Expect.rule(town, 0, "lend 1 10 1");
        Expect.rule(town, 1, "pay 2 10");
        Expect.rule(town, 1, "eat 0 1");
        town.live(1);
        boolean paidFirst = town.about(1, 1) == 10;
        town.live(1);
        int fired = town.told(1, 1, 8);
        is.due("12: broke on day 1, or with what it had on that day not", town.about(1, 2), paidFirst ? 0 : 1);
        town.live(10);
        is.due("12: broke", town.about(1, 2), 1);
        int before = town.told(1, 1, 8);
        town.live(10);
        is.due("12: rules of a broke one do not fire", town.told(1, 1, 8), before);
        is.holds("12: it had fired", fired > 0);
        is.holds("12: it is in the order", town.about(1, 6) >= 0);
        is.due("12: one may lend to a broke one", town.told(0, 0, 8), 22);
        is.due("12: which pays, broke still", town.count(4), 1);
        is.due("12: lent with no end", town.count(3), 1);
        is.due("12: it owes ten", town.about(1, 4), 10);
        is.due("12: of all cash none is lost", town.count(2), 1000);
    }

    private static void lentOnTheSameDay() {
        MarketTown town = new MarketTown();
        town.agent(BANK, 10);
        town.agent(BANK, 10);
        Expect.rule(town, 0, "if day < 1 lend 1 10 2");
        Expect.rule(town, 1, "if day > 0 lend 0 20 1");
        town.live(2);
        is.due("12: two are open", town.count(3), 2);
        is.due("12: the first is due", town.loan(0, 3), 2);
        is.due("12: the second is due, too", town.loan(1, 3), 2);
        town.unrule(1);
        town.live(1);
        // loan 0 finds agent 1 without cash: it is broke, and gets the 20 of loan 1 afterwards
        is.due("12: by their numbers", town.about(1, 2), 1);
        is.due("12: the later one is paid", town.about(1, 1), 20);
        is.due("12: none is open", town.count(3), 0);
    }

    private static void ages() {
        MarketTown town = new MarketTown();
        town.agent(0, 0);
        town.agent(0, 100);
        town.good(1, 1, 0);
        town.good(2, 9, 0);
        town.good(3, 2, 0);
        for (int good = 0; good < 4; good++) {
            town.give(0, good, 10 + good);
        }
        Expect.rule(town, 0, "if day > 0 ask 3 9 1");
        Expect.rule(town, 1, "if day > 0 bid 3 9 1");
        town.live(1);
        is.due("12: of life 1", town.goods(1, 6), 11);
        is.due("12: none is left", town.goods(1, 7), 0);
        is.due("12: of life 2", town.goods(3, 7), 13);
        town.give(0, 3, 1);
        town.live(1);
        is.due("12: sold goods keep their age", town.has(1, 3, -1), 0);
        is.due("12: so they spoil", town.goods(3, 6), 13);
        is.due("12: the new one is there", town.has(0, 3, 1), 1);
        town.live(6);
        is.due("12: eight days", town.has(0, 2, 8), 12);
        town.live(1);
        is.due("12: nine days", town.goods(2, 6), 12);
        is.due("12: nine days without a life", town.has(0, 0, 9), 10);
        town.give(0, 0, 5);
        town.live(1);
        is.due("12: nine at most", town.has(0, 0, 9), 10);
        is.due("12: one", town.has(0, 0, 1), 5);
        town.live(8);
        is.due("12: all are of nine", town.has(0, 0, 9), 15);
        is.due("12: none is gone", town.goods(0, 6), 0);
        town.good(0, 3, 0);
        town.give(0, 0, 2);
        is.due("12: a new life", town.has(0, 0, -1), 17);
        town.live(1);
        is.due("12: those above it are gone", town.has(0, 0, -1), 2);
        is.due("12: gone", town.goods(0, 6), 15);
    }

    /** The example of README.md, with the answers that it tells. */
    private static void exampleOfReadme() {
        MarketTown town = new MarketTown();
        int house = town.agent(1, 100);
        int maker = town.agent(2, 10);
        town.recipe(0, 0, 0, 0, 0);
        town.feed(0x6d616b65, 0x20302035, 0, 0, 0);
        town.trim(8);
        is.due("README: the maker's first rule", town.rule(maker), 0);
        town.feed(0x61736b20, 0x30203520, 0x37202020, 0x20202020, 0x20202020);
        is.due("README: its second", town.rule(maker), 1);
        town.feed(0x62696420, 0x30203320, 0x39202020, 0x20202020, 0x20202020);
        is.due("README: the house's rule", town.rule(house), 0);
        is.due("README: a day", town.live(1), 1);
        is.due("README: bread", town.has(house, 0, -1), 3);
        is.due("README: coins", town.paid(house, maker, 0), 21);
    }
}
