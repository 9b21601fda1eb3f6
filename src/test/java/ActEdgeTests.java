/** Part 3 of the document, A DAY, (2): acts at the bounds of what is FREE. */
final class ActEdgeTests {
    private static final int NONE = MarketTown.NONE;
    private static final Expect is = new Expect();

    public static void main(String[] args) {
        makingOfTwoGoods();
        makingOfOneGood();
        makingOfItself();
        makingOfWhatIsFree();
        noRecipe();
        eating();
        theOldestFirst();
        asking();
        bidding();
        bidsHold();
        paying();
        payingInTheOrder();
        lending();
        lendingWithInterest();
        twentyLoans();
        nothingAtAll();
        nothingTakesNoRoom();
        brokeOnes();
        freeOfEachAgent();
        is.end();
    }

    /** Rows: how many of a and of b for one, how many there are of each, N, and how many are made. */
    private static void makingOfTwoGoods() {
        is.sentence("make: as many as N, as what is FREE of both goods allows", "they go, then as many come");
        int[][] rows = {{1, 0, 5, 0, 9, 5}, {1, 0, 5, 0, 5, 5}, {1, 0, 5, 0, 4, 4}, {1, 0, 0, 9, 4, 0}, {0, 1, 0, 5, 9, 5},
            {0, 1, 9, 0, 9, 0}, {1, 1, 5, 4, 9, 4}, {1, 1, 4, 5, 9, 4}, {1, 1, 4, 4, 4, 4}, {2, 3, 4, 6, 9, 2}, {2, 3, 3, 6, 9, 1},
            {2, 3, 4, 5, 9, 1}, {2, 3, 5, 8, 9, 2}, {9, 9, 8, 9, 9, 0}, {9, 9, 9, 8, 9, 0}, {9, 9, 9, 9, 9, 1},
            {9, 9, 17, 18, 9, 1}, {9, 9, 18, 18, 9, 2}, {9, 9, 18, 18, 1, 1}, {0, 0, 0, 0, 999, 999}, {0, 0, 3, 3, 1, 1},
            {0, 9, 0, 8, 9, 0}, {9, 0, 8, 0, 9, 0}, {1, 1, 999, 999, 999, 999}, {1, 1, 999, 998, 999, 998}};
        for (int[] row : rows) {
            MarketTown town = Scene.of(Scene.MAKER, 0);
            town.recipe(4, 1, row[0], 3, row[1]);
            giveIfAny(town, 0, 1, row[2]);
            giveIfAny(town, 0, 3, row[3]);
            Scene.rules(town, 0, "make 4 " + row[4]);
            town.live(1);
            String what = java.util.Arrays.toString(row);
            is.due(what + ": made", town.goods(4, 5), row[5]);
            is.due(what + ": came, of AGE 0 on that day", town.has(0, 4, 1), row[5]);
            is.due(what + ": left of a", town.has(0, 1, -1), row[2] - row[0] * row[5]);
            is.due(what + ": left of b", town.has(0, 3, -1), row[3] - row[1] * row[5]);
            is.due(what + ": fired", town.told(0, 0, 8), 1);
        }
    }

    /** Rows: how many as a and as b for one, how many there are, N, and how many are made. */
    private static void makingOfOneGood() {
        is.sentence("(of one, if a and b are alike, both numbers together)");
        int[][] rows = {{1, 1, 1, 9, 0}, {1, 1, 2, 9, 1}, {1, 1, 3, 9, 1}, {1, 1, 4, 9, 2}, {9, 9, 17, 9, 0}, {9, 9, 18, 9, 1},
            {9, 0, 9, 9, 1}, {0, 9, 9, 9, 1}, {9, 0, 8, 9, 0}, {0, 9, 8, 9, 0}, {0, 0, 0, 5, 5}, {2, 1, 8, 9, 2}, {1, 2, 9, 9, 3},
            {1, 2, 9, 2, 2}, {1, 0, 5, 9, 5}, {0, 1, 5, 9, 5}};
        for (int[] row : rows) {
            MarketTown town = Scene.of(Scene.SHOP, 0);
            town.recipe(0, 2, row[0], 2, row[1]);
            giveIfAny(town, 0, 2, row[2]);
            Scene.rules(town, 0, "make 0 " + row[3]);
            town.live(1);
            String what = java.util.Arrays.toString(row);
            is.due(what + ": made", town.has(0, 0, -1), row[4]);
            is.due(what + ": left", town.has(0, 2, -1), row[2] - (row[0] + row[1]) * row[4]);
        }
    }

    private static void giveIfAny(MarketTown town, int agent, int good, int many) {
        if (many > 0) {
            town.give(agent, good, many);
        }
    }

    private static void makingOfItself() {
        is.sentence("they go, then as many come");
        MarketTown town = Scene.of(Scene.MAKER, 0);
        town.recipe(0, 0, 1, 0, 0);
        town.give(0, 0, 3);
        town.live(4);
        Scene.rules(town, 0, "make 0 9");
        town.live(1);
        is.due("what comes is not used for it", town.goods(0, 5), 3);
        is.due("the old ones went", town.has(0, 0, 5), 0);
        is.due("new ones came", town.has(0, 0, 1), 3);
        town.recipe(0, 0, 1, 0, 1);
        town.live(1);
        is.due("two for one", town.goods(0, 5), 4);
        is.due("one is left of the older", town.has(0, 0, 2), 1);
        is.due("one is new", town.has(0, 0, 1), 1);
        is.sentence("with 0 of both it comes from nothing");
        town.recipe(0, 0, 0, 0, 0);
        town.live(1);
        is.due("from nothing", town.goods(0, 5), 13);
        is.due("none went", town.has(0, 0, -1), 11);
    }

    /** Rows: how many for one, how many there are, how many are offered, and how many are made. */
    private static void makingOfWhatIsFree() {
        is.sentence("FREE being what it HAS less what it offers by asks today");
        int[][] rows = {{1, 6, 4, 2}, {1, 6, 5, 1}, {1, 6, 6, 0}, {1, 6, 9, 0}, {2, 6, 1, 2}, {2, 7, 1, 3}, {2, 5, 4, 0}};
        for (int[] row : rows) {
            MarketTown town = Scene.of(Scene.MAKER, 0, Scene.AGENT, 0);
            town.recipe(0, 1, row[0], 2, 0);
            town.give(0, 1, row[1]);
            town.give(1, 1, 50);
            Scene.rules(town, 0, "ask 1 " + row[2] + " 9", "make 0 9");
            Scene.rules(town, 1, "ask 1 50 9");
            Scene.nextOrder(town, 1, 0);
            town.live(1);
            is.due(java.util.Arrays.toString(row), town.goods(0, 5), row[3]);
        }
        MarketTown town = Scene.of(Scene.MAKER, 0, Scene.AGENT, 99);
        town.recipe(0, 0, 0, 0, 0);
        Scene.rules(town, 0, "ask 0 9 1", "make 0 4", "ask 0 3 1", "ask 0 9 1", "ask 0 9 1", "make 0 2");
        Scene.rules(town, 1, "bid 0 99 1");
        town.live(1);
        is.due("what is made is free at once", town.has(1, 0, -1), 4);
        is.due("what is made later is not offered", town.has(0, 0, -1), 2);
    }

    private static void noRecipe() {
        is.sentence("none at first: it can't be made");
        MarketTown town = Scene.of(Scene.MAKER, 0);
        for (int good = 0; good < 5; good++) {
            town.give(0, good, 99);
            Scene.rules(town, 0, "make " + good + " 1");
        }
        town.live(1);
        for (int good = 0; good < 5; good++) {
            is.due("made", town.goods(good, 5), 0);
            is.due("none went", town.has(0, good, -1), 99);
            is.due("fired", town.told(0, good, 8), 1);
        }
        is.sentence("manyA -1: none.");
        town.recipe(0, 1, 1, 2, 1);
        town.recipe(0, 1, -1, 2, 1);
        town.live(1);
        is.due("none again", town.goods(0, 5), 0);
        is.due("none of a went", town.has(0, 1, -1), 99);
        is.due("none of b went", town.has(0, 2, -1), 99);
        town.recipe(0, 1, 9, 2, 9);
        town.live(1);
        is.due("one", town.goods(0, 5), 1);
        is.due("others can't be made", town.goods(4, 5), 0);
    }

    /** Rows: how many there are, how many are offered, N, and how many are eaten. */
    private static void eating() {
        is.sentence("eat: as many as N and FREE allow");
        int[][] rows = {{5, 0, 4, 4}, {5, 0, 5, 5}, {5, 0, 6, 5}, {5, 2, 2, 2}, {5, 2, 3, 3}, {5, 2, 4, 3}, {5, 4, 9, 1}, {5, 5, 1, 0},
            {5, 9, 1, 0}, {1, 0, 1, 1}, {999, 0, 999, 999}, {999, 0, 998, 998}, {0, 0, 1, 0}};
        for (int[] row : rows) {
            MarketTown town = Scene.of(Scene.HOUSE, 0);
            giveIfAny(town, 0, 2, row[0]);
            town.give(0, 1, 7);
            if (row[1] > 0) {
                Scene.rules(town, 0, "ask 2 " + row[1] + " 1");
            }
            Scene.rules(town, 0, "ask 1 7 1", "eat 2 " + row[2]);
            town.live(1);
            String what = java.util.Arrays.toString(row);
            is.due(what + ": eaten", town.goods(2, 4), row[3]);
            is.due(what + ": left", town.has(0, 2, -1), row[0] - row[3]);
            is.due(what + ": fired", town.told(0, town.about(0, 3) - 1, 8), 1);
            is.due(what + ": of another good", town.has(0, 1, -1), 7);
        }
    }

    /** The agents 0 and 1 have one of each AGE from 0 to 9; what goes of so many is eaten, used or sold. */
    private static void theOldestFirst() {
        is.sentence("What goes goes the oldest first, and comes with its AGE; what is made is of AGE 0.");
        for (int many = 1; many <= 10; many++) {
            for (int way = 0; way < 3; way++) {
                MarketTown town = Scene.of(Scene.HOUSE, 99, Scene.MAKER, 99, Scene.AGENT, 99);
                for (int day = 0; day < 10; day++) {
                    town.give(0, 0, 1);
                    town.give(1, 0, 1);
                    if (day < 9) {
                        town.live(1);
                    }
                }
                town.recipe(1, 0, 1, 0, 0);
                String[] acts = {"eat 0 ", "make 1 ", "ask 0 "};
                int agent = way == 1 ? 1 : 0;
                Scene.rules(town, agent, acts[way] + many + (way == 2 ? " 1" : ""));
                Scene.rules(town, 2, "bid 0 99 1");
                town.live(1);
                is.due("left", town.has(agent, 0, -1), 10 - many);
                for (int age = 0; age <= 9; age++) {
                    int here = 0;
                    int there = 0;
                    for (int before = 0; before <= 9; before++) {
                        if (Math.min(before + 1, 9) == age) {
                            here += before < 10 - many ? 1 : 0;
                            there += before < 10 - many ? 0 : 1;
                        }
                    }
                    String what = acts[way] + many + ": of age " + age;
                    is.due(what, town.has(agent, 0, age), here);
                    is.due(what + " came", town.has(2, 0, age), way == 2 ? there : 0);
                }
                is.due("made, of AGE 0 on that day", town.has(1, 1, 1), way == 1 ? many : 0);
            }
        }
    }

    private static void asking() {
        is.sentence("ask: so many of what is FREE, N at most, are offered at P each");
        int[][] rows = {{5, 4, 4}, {5, 5, 5}, {5, 6, 5}, {1, 1, 1}, {999, 999, 999}, {999, 998, 998}};
        for (int[] row : rows) {
            MarketTown town = Scene.of(Scene.AGENT, 0, Scene.AGENT, 100000);
            town.give(0, 0, row[0]);
            Scene.rules(town, 0, "ask 0 " + row[1] + " 3");
            Scene.rules(town, 1, "bid 0 999 3");
            town.live(1);
            is.due("sold of " + row[0] + " with " + row[1], town.goods(0, 3), row[2]);
        }
        MarketTown town = Scene.of(Scene.AGENT, 0, Scene.AGENT, 1000);
        town.give(0, 0, 10);
        town.give(0, 1, 10);
        Scene.rules(town, 0, "ask 0 6 9", "ask 0 6 8", "ask 0 6 7", "ask 1 6 6");
        Scene.rules(town, 1, "bid 0 20 9", "bid 1 20 9");
        town.live(1);
        is.due("4 at 8, 6 at 9, none at 7, 6 at 6", town.about(0, 1), 4 * 8 + 6 * 9 + 6 * 6);
    }

    /** Rows: cash, N, P, and how many are bid for. */
    private static void bidding() {
        is.sentence("bid: as many as N and FREE cash allow (FREE / P), at P each");
        int[][] rows = {{10, 9, 3, 3}, {9, 9, 3, 3}, {8, 9, 3, 2}, {9, 3, 3, 3}, {9, 2, 3, 2}, {2, 9, 3, 0}, {3, 9, 3, 1}, {0, 1, 1, 0},
            {1, 1, 1, 1}, {998, 9, 999, 0}, {999, 9, 999, 1}, {1997, 9, 999, 1}, {1998, 9, 999, 2}, {100000, 999, 100, 999},
            {99900, 999, 100, 999}, {99899, 999, 100, 998}};
        for (int[] row : rows) {
            MarketTown town = Scene.of(Scene.AGENT, 0, Scene.AGENT, row[0]);
            town.give(0, 0, 999);
            Scene.rules(town, 0, "ask 0 999 1");
            Scene.rules(town, 1, "bid 0 " + row[1] + " " + row[2]);
            town.live(1);
            String what = java.util.Arrays.toString(row);
            is.due(what + ": bought", town.has(1, 0, -1), row[3]);
            is.due(what + ": paid 1 each", town.paid(1, 0, 0), row[3]);
            is.due(what + ": fired", town.told(1, 0, 8), 1);
        }
    }

    private static void bidsHold() {
        is.sentence("the bid holds P times as many");
        MarketTown town = Scene.of(Scene.BANK, 20, Scene.AGENT, 0, Scene.AGENT, 0);
        town.give(2, 0, 50);
        Scene.rules(town, 0, "bid 0 2 7", "bid 0 9 4", "pay 1 9", "bid 0 1 2", "lend 1 9 3", "bid 0 9 1");
        Scene.rules(town, 2, "ask 0 50 1");
        town.live(1);
        is.due("2 at 7, 1 at 4, 2 paid, none more", town.has(0, 0, -1), 3);
        is.due("paid", town.paid(0, 1, 2), 2);
        is.due("none lent", town.count(3), 0);
        is.due("what was held and not paid is there", town.about(0, 1), 15);
        town.live(1);
        is.due("held for that day alone", town.has(0, 0, -1), 3 + 2);
        is.due("1 paid more", town.paid(0, 1, 2), 3);
    }

    private static void paying() {
        is.sentence("pay: N, or what is FREE, goes to A");
        int[][] rows = {{5, 4, 4}, {5, 5, 5}, {5, 6, 5}, {0, 1, 0}, {1, 1, 1}, {1, 999, 1}, {100000, 999, 999}, {999, 999, 999},
            {998, 999, 998}};
        for (int[] row : rows) {
            MarketTown town = Scene.of(Scene.AGENT, 3, Scene.AGENT, row[0]);
            Scene.rules(town, 1, "pay 0 " + row[1]);
            town.live(1);
            String what = java.util.Arrays.toString(row);
            is.due(what + ": paid", town.paid(1, 0, 2), row[2]);
            is.due(what + ": left", town.about(1, 1), row[0] - row[2]);
            is.due(what + ": came", town.about(0, 1), 3 + row[2]);
            is.due(what + ": fired", town.told(1, 0, 8), 1);
        }
        is.sentence("CASH, 0 .. 100000 at first");
        MarketTown town = Scene.of(Scene.AGENT, 100000, Scene.AGENT, 100000);
        Scene.rules(town, 0, "pay 1 999");
        town.live(30);
        is.due("later it may be more", town.about(1, 1), 100000 + 30 * 999);
    }

    private static void payingInTheOrder() {
        is.sentence("Each AGENT that is not BROKE, in THE ORDER: its RULES by their numbers");
        MarketTown town = Scene.of(Scene.AGENT, 5, Scene.AGENT, 0, Scene.AGENT, 0);
        Scene.rules(town, 0, "pay 1 5");
        Scene.rules(town, 1, "pay 2 5");
        town.save(0);
        Scene.nextOrder(town, 0, 1, 2);
        town.live(1);
        is.due("what came is free for the next", town.about(2, 1), 5);
        town.load(0);
        Scene.nextOrder(town, 1, 2, 0);
        town.live(1);
        is.due("not for the one ahead", town.about(1, 1), 5);
        is.due("which had none", town.about(2, 1), 0);
        MarketTown other = Scene.of(Scene.AGENT, 5, Scene.AGENT, 0, Scene.AGENT, 0);
        Scene.rules(other, 0, "pay 2 4", "pay 1 4");
        other.live(1);
        is.due("the first rule first", other.about(2, 1), 4);
        is.due("then the second", other.about(1, 1), 1);
    }

    private static void lending() {
        is.sentence("lend: likewise; A owes it", "at the end of the day D days on");
        int[][] rows = {{5, 4, 4}, {5, 5, 5}, {5, 6, 5}, {1, 999, 1}, {100000, 999, 999}};
        for (int[] row : rows) {
            for (int term = 1; term <= 30; term += 29) {
                MarketTown town = Scene.of(Scene.BANK, row[0], Scene.AGENT, 0);
                Scene.rules(town, 0, "every 99 lend 1 " + row[1] + " " + term);
                town.live(1);
                String what = java.util.Arrays.toString(row) + " for " + term;
                int[] due = {0, 1, row[2], term};
                for (int i = 0; i < 4; i++) {
                    is.due(what + ": loan " + i, town.loan(0, i), due[i]);
                }
                is.due(what + ": lent", town.paid(0, 1, 3), row[2]);
                is.due(what + ": owes", town.about(1, 4), row[2]);
                is.due(what + ": is owed", town.about(0, 5), row[2]);
                if (term > 1) {
                    town.live(term - 1);
                }
                is.due(what + ": open on the day ahead", town.count(3), 1);
                town.live(1);
                is.due(what + ": paid at the end of that day", town.paid(1, 0, 4), row[2]);
                is.due(what + ": open no more", town.count(3), 0);
                is.due(what + ": owes no more", town.about(1, 4) + town.about(0, 5), 0);
            }
        }
    }

    private static void lendingWithInterest() {
        is.sentence("and INTEREST percent of it (cut)");
        int[][] rows = {{99, 1, 0}, {100, 1, 1}, {199, 1, 1}, {1, 99, 0}, {1, 100, 1}, {2, 50, 1}, {1, 50, 0}, {999, 100, 999},
            {999, 99, 989}, {7, 0, 0}};
        for (int[] row : rows) {
            MarketTown town = Scene.of(Scene.COUNCIL, row[0], Scene.AGENT, 1000);
            town.policy(0, row[1]);
            Scene.rules(town, 0, "every 99 lend 1 999 1");
            town.live(1);
            String what = java.util.Arrays.toString(row);
            is.due(what + ": owed", town.loan(0, 2), row[0] + row[2]);
            is.due(what + ": lent", town.about(1, 1), 1000 + row[0]);
            town.policy(0, 77);
            town.live(1);
            is.due(what + ": paid", town.paid(1, 0, 4), row[0] + row[2]);
        }
    }

    private static void twentyLoans() {
        is.sentence("no more than 20 LOANS are open (else nothing is done)");
        MarketTown town = Scene.of(Scene.BANK, 1000, Scene.BANK, 1000, Scene.BANK, 1000, Scene.BANK, 1000, Scene.AGENT, 1000);
        for (int bank = 0; bank < 4; bank++) {
            for (int i = 0; i < 6; i++) {
                Scene.rules(town, bank, "lend 4 " + (10 * bank + i + 1) + " 2");
            }
        }
        Scene.nextOrder(town, 3, 1, 0, 2, 4);
        town.live(1);
        is.due("twenty", town.count(3), 20);
        is.due("the first", town.loan(0, 0), 3);
        is.due("the twentieth", town.loan(19, 2), 22);
        is.due("no more", town.loan(20, 0), NONE);
        is.due("of the last bank two", town.paid(2, 4, 3), 21 + 22);
        is.due("nothing of it moved", town.about(2, 1), 1000 - 43);
        is.due("though it fired", town.told(2, 5, 8), 1);
        town.live(1);
        is.due("none on a full day", town.told(2, 5, 8), 2);
        is.due("twenty still", town.about(4, 4), 31 + 32 + 33 + 34 + 35 + 36 + 11 + 12 + 13 + 14 + 15 + 16 + 21 + 21 + 22);
        town.live(1);
        is.due("they are due at the day's end, so none was lent then", town.count(3), 0);
        town.live(1);
        is.due("room again", town.count(3), 20);
    }

    private static void nothingAtAll() {
        is.sentence("What would be 0 is nothing at all (so no LOAN).");
        for (int market = 0; market < 3; market++) {
            MarketTown town = Scene.of(Scene.BANK, 0, Scene.HOUSE, 0, Scene.AGENT, 100, Scene.AGENT, 0);
            town.good(0, 0, market);
            town.give(3, 0, 5);
            Scene.rules(town, 0, "lend 1 9 9", "pay 1 9", "ask 0 9 1", "bid 0 9 999");
            Scene.rules(town, 1, "eat 0 9", "ask 0 9 2", "bid 0 9 998");
            Scene.nextOrder(town, 0, 1, 2, 3);
            town.live(1);
            is.due("nothing sold by offers of nothing", town.goods(0, 3), 0);
            is.due("no price", town.goods(0, 2), 0);
            is.due("no loan", town.count(3), 0);
            is.due("nothing paid", town.count(7), 0);
            is.due("nothing eaten", town.goods(0, 4), 0);
            for (int rule = 0; rule < 4; rule++) {
                is.due("fired", town.told(0, rule, 8), 1);
            }
            Scene.rules(town, 2, "bid 0 3 10");
            Scene.rules(town, 3, "ask 0 5 10");
            Scene.nextOrder(town, 0, 1, 2, 3);
            town.live(1);
            is.due("offers of nothing are not in the way", town.goods(0, 3), 3);
            is.due("nor in the price", town.goods(0, 2), 10);
            is.due("the buyer", town.about(2, 1), 70);
        }
    }

    private static void nothingTakesNoRoom() {
        is.sentence("What would be 0 is nothing at all (so no LOAN).");
        MarketTown town = Scene.of(Scene.BANK, 0, Scene.BANK, 1000, Scene.AGENT, 1000);
        Scene.rules(town, 1, "lend 2 1 30", "lend 2 1 30", "lend 2 1 30", "lend 2 1 30", "if day < 3 lend 2 1 30",
                "if day < 1 lend 2 1 30");
        town.live(4);
        is.due("twenty", town.count(3), 20);
        MarketTown other = Scene.of(Scene.BANK, 0, Scene.BANK, 1000, Scene.AGENT, 1000);
        Scene.rules(other, 1, "lend 2 1 30", "lend 2 1 30", "lend 2 1 30", "lend 2 1 30", "if day < 3 lend 2 1 30");
        other.live(4);
        is.due("nineteen", other.count(3), 19);
        Scene.rules(other, 0, "lend 2 5 5", "lend 2 5 5");
        other.unrule(1);
        Scene.nextOrder(other, 0, 1, 2);
        other.live(1);
        is.due("those of nothing took no room", other.count(3), 20);
        is.due("the last is lent", other.loan(19, 0), 1);
    }

    private static void brokeOnes() {
        is.sentence("Each AGENT that is not BROKE");
        MarketTown town = Scene.of(Scene.BANK, 100, Scene.MAKER, 0, Scene.AGENT, 0);
        town.recipe(0, 0, 0, 0, 0);
        Scene.rules(town, 0, "if day < 1 lend 1 50 1");
        Scene.rules(town, 1, "make 0 1", "ask 0 1 1", "if day > 0 pay 2 50");
        town.live(1);
        is.due("it makes", town.goods(0, 5), 1);
        town.live(1);
        is.due("broke at the day's end", town.about(1, 2), 1);
        is.due("it made on that day", town.goods(0, 5), 2);
        Scene.rules(town, 2, "pay 1 20", "bid 0 9 9");
        town.live(3);
        is.due("it makes no more", town.goods(0, 5), 2);
        is.due("its rules fire no more", town.told(1, 0, 8), 2);
        is.due("it asks no more", town.goods(0, 3), 0);
        is.due("others may pay to it", town.about(1, 1), 50);
        is.due("broke still", town.about(1, 2), 1);
        is.due("drawn in the order still", town.count(6), Scene.lotsAfter(1, 2 * 5));
    }

    /** Twelve agents, each with other numbers; what one offers or holds leaves the others' FREE as it is. */
    private static void freeOfEachAgent() {
        is.sentence("FREE being what it HAS less what it offers by asks today (of cash: its CASH less what its bids hold)");
        MarketTown town = new MarketTown();
        for (int i = 0; i < 12; i++) {
            town.agent(i % 2 == 0 ? Scene.HOUSE : Scene.MAKER, 100 + i);
            town.give(i, i % 5, 50 + i);
        }
        town.recipe(0, 4, 0, 4, 0);
        for (int good = 1; good < 5; good++) {
            town.recipe(good, good, 1, 0, 0);
        }
        for (int i = 0; i < 12; i++) {
            int good = i % 5;
            Scene.rules(town, i, "ask " + good + " " + (20 + i) + " 900", "bid " + good + " " + (1 + i) + " 3",
                    (i % 2 == 0 ? "eat " : "make ") + good + " 999", "pay " + (i + 1) % 12 + " 999");
        }
        town.live(1);
        int cash = 0;
        for (int i = 0; i < 12; i++) {
            int good = i % 5;
            boolean house = i % 2 == 0;
            boolean fromNothing = good == 0;
            int due = house ? 20 + i : fromNothing ? 50 + i + 999 : 50 + i;
            is.due("left of " + i, town.has(i, good, -1), due);
            is.due("held by " + i, town.about(i, 1) >= 3 * (1 + i) ? 1 : 0, 1);
            is.due("old or new, all of a day: " + i, town.has(i, good, 1), due);
            cash += town.about(i, 1);
        }
        is.due("eaten of good 0", town.goods(0, 4), 30 + 30);
        is.due("made of good 1", town.goods(1, 5), 30 + 30);
        is.due("all cash", cash, 12 * 100 + 66);
    }
}
