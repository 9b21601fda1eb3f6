/** Part 3 of the document, A DAY, (1), (5) and (6), with promise 12: the sentences that name a boundary. */
final class DayEdgeTests {
    private static final int BAD = MarketTown.BAD, NONE = MarketTown.NONE;
    private static final Expect is = new Expect();

    public static void main(String[] args) {
        howManyDays();
        upToDay700();
        theOrderOfFew();
        theOrderOfAll();
        lotsAtTheirBounds();
        placesInTheOrder();
        livesOfGoods();
        nineAtMost();
        aNewLife();
        offersAreNone();
        is.end();
    }

    private static void howManyDays() {
        is.sentence("n days (1 .. 30) are lived through: DAY. BAD");
        int[] bad = {0, -1, -30, 31, 700, Integer.MIN_VALUE, Integer.MAX_VALUE};
        MarketTown town = Scene.of(Scene.AGENT, 1, Scene.AGENT, 0);
        Scene.rules(town, 0, "pay 1 1");
        for (int n : bad) {
            is.due("live(" + n + ")", town.live(n), BAD);
            is.due("no day", town.count(1), 0);
            is.due("no lots", town.count(6), 1);
            is.due("no rule", town.told(0, 0, 8), 0);
        }
        int day = 0;
        for (int n = 1; n <= 30; n++) {
            day += n;
            is.due("live(" + n + ")", town.live(n), day);
            is.due("so often", town.told(0, 0, 8), day);
        }
    }

    private static void upToDay700() {
        is.sentence("BAD: also if DAY would be above 700.");
        for (int left = 1; left <= 30; left++) {
            MarketTown town = new MarketTown();
            Scene.days(town, 700 - left);
            is.due("one day too many of " + (left + 1), town.live(left + 1), BAD);
            is.due("thirty of " + left, town.live(30), left == 30 ? 700 : BAD);
            if (left < 30) {
                is.due("still", town.count(1), 700 - left);
                is.due("just as many", town.live(left), 700);
            }
            is.due("no more", town.live(1), BAD);
            is.due("far too many", town.live(Integer.MAX_VALUE), BAD);
            is.due("700 still", town.count(1), 700);
        }
    }

    private static void theOrderOfFew() {
        is.sentence("for i from the last place down to 1");
        MarketTown town = new MarketTown();
        town.lots(5);
        town.live(30);
        is.due("no agent, no lots", town.count(6), 5);
        town.agent(Scene.AGENT, 0);
        town.live(30);
        is.due("one agent, no lots", town.count(6), 5);
        is.due("its place", town.about(0, 6), 0);
        town.agent(Scene.AGENT, 0);
        town.live(1);
        is.due("two agents, one", town.count(6), Scene.lotsAfter(5, 1));
        is.due("the places", town.about(0, 6) + town.about(1, 6), 1);
        town.agent(Scene.AGENT, 0);
        town.live(1);
        is.due("three agents, two", town.count(6), Scene.lotsAfter(5, 3));
    }

    private static void theOrderOfAll() {
        is.sentence("the one at i is exchanged with that at place j");
        for (int agents = 1; agents <= 12; agents++) {
            MarketTown town = new MarketTown();
            for (int i = 0; i < agents; i++) {
                town.agent(Scene.AGENT, 0);
            }
            long lots = 1;
            for (int day = 0; day < 12; day++) {
                town.live(1);
                int[] order = Scene.orderBy(lots, agents);
                for (int place = 0; place < agents; place++) {
                    is.due("of " + agents + " the place of " + order[place], town.about(order[place], 6), place);
                }
                lots = Scene.lotsAfter(lots, agents - 1);
                is.due("lots of " + agents, town.count(6), lots);
            }
        }
    }

    private static void lotsAtTheirBounds() {
        is.sentence("LOTS becoming (LOTS * 1103515245 + 12345) modulo 2147483648");
        int[] first = {0, 1, 2, 65535, 65536, 1073741823, 1073741824, 2147483646, 2147483647};
        for (int lots : first) {
            MarketTown town = Scene.of(0, 0, 0, 0, 0, 0, 0, 0, 0, 0);
            is.due("lots(" + lots + ")", town.lots(lots), 0);
            is.due("it is", town.count(6), lots);
            town.live(1);
            int[] order = Scene.orderBy(lots, 5);
            for (int place = 0; place < 5; place++) {
                is.due("from " + lots + " the place of " + order[place], town.about(order[place], 6), place);
            }
            is.due("from " + lots, town.count(6), Scene.lotsAfter(lots, 4));
        }
        is.sentence("LOTS is v (0 .. 2147483647): 0. BAD.");
        MarketTown town = new MarketTown();
        is.due("at first", town.count(6), 1);
        is.due("below", town.lots(-1), BAD);
        is.due("far below", town.lots(Integer.MIN_VALUE), BAD);
        is.due("still", town.count(6), 1);
    }

    private static void placesInTheOrder() {
        is.sentence("its place in THE ORDER of the latest day (NONE: it was not there)");
        MarketTown town = Scene.of(Scene.AGENT, 0, Scene.AGENT, 0);
        is.due("no day yet", town.about(0, 6), NONE);
        town.save(0);
        Scene.nextOrder(town, 1, 0);
        town.live(1);
        is.due("the second", town.about(0, 6), 1);
        is.due("the first", town.about(1, 6), 0);
        town.agent(Scene.AGENT, 0);
        is.due("came later", town.about(2, 6), NONE);
        is.due("is still there", town.about(0, 6), 1);
        town.save(1);
        Scene.nextOrder(town, 0, 2, 1);
        town.live(1);
        is.due("is there now", town.about(2, 6), 1);
        is.due("the latest day alone", town.about(0, 6), 0);
        town.load(1);
        is.due("of the world's latest day", town.about(0, 6), 1);
        is.due("not there in the world", town.about(2, 6), NONE);
        town.load(0);
        is.due("the world had no day", town.about(1, 6), NONE);
        is.due("it is not there at all", town.about(2, 6), BAD);
    }

    private static void livesOfGoods() {
        is.sentence("of those with a LIFE those of AGE as much as that, or more, are gone");
        for (int life = 1; life <= 9; life++) {
            MarketTown town = Scene.of(Scene.AGENT, 0, Scene.AGENT, 0);
            town.good(3, life, 0);
            town.give(0, 3, 7);
            town.give(1, 3, 5);
            town.give(1, 2, 4);
            for (int day = 1; day <= life; day++) {
                boolean gone = day == life;
                town.live(1);
                is.due("life " + life + " after " + day, town.has(0, 3, -1), gone ? 0 : 7);
                is.due("life " + life + " of that age", town.has(1, 3, day), gone ? 0 : 5);
                is.due("life " + life + " gone", town.goods(3, 6), gone ? 12 : 0);
                is.due("life " + life + " there are", town.goods(3, 7), gone ? 0 : 12);
                is.due("of another good", town.has(1, 2, day), 4);
            }
        }
        is.sentence("0: they never spoil; 0 at first");
        MarketTown town = Scene.of(Scene.AGENT, 0);
        town.give(0, 0, 3);
        town.good(1, 5, 1);
        town.good(1, 0, 1);
        town.give(0, 1, 2);
        Scene.days(town, 60);
        is.due("at first", town.has(0, 0, 9), 3);
        is.due("by a call", town.has(0, 1, 9), 2);
        is.due("none is gone", town.goods(0, 6) + town.goods(1, 6), 0);
    }

    private static void nineAtMost() {
        is.sentence("AGES of all goods become 1 more (9 at most)");
        MarketTown town = Scene.of(Scene.AGENT, 0, Scene.AGENT, 0);
        int given = 0;
        for (int day = 0; day < 14; day++) {
            town.give(1, 4, 1 << day % 9);
            given += 1 << day % 9;
            town.live(1);
        }
        int younger = 0;
        for (int age = 1; age <= 8; age++) {
            int many = 1 << (14 - age) % 9;
            is.due("of age " + age, town.has(1, 4, age), many);
            younger += many;
        }
        is.due("of age 0", town.has(1, 4, 0), 0);
        is.due("all older ones", town.has(1, 4, 9), given - younger);
        is.due("of all", town.has(1, 4, -1), given);
        is.due("of another agent", town.has(0, 4, -1), 0);
    }

    private static void aNewLife() {
        is.sentence("LIFE and MARKET of a good: 0.");
        MarketTown town = Scene.of(Scene.AGENT, 0);
        for (int day = 0; day < 12; day++) {
            town.give(0, 0, 1);
            town.live(1);
        }
        town.good(0, 9, 0);
        is.due("none is gone at once", town.has(0, 0, -1), 12);
        town.live(1);
        is.due("those of nine days are gone", town.goods(0, 6), 5);
        is.due("those of eight stay", town.has(0, 0, 8), 1);
        town.good(0, 0, 0);
        town.live(3);
        is.due("none more without a life", town.goods(0, 6), 5);
        is.due("they grew older", town.has(0, 0, 9), 3);
        town.good(0, 1, 0);
        town.give(0, 0, 4);
        town.live(1);
        is.due("all are gone", town.has(0, 0, -1), 0);
        is.due("all together", town.goods(0, 6), 16);
    }

    private static void offersAreNone() {
        is.sentence("DAY becomes 1 more; offers are none");
        MarketTown town = Scene.of(Scene.HOUSE, 10, Scene.AGENT, 10, Scene.AGENT, 0);
        town.give(0, 0, 5);
        Scene.rules(town, 0, "if day < 1 ask 0 5 2", "if day < 1 bid 1 5 2", "if day > 0 eat 0 9", "if day > 0 pay 2 99");
        Scene.rules(town, 1, "if day > 0 bid 0 5 2");
        is.due("day 1", town.live(1), 1);
        is.due("offered in vain", town.has(0, 0, -1), 5);
        is.due("day 2", town.live(1), 2);
        is.due("an ask of the day before sells nothing", town.goods(0, 3), 0);
        is.due("all is free again: goods", town.goods(0, 4), 5);
        is.due("all is free again: cash", town.paid(0, 2, 2), 10);
    }
}
