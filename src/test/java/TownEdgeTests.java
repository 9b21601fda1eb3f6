import java.util.Arrays;

/** Parts 1, 4 and 5 of the document, AGENTS, BOOKS and WORLDS, with the promises that ask for them: their boundaries. */
final class TownEdgeTests {
    private static final int BAD = MarketTown.BAD, NO = MarketTown.NO, FULL = MarketTown.FULL, NONE = MarketTown.NONE;
    private static final Expect is = new Expect();

    public static void main(String[] args) {
        newObject();
        objectsOfTheirOwn();
        twelveAgents();
        kinds();
        giving();
        recipesAtTheirBounds();
        agesAsked();
        booksOfGoods();
        booksOfAllAgents();
        medians();
        worldsOfTheirOwn();
        worldsKeepAll();
        worldsAreNotTouched();
        differencesOfGoods();
        differencesOfAges();
        differencesOfCash();
        differencesOfAgents();
        allCash();
        is.end();
    }

    private static void newObject() {
        is.sentence("No AGENTS; DAY 0; TAX 0, INTEREST 0; no WORLDS.");
        MarketTown town = new MarketTown();
        int[] counts = {0, 0, 0, 0, 0, 0, 1, 0};
        for (int what = 0; what < 8; what++) {
            is.due("count(" + what + ")", town.count(what), counts[what]);
        }
        for (int k = 0; k < 3; k++) {
            is.due("load(" + k + ")", town.load(k), NO);
            is.due("differs(" + k + ")", town.differs(k), NO);
        }
        for (int kind = 0; kind < 6; kind++) {
            is.due("median(" + kind + ")", town.median(kind), NONE);
        }
        is.due("no agent", town.about(0, 0), BAD);
        is.due("none pays", town.paid(0, 0, 0), BAD);
        is.due("none rules", town.unrule(0), BAD);
        town.agent(Scene.COUNCIL, 1000);
        town.agent(Scene.AGENT, 0);
        town.give(1, 0, 1);
        Scene.rules(town, 0, "bid 0 1 999", "lend 1 1 1");
        Scene.rules(town, 1, "ask 0 1 999");
        town.live(1);
        is.due("no tax", town.paid(1, 0, 1), 0);
        is.due("no interest", town.loan(0, 2), 1);
    }

    private static void objectsOfTheirOwn() {
        is.sentence("A new object");
        MarketTown one = Scene.of(Scene.HOUSE, 5);
        MarketTown other = new MarketTown();
        one.give(0, 0, 3);
        one.good(0, 5, 1);
        one.save(0);
        one.feed(1, 2, 3, 4, 5);
        one.lots(99);
        one.live(3);
        is.due("no agent of the other", other.count(0), 0);
        is.due("nor its day", other.count(1), 0);
        is.due("nor its tape", other.count(5), 0);
        is.due("nor its lots", other.count(6), 1);
        is.due("nor its worlds", other.load(0), NO);
        is.due("nor its goods", other.goods(0, 0), 0);
        other.agent(Scene.BANK, 7);
        is.due("its own", one.about(0, 0), Scene.HOUSE);
    }

    private static void twelveAgents() {
        is.sentence("AGENTS, 12 at most, numbered from 0 as they come");
        MarketTown town = new MarketTown();
        for (int i = 0; i < 12; i++) {
            is.due("there is none yet", town.about(i, 1), BAD);
            is.due("one more", town.agent(i % 6, 100000 - i), i);
            is.due("there is one", town.about(i, 1), 100000 - i);
            is.due("so many", town.count(0), i + 1);
            if (i == 4) {
                town.save(0);
            }
        }
        is.due("a thirteenth", town.agent(0, 0), FULL);
        is.due("twelve", town.count(0), 12);
        town.save(1);
        is.due("five", town.load(0), 0);
        is.due("the sixth again", town.agent(Scene.SHOP, 3), 5);
        is.due("of its own kind", town.about(5, 0), Scene.SHOP);
        is.due("of its own cash", town.about(5, 1), 3);
        town.load(1);
        is.due("twelve again", town.agent(0, 0), FULL);
        is.due("of its first kind", town.about(5, 0), 5);
        is.sentence("CASH, 0 .. 100000 at first");
        MarketTown other = new MarketTown();
        is.due("below", other.agent(0, -1), BAD);
        is.due("least", other.agent(0, 0), 0);
        is.due("most", other.agent(0, 100000), 1);
        is.due("above", other.agent(0, 100001), BAD);
        is.due("two", other.count(0), 2);
    }

    private static void kinds() {
        is.sentence("all are AGENTS; SHOPS are MAKERS, too");
        MarketTown town = new MarketTown();
        int[] kinds = {0, 1, 2, 3, 4, 5, 5, 4, 3, 2, 1, 0};
        for (int kind : kinds) {
            town.agent(kind, 0);
        }
        for (int i = 0; i < 12; i++) {
            int own = kinds[i];
            for (int kind = 0; kind < 6; kind++) {
                boolean due = kind == 0 || kind == own || kind == 2 && own == 3;
                is.due(own + " is of " + kind, town.isOf(i, kind), due ? 1 : 0);
            }
            is.due("but of one", town.about(i, 0), own);
        }
    }

    private static void giving() {
        is.sentence("So many (1 .. 999) of a good, of AGE 0, come to an AGENT: how many it HAS.");
        MarketTown town = new MarketTown();
        for (int i = 0; i < 12; i++) {
            town.agent(0, 0);
        }
        int[] corners = {0, 11};
        for (int agent : corners) {
            for (int good = 0; good < 5; good++) {
                is.due("least", town.give(agent, good, 1), 1);
                is.due("most", town.give(agent, good, 999), 1000);
                is.due("none", town.give(agent, good, 0), BAD);
                is.due("one too many", town.give(agent, good, 1000), BAD);
            }
        }
        town.live(1);
        for (int agent = 0; agent < 12; agent++) {
            int due = agent == 0 || agent == 11 ? 1000 : 0;
            for (int good = 0; good < 5; good++) {
                is.due("with older ones", town.give(agent, good, 7), due + 7);
                is.due("new ones", town.has(agent, good, 0), 7);
                is.due("older ones", town.has(agent, good, 1), due);
            }
        }
        for (int good = 0; good < 5; good++) {
            is.due("how many there are", town.goods(good, 7), 2084);
        }
        is.due("no such agent", town.give(12, 0, 1), BAD);
        is.due("no such good", town.give(11, 5, 1), BAD);
    }

    private static void recipesAtTheirBounds() {
        is.sentence("so many of a good a and so many of a good b (0 .. 9 of each; none at first");
        for (int good = 0; good < 5; good++) {
            for (int a = 0; a < 5; a++) {
                MarketTown town = Scene.of(Scene.MAKER, 0);
                int b = 4 - a;
                is.due("recipe", town.recipe(good, a, 9, b, 8), 0);
                for (int i = 0; i < 5; i++) {
                    town.give(0, i, 100);
                    Scene.rules(town, 0, "make " + i + " 3");
                }
                town.live(1);
                for (int i = 0; i < 5; i++) {
                    int due = 100 + (i == good ? 3 : 0) - (i == a ? 27 : 0) - (i == b ? 24 : 0);
                    is.due(good + " of " + a + " and " + b + ": has of " + i, town.has(0, i, -1), due);
                    is.due("made of " + i, town.goods(i, 5), i == good ? 3 : 0);
                }
            }
        }
    }

    private static void agesAsked() {
        is.sentence("How many of a good an AGENT HAS, of an AGE (-1: of all).");
        MarketTown town = new MarketTown();
        for (int i = 0; i < 12; i++) {
            town.agent(0, 0);
        }
        for (int day = 0; day < 10; day++) {
            town.give(11, 4, 1 << day);
            if (day < 9) {
                town.live(1);
            }
        }
        for (int age = 0; age < 10; age++) {
            is.due("of age " + age, town.has(11, 4, age), 1 << (9 - age));
            is.due("of the agent ahead", town.has(10, 4, age), 0);
            is.due("of the good ahead", town.has(11, 3, age), 0);
        }
        is.due("of all", town.has(11, 4, -1), 1023);
        is.due("below all", town.has(11, 4, -2), BAD);
        is.due("above nine", town.has(11, 4, 10), BAD);
    }

    /** The LIFE of each good is its number: what was given is there to be eaten for so many days. */
    private static void booksOfGoods() {
        is.sentence("EATEN, MADE, GONE (spoilt) of each good likewise.");
        MarketTown town = Scene.of(Scene.HOUSE, 0, Scene.MAKER, 0, Scene.HOUSE, 0, Scene.SHOP, 0);
        for (int good = 0; good < 5; good++) {
            town.recipe(good, 0, 0, 0, 0);
            town.good(good, good, 0);
            town.give(0, good, 100);
            town.give(2, good, 50);
            Scene.rules(town, 0, "eat " + good + " " + (good + 1));
            Scene.rules(town, 2, "if day < 1 eat " + good + " 10");
            Scene.rules(town, 1, "make " + good + " " + (10 + good));
            Scene.rules(town, 3, "if day < 1 make " + good + " 1");
        }
        for (int day = 1; day <= 6; day++) {
            town.live(1);
            for (int good = 0; good < 5; good++) {
                boolean spoils = good > 0 && day >= good;
                int made = day * (10 + good) + 1;
                int eaten = 10 + (spoils ? good : day) * (good + 1);
                int gone = spoils ? 150 - eaten + 1 + (day - good + 1) * (10 + good) : 0;
                is.due("made of " + good, town.goods(good, 5), made);
                is.due("eaten of " + good, town.goods(good, 4), eaten);
                is.due("gone of " + good, town.goods(good, 6), gone);
                is.due("there are of " + good, town.goods(good, 7), 150 + made - eaten - gone);
            }
        }
    }

    private static void booksOfAllAgents() {
        is.sentence("PAID from one to the other by a REASON (-1: by all).");
        MarketTown town = new MarketTown();
        for (int i = 0; i < 12; i++) {
            town.agent(0, 1000);
        }
        for (int i = 0; i < 12; i++) {
            Scene.rules(town, i, "pay " + (11 - i) + " " + (i + 1), "pay " + (i + 1) % 12 + " 20");
        }
        town.live(2);
        int all = 0;
        for (int from = 0; from < 12; from++) {
            for (int to = 0; to < 12; to++) {
                int due = (to == 11 - from ? 2 * (from + 1) : 0) + (to == (from + 1) % 12 ? 40 : 0);
                is.due(from + " to " + to, town.paid(from, to, 2), due);
                is.due(from + " to " + to + " by all", town.paid(from, to, -1), due);
                all += due;
            }
        }
        is.due("all that was paid", town.count(7), all);
        is.due("no such payer", town.paid(12, 0, 0), BAD);
        is.due("no such one paid", town.paid(0, 12, 0), BAD);
        is.due("no such reason", town.paid(11, 11, 5), BAD);
        is.due("below all reasons", town.paid(11, 11, -2), BAD);
    }

    private static void medians() {
        is.sentence("The median of CASH of all AGENTS of a KIND (of an even number of them the lesser of both)");
        int[][] rows = {{5}, {5, 6}, {6, 5}, {5, 5}, {5, 6, 7}, {7, 6, 5}, {6, 5, 7}, {5, 6, 7, 8}, {8, 7, 6, 5}, {6, 8, 5, 7}, {5, 5, 6, 6},
            {6, 6, 5, 5}, {5, 6, 6, 6}, {6, 5, 5, 5}, {0, 100000}, {100000, 0, 0}, {0, 0}, {1, 0, 1, 0, 1}, {3, 1, 2, 1, 3, 2},
            {12, 11, 10, 9, 8, 7, 6, 5, 4, 3, 2, 1}, {1, 2, 3, 4, 5, 6, 7, 8, 9, 10, 11}, {4, 4, 4, 4, 9, 9, 9, 9, 9, 0, 0, 0}};
        for (int[] row : rows) {
            for (int kind = 0; kind < 6; kind++) {
                MarketTown town = new MarketTown();
                for (int cash : row) {
                    town.agent(kind, cash);
                }
                int[] sorted = row.clone();
                Arrays.sort(sorted);
                int due = sorted[(sorted.length - 1) / 2];
                for (int asked = 0; asked < 6; asked++) {
                    boolean counts = asked == 0 || asked == kind || asked == 2 && kind == 3;
                    is.due(Arrays.toString(row) + " of " + kind + " as " + asked, town.median(asked), counts ? due : NONE);
                }
            }
        }
        MarketTown town = Scene.of(2, 9, 3, 1, 1, 4, 4, 2, 5, 3, 0, 8);
        int[] due = {3, 4, 1, 1, 2, 3};
        for (int kind = 0; kind < 6; kind++) {
            is.due("of several kinds, of " + kind, town.median(kind), due[kind]);
        }
    }

    private static void worldsOfTheirOwn() {
        is.sentence("WORLDS 0 .. 2 are laid aside, or none");
        MarketTown town = new MarketTown();
        for (int k = 0; k < 3; k++) {
            for (int other = 0; other < 3; other++) {
                is.due("differs(" + other + ")", town.differs(other), other >= k ? NO : other == k - 1 ? NONE : 0);
            }
            town.agent(k, 10 * (k + 1));
            if (k > 0) {
                town.live(k);
                town.give(0, 0, 1);
            }
            is.due("save(" + k + ")", town.save(k), town.count(1));
        }
        int[] days = {0, 1, 3};
        for (int k = 2; k >= 0; k--) {
            is.due("load(" + k + ")", town.load(k), days[k]);
            is.due("its agents", town.count(0), k + 1);
            is.due("its goods", town.has(0, 0, -1), k);
            is.due("nothing differs", town.differs(k), NONE);
        }
        is.due("below", town.save(-1), BAD);
        is.due("above", town.save(3), BAD);
        is.due("one over another", town.save(2), 0);
        is.due("it is that", town.load(2), 0);
        is.due("with one agent", town.count(0), 1);
        is.due("others stay", town.load(1), 1);
    }

    /** A town of six with loans, rules, goods, books; one agent is broke in it by and by. */
    private static void firstTown(MarketTown town) {
        int[] kinds = {1, 2, 3, 4, 5, 0};
        for (int kind : kinds) {
            town.agent(kind, 200);
        }
        town.good(0, 3, 2);
        town.good(1, 0, 1);
        town.recipe(0, 1, 1, 1, 0);
        town.recipe(1, 0, 0, 0, 0);
        town.policy(100, 20);
        Scene.rules(town, 0, "bid 0 3 9", "eat 0 1");
        Scene.rules(town, 1, "make 1 9", "ask 1 5 4");
        Scene.rules(town, 2, "bid 1 5 5", "make 0 4", "ask 0 4 6");
        Scene.rules(town, 3, "every 3 lend 5 30 4");
        Scene.rules(town, 4, "if cash > 200 pay 0 9");
        Scene.rules(town, 5, "pay 1 99");
        town.live(9);
    }

    /** A town that is unlike the first one in all: kinds, rules, goods, recipes, policy, loans, books. */
    private static void secondTown(MarketTown town) {
        int[] kinds = {5, 4, 1, 2, 0, 3, 2, 1};
        for (int kind : kinds) {
            town.agent(kind, 77);
        }
        town.good(0, 0, 0);
        town.good(1, 5, 2);
        town.good(4, 1, 1);
        town.recipe(0, 0, -1, 0, 0);
        town.recipe(1, 2, 2, 3, 1);
        town.recipe(2, 0, 0, 0, 0);
        town.recipe(3, 0, 0, 0, 0);
        town.policy(3, 99);
        town.lots(4711);
        town.give(7, 4, 44);
        town.give(2, 2, 5);
        Scene.rules(town, 0, "lend 7 5 9");
        Scene.rules(town, 1, "lend 6 9 30", "pay 2 1", "if have 4 < 1 pay 3 1");
        Scene.rules(town, 3, "make 2 5", "make 3 4", "make 1 9", "ask 1 2 3");
        Scene.rules(town, 4, "bid 1 2 4");
        Scene.rules(town, 7, "eat 4 1", "ask 2 1 1");
        town.live(3);
    }

    private static void like(String what, Picture.Run got, Picture.Run want) {
        String unlike = Picture.firstUnlike(Picture.after(got), Picture.after(want), true);
        is.holds(what + ": " + unlike, unlike.isEmpty());
    }

    private static void worldsKeepAll() {
        is.sentence("all of 1 to 4, DAY, LOTS, THE ORDER of the latest day");
        Picture.Run both = town -> {
            town.save(2);
            firstTown(town);
            town.save(0);
            town.load(2);
            secondTown(town);
            town.save(1);
        };
        like("the first comes back", town -> {
            both.on(town);
            town.load(0);
        }, TownEdgeTests::firstTown);
        like("the second comes back", town -> {
            both.on(town);
            town.load(0);
            town.live(5);
            town.load(1);
        }, TownEdgeTests::secondTown);
        like("the first goes on", town -> {
            both.on(town);
            town.load(0);
            town.live(20);
        }, town -> {
            firstTown(town);
            town.live(20);
        });
        like("the second goes on", town -> {
            both.on(town);
            town.load(0);
            town.load(1);
            town.live(20);
        }, town -> {
            secondTown(town);
            town.live(20);
        });
        like("none at all comes back", town -> {
            both.on(town);
            town.load(2);
        }, town -> {
        });
        like("and a town may come upon it", town -> {
            both.on(town);
            town.load(2);
            secondTown(town);
        }, TownEdgeTests::secondTown);
    }

    private static void worldsAreNotTouched() {
        is.sentence("The town is laid aside as WORLD k");
        like("what comes later is not in it", town -> {
            firstTown(town);
            town.save(0);
            for (int good = 0; good < 5; good++) {
                town.good(good, 9, 0);
                town.recipe(good, 0, -1, 0, 0);
                town.give(0, good, 9);
            }
            town.policy(0, 0);
            town.lots(1);
            town.agent(5, 5);
            for (int agent = 0; agent < 6; agent++) {
                town.unrule(agent);
                Scene.rules(town, agent, "pay " + (agent + 1) + " 5");
            }
            town.live(7);
            town.load(0);
        }, TownEdgeTests::firstTown);
        like("nor what comes after it was gone on with", town -> {
            firstTown(town);
            town.save(0);
            town.load(0);
            town.live(7);
            town.give(0, 0, 9);
            town.load(0);
            town.live(2);
        }, town -> {
            firstTown(town);
            town.live(2);
        });
        like("one world may be laid aside twice", town -> {
            firstTown(town);
            town.save(0);
            town.load(0);
            town.save(1);
            town.live(3);
            town.save(0);
            town.load(1);
        }, TownEdgeTests::firstTown);
    }

    private static MarketTown alike(int agents) {
        MarketTown town = new MarketTown();
        for (int i = 0; i < agents; i++) {
            town.agent(0, 10);
        }
        return town;
    }

    private static void differencesOfGoods() {
        is.sentence("The least AGENT whose CASH, or goods (by AGES), are not those that it has in WORLD k");
        for (int agent = 0; agent < 12; agent++) {
            MarketTown town = alike(12);
            town.save(0);
            is.due("nothing", town.differs(0), NONE);
            for (int good = 0; good < 5; good++) {
                town.give(agent, good, 1);
                is.due("more of " + good, town.differs(0), agent);
                town.save(1);
                town.load(0);
                is.due("less of " + good, town.differs(1), agent);
                is.due("nothing", town.differs(0), NONE);
            }
            town.give(agent, 4, 1);
            town.give(11, 0, 1);
            is.due("the least of two", town.differs(0), agent);
        }
    }

    private static void differencesOfAges() {
        is.sentence("or goods (by AGES)");
        MarketTown town = alike(12);
        town.give(11, 4, 1);
        for (int age = 0; age < 12; age++) {
            town.save(0);
            town.live(1);
            is.due("a day older than " + age, town.differs(0), age < 9 ? 11 : NONE);
        }
        MarketTown swap = alike(3);
        swap.save(1);
        swap.give(1, 0, 1);
        swap.live(1);
        swap.give(1, 0, 2);
        swap.save(0);
        swap.load(1);
        swap.give(1, 0, 2);
        swap.live(1);
        is.due("as many in all", swap.give(1, 0, 1), 3);
        is.due("not of the same ages", swap.differs(0), 1);
        MarketTown good = Scene.of(Scene.MAKER, 5);
        good.recipe(1, 0, 1, 0, 0);
        good.give(0, 0, 1);
        Scene.rules(good, 0, "if day > 11 make 1 1");
        good.live(11);
        good.save(0);
        good.live(1);
        is.due("all of nine days", good.differs(0), NONE);
        good.live(1);
        is.due("one good for another", good.differs(0), 0);
    }

    private static void differencesOfCash() {
        is.sentence("The least AGENT whose CASH");
        for (int agent = 0; agent < 11; agent++) {
            MarketTown town = alike(12);
            Scene.rules(town, 11, "pay " + agent + " 1");
            town.save(0);
            town.live(1);
            is.due("one more", town.differs(0), agent);
            is.due("all else may be as it will", town.load(0), 0);
            town.live(1);
            town.save(1);
            town.load(0);
            is.due("one less", town.differs(1), agent);
        }
        MarketTown town = alike(2);
        Scene.rules(town, 0, "pay 1 1");
        Scene.rules(town, 1, "pay 0 1");
        town.save(0);
        town.live(1);
        is.due("to and fro", town.differs(0), NONE);
        town.policy(9, 9);
        town.lots(9);
        town.good(0, 9, 2);
        town.recipe(0, 0, 0, 0, 0);
        town.unrule(0);
        is.due("rules, day, lots, policy, goods do not count", town.differs(0), NONE);
    }

    private static void differencesOfAgents() {
        is.sentence("(or that is in one of both alone)");
        for (int agents = 0; agents < 12; agents++) {
            MarketTown town = alike(agents);
            town.save(0);
            is.due("nothing", town.differs(0), NONE);
            town.agent(0, 0);
            is.due("in the town alone", town.differs(0), agents);
            town.save(1);
            town.load(0);
            is.due("in the world alone", town.differs(1), agents);
            is.due("nothing", town.differs(0), NONE);
            is.due("no such world", town.differs(2), NO);
        }
        MarketTown kinds = Scene.of(Scene.HOUSE, 5);
        MarketTown empty = new MarketTown();
        empty.save(0);
        empty.agent(Scene.BANK, 5);
        empty.save(1);
        empty.load(0);
        empty.agent(Scene.HOUSE, 5);
        is.due("kinds do not count", empty.differs(1), NONE);
        is.due("of another object", kinds.differs(1), NO);
    }

    private static void allCash() {
        is.sentence("2 all CASH");
        MarketTown town = new MarketTown();
        for (int i = 0; i < 12; i++) {
            town.agent(4 + i % 2, 100000);
            is.due("all", town.count(2), 100000 * (i + 1));
        }
        for (int i = 0; i < 11; i++) {
            Scene.rules(town, i, "pay 11 999", "lend 11 999 30", "pay 11 999", "lend 11 999 29");
        }
        town.live(30);
        is.due("no coin is lost", town.count(2), 1200000);
        is.holds("one has much", town.about(11, 1) > 700000);
        town.live(30);
        is.due("nor later", town.count(2), 1200000);
        is.due("what is owed is owed to all", town.about(11, 4), sumOfOwed(town));
    }

    private static int sumOfOwed(MarketTown town) {
        int sum = 0;
        for (int i = 0; i < 11; i++) {
            sum += town.about(i, 5);
        }
        return sum;
    }
}
