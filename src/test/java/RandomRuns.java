import java.util.Random;

/** Long runs of calls by fixed seeds, each answer compared with that of ReferenceTown. */
final class RandomRuns {
    private static final int RUNS = 700;
    private static final String[] FAULTS = {"", " ", "every", "if", "x", "0", "1000", "9999", "10000", "<", "every 100",
        "if cash", "eat 0", "make 5 1", "pay 0 1", "lend 0 1 31", "12x", "007", "if have 4 <", "if price 1 > 3"};

    private final Expect is = new Expect();
    private Random random;
    private MarketTown town;
    private ReferenceTown model;
    private ReferenceTown[] worlds;
    private String run;
    /** How many goods the run's rules speak of, and whether they mostly offer: then markets are crowded. */
    private int span;
    private boolean crowded;

    public static void main(String[] args) {
        RandomRuns runs = new RandomRuns();
        for (int seed = 1; seed <= RUNS; seed++) {
            runs.oneRun(seed);
        }
        runs.is.end();
    }

    private void oneRun(int seed) {
        random = new Random(seed);
        town = new MarketTown();
        model = new ReferenceTown();
        worlds = new ReferenceTown[3];
        run = "run " + seed;
        span = 1 + below(5);
        crowded = below(2) == 0;
        int first = 2 + random.nextInt(10);
        for (int i = 0; i < first; i++) {
            newAgent();
        }
        for (int good = 0; good < 5; good++) {
            newGood(good);
            newRecipe(good);
        }
        int rules = below(crowded ? 80 : 30);
        for (int i = 0; i < rules; i++) {
            newRule();
        }
        for (int i = 0; i < (crowded ? 20 : 4); i++) {
            give();
        }
        for (int step = 0; step < 60; step++) {
            oneStep();
        }
        compareAll();
    }

    private int below(int n) {
        return random.nextInt(n);
    }

    private void oneStep() {
        switch (below(16)) {
            case 0:
                newAgent();
                break;
            case 1:
                newGood(below(5));
                break;
            case 2:
                newRecipe(below(5));
                break;
            case 3:
                newPolicy();
                break;
            case 4:
                give();
                break;
            case 5:
                dropRule();
                break;
            case 6:
                world();
                break;
            case 7:
            case 8:
            case 9:
                live(1 + below(below(4) == 0 ? 30 : 3));
                compareSome();
                break;
            default:
                newRule();
        }
    }

    private void newAgent() {
        if (model.agents.size() < 12) {
            int kind = below(6);
            int cash = below(3) == 0 ? below(100001) : below(300);
            model.agents.add(new ReferenceTown.Agent(kind, cash));
            is.due(run + ": agent", town.agent(kind, cash), model.agents.size() - 1);
        } else {
            is.due(run + ": agent", town.agent(below(6), 5), MarketTown.FULL);
        }
    }

    private void newGood(int good) {
        int life = below(3) == 0 ? 0 : below(10);
        int market = below(3);
        model.goods[good][0] = life;
        model.goods[good][1] = market;
        is.due(run + ": good", town.good(good, life, market), 0);
    }

    private void newRecipe(int good) {
        int[] row = {below(5), below(4) - 1, below(5), below(3)};
        model.recipes[good] = row[1] < 0 ? null : row;
        is.due(run + ": recipe", town.recipe(good, row[0], row[1], row[2], row[3]), 0);
    }

    private void newPolicy() {
        model.tax = below(1001);
        model.interest = below(101);
        is.due(run + ": policy", town.policy(model.tax, model.interest), 0);
        if (below(2) == 0) {
            model.lots = below(Integer.MAX_VALUE);
            is.due(run + ": lots", town.lots((int) model.lots), 0);
        }
    }

    private void give() {
        int agent = below(model.agents.size());
        int good = below(span);
        int many = 1 + below(below(5) == 0 ? 999 : 20);
        for (int i = 0; i < many; i++) {
            model.agents.get(agent).pieces.get(good).add(0);
        }
        is.due(run + ": give", town.give(agent, good, many), model.has(agent, good, -1));
    }

    private void dropRule() {
        int agent = below(model.agents.size());
        int size = model.agents.get(agent).rules.size();
        if (size > 0) {
            model.agents.get(agent).rules.remove(size - 1);
        }
        is.due(run + ": unrule", town.unrule(agent), size > 0 ? size - 1 : MarketTown.NO);
    }

    private void world() {
        int k = below(3);
        switch (below(3)) {
            case 0:
                worlds[k] = model.copy();
                is.due(run + ": save", town.save(k), model.day);
                break;
            case 1:
                if (worlds[k] != null) {
                    model = worlds[k].copy();
                }
                is.due(run + ": load", town.load(k), worlds[k] == null ? MarketTown.NO : model.day);
                break;
            default:
                is.due(run + ": differs", town.differs(k), worlds[k] == null ? MarketTown.NO : model.differs(worlds[k]));
        }
    }

    private void live(int n) {
        if (model.day + n > 700) {
            is.due(run + ": live", town.live(n), MarketTown.BAD);
            return;
        }
        for (int i = 0; i < n; i++) {
            model.liveOneDay();
        }
        is.due(run + ": live", town.live(n), model.day);
    }

    private void newRule() {
        int agent = below(model.agents.size());
        String text = below(6) == 0 ? faultyText() : ruleText();
        if (text.length() > 60) {
            text = text.substring(0, 60);
        }
        ReferenceTown.Reading reading = new ReferenceTown.Reading(text, agent, model.agents.size());
        int due = -100 - reading.fault;
        if (reading.fault < 0) {
            int size = model.agents.get(agent).rules.size();
            due = size < 6 ? size : MarketTown.FULL;
            if (size < 6) {
                model.agents.get(agent).rules.add(reading.rule);
            }
        }
        is.due(run + ": rule '" + text + "'", Expect.rule(town, agent, text), due);
    }

    private String faultyText() {
        String text = ruleText();
        String fault = FAULTS[below(FAULTS.length)];
        int cut = below(text.length() + 1);
        switch (below(4)) {
            case 0:
                return text.substring(0, cut);
            case 1:
                return text.substring(0, cut) + fault + text.substring(cut);
            case 2:
                return fault + " " + text;
            default:
                return text + " ".repeat(below(3)) + fault;
        }
    }

    private String ruleText() {
        StringBuilder text = new StringBuilder();
        if (below(4) == 0) {
            text.append("every ").append(1 + below(4)).append(blanks());
        }
        if (below(4) == 0) {
            text.append("if ").append(condText()).append(blanks());
        }
        return text.append(actText()).toString();
    }

    private String blanks() {
        return " ".repeat(1 + (below(4) == 0 ? below(3) : 0));
    }

    private String condText() {
        String sign = below(2) == 0 ? " < " : " > ";
        switch (below(4)) {
            case 0:
                return "cash" + sign + below(200);
            case 1:
                return "have " + below(span) + sign + below(20);
            case 2:
                return "day" + sign + below(40);
            default:
                return "price " + below(span) + sign + below(15);
        }
    }

    private String actText() {
        int good = below(span);
        int many = 1 + below(below(4) == 0 ? 60 : 9);
        int price = 1 + below(below(4) == 0 ? 60 : 12);
        int other = below(model.agents.size());
        switch (crowded && below(3) > 0 ? 3 + below(4) : below(10)) {
            case 0:
            case 1:
                return "make " + good + " " + many;
            case 2:
                return "eat " + good + " " + many;
            case 3:
            case 4:
                return "ask " + good + " " + many + " " + price;
            case 5:
            case 6:
                return "bid " + good + " " + many + " " + price;
            case 7:
                return "pay " + other + " " + many;
            default:
                return "lend " + other + " " + (1 + below(120)) + " " + (1 + below(6));
        }
    }

    private void compareSome() {
        for (int agent = 0; agent < model.agents.size(); agent++) {
            for (int what = 0; what < 7; what++) {
                is.due(run + ": about(" + agent + ", " + what + ")", town.about(agent, what), model.about(agent, what));
            }
        }
        for (int what = 0; what < 8; what++) {
            int due = what == 5 ? 0 : model.count(what);
            is.due(run + ": count(" + what + ")", town.count(what), due);
        }
        for (int good = 0; good < 5; good++) {
            for (int what = 0; what < 8; what++) {
                is.due(run + ": goods(" + good + ", " + what + ")", town.goods(good, what), model.goods(good, what));
            }
        }
    }

    private void compareAll() {
        compareSome();
        for (int agent = 0; agent < model.agents.size(); agent++) {
            for (int good = 0; good < 5; good++) {
                for (int age = -1; age < 10; age++) {
                    is.due(run + ": has", town.has(agent, good, age), model.has(agent, good, age));
                }
            }
            for (int rule = 0; rule < model.agents.get(agent).rules.size(); rule++) {
                for (int what = 0; what < 9; what++) {
                    is.due(run + ": told " + what, town.told(agent, rule, what), model.told(agent, rule, what));
                }
            }
            for (int to = 0; to < model.agents.size(); to++) {
                for (int reason = -1; reason < 5; reason++) {
                    is.due(run + ": paid", town.paid(agent, to, reason), model.paid(agent, to, reason));
                }
            }
        }
        for (int i = 0; i < 21; i++) {
            for (int what = 0; what < 4; what++) {
                is.due(run + ": loan", town.loan(i, what), model.loan(i, what));
            }
        }
        for (int kind = 0; kind < 6; kind++) {
            is.due(run + ": median", town.median(kind), model.median(kind));
        }
    }
}
