import java.util.Random;

/** Runs of 512 calls by fixed seeds, each answer compared with that of ReferenceTown. */
final class RandomRuns {
    private static final int RUNS = 2500;
    /** An object is used for 512 calls at most: some set it up, some are steps, the rest are questions. */
    private static final int MOST_CALLS = 512, CALLS_OF_SETUP = 290, CALLS_OF_STEPS = 430, QUESTIONS_A_LIFE = 8;
    private static final String[] FAULTS = {"", " ", "every", "if", "x", "0", "1000", "9999", "10000", "<", "every 100",
        "if cash", "eat 0", "make 5 1", "pay 0 1", "lend 0 1 31", "12x", "007", "if have 4 <", "if price 1 > 3"};

    private final Expect is = new Expect();
    private Random random;
    private MarketTown town;
    private ReferenceTown model;
    private ReferenceTown[] worlds;
    private String run;
    private int calls;
    /** How many goods the run's rules speak of, and whether they mostly offer: then markets are crowded. */
    private int span;
    private boolean crowded;

    public static void main(String[] args) {
        RandomRuns runs = new RandomRuns();
        for (int seed = 1; seed <= RUNS; seed++) {
            runs.oneRun(seed);
        }
        runs.is.end();
    }

    private void oneRun(int seed) {
        random = new Random(seed);
        town = new MarketTown();
        model = new ReferenceTown();
        worlds = new ReferenceTown[3];
        run = "run " + seed;
        calls = 0;
        span = 1 + below(5);
        crowded = below(2) == 0;
        int first = 2 + random.nextInt(10);
        for (int i = 0; i < first; i++) {
            newAgent();
        }
        for (int good = 0; good < 5; good++) {
            newGood(good);
            newRecipe(good);
        }
        for (int i = 0; i < (crowded ? 20 : 4); i++) {
            give();
        }
        int rules = below(crowded ? 80 : 30);
        for (int i = 0; i < rules && calls < CALLS_OF_SETUP; i++) {
            newRule();
        }
        while (calls < CALLS_OF_STEPS) {
            oneStep();
        }
        while (calls < MOST_CALLS) {
            ask();
        }
    }

    private void due(String what, long got, long want) {
        calls++;
        is.due(run + ": " + what, got, want);
    }

    private int below(int n) {
        return random.nextInt(n);
    }

    private void oneStep() {
        switch (below(16)) {
            case 0:
                newAgent();
                break;
            case 1:
                newGood(below(5));
                break;
            case 2:
                newRecipe(below(5));
                break;
            case 3:
                newPolicy();
                break;
            case 4:
                give();
                break;
            case 5:
                dropRule();
                break;
            case 6:
                world();
                break;
            case 7:
            case 8:
            case 9:
                live(1 + below(below(4) == 0 ? 30 : 3));
                for (int i = 0; i < QUESTIONS_A_LIFE; i++) {
                    ask();
                }
                break;
            default:
                newRule();
        }
    }

    private void newAgent() {
        if (model.agents.size() < 12) {
            int kind = below(6);
            int cash = below(3) == 0 ? below(100001) : below(300);
            model.agents.add(new ReferenceTown.Agent(kind, cash));
            due("agent", town.agent(kind, cash), model.agents.size() - 1);
        } else {
            due("agent", town.agent(below(6), 5), MarketTown.FULL);
        }
    }

    private void newGood(int good) {
        int life = below(3) == 0 ? 0 : below(10);
        int market = below(3);
        model.goods[good][0] = life;
        model.goods[good][1] = market;
        due("good", town.good(good, life, market), 0);
    }

    private void newRecipe(int good) {
        int[] row = {below(5), below(4) - 1, below(5), below(3)};
        model.recipes[good] = row[1] < 0 ? null : row;
        due("recipe", town.recipe(good, row[0], row[1], row[2], row[3]), 0);
    }

    private void newPolicy() {
        model.tax = below(1001);
        model.interest = below(101);
        due("policy", town.policy(model.tax, model.interest), 0);
        if (below(2) == 0) {
            model.lots = below(Integer.MAX_VALUE);
            due("lots", town.lots((int) model.lots), 0);
        }
    }

    private void give() {
        int agent = below(model.agents.size());
        int good = below(span);
        int many = 1 + below(below(5) == 0 ? 999 : 20);
        for (int i = 0; i < many; i++) {
            model.agents.get(agent).pieces.get(good).add(0);
        }
        due("give", town.give(agent, good, many), model.has(agent, good, -1));
    }

    private void dropRule() {
        int agent = below(model.agents.size());
        int size = model.agents.get(agent).rules.size();
        if (size > 0) {
            model.agents.get(agent).rules.remove(size - 1);
        }
        due("unrule", town.unrule(agent), size > 0 ? size - 1 : MarketTown.NO);
    }

    private void world() {
        int k = below(3);
        switch (below(3)) {
            case 0:
                worlds[k] = model.copy();
                due("save", town.save(k), model.day);
                break;
            case 1:
                if (worlds[k] != null) {
                    model = worlds[k].copy();
                }
                due("load", town.load(k), worlds[k] == null ? MarketTown.NO : model.day);
                break;
            default:
                due("differs", town.differs(k), worlds[k] == null ? MarketTown.NO : model.differs(worlds[k]));
        }
    }

    private void live(int n) {
        if (model.day + n > 700) {
            due("live", town.live(n), MarketTown.BAD);
            return;
        }
        for (int i = 0; i < n; i++) {
            model.liveOneDay();
        }
        due("live", town.live(n), model.day);
    }

    private void newRule() {
        int agent = below(model.agents.size());
        String text = below(6) == 0 ? faultyText() : ruleText();
        if (text.length() > 60) {
            text = text.substring(0, 60);
        }
        ReferenceTown.Reading reading = new ReferenceTown.Reading(text, agent, model.agents.size());
        int due = -100 - reading.fault;
        if (reading.fault < 0) {
            int size = model.agents.get(agent).rules.size();
            due = size < 6 ? size : MarketTown.FULL;
            if (size < 6) {
                model.agents.get(agent).rules.add(reading.rule);
            }
        }
        calls += 1 + (text.length() + 19) / 20;
        due("rule '" + text + "'", Expect.rule(town, agent, text), due);
    }

    private String faultyText() {
        String text = ruleText();
        String fault = FAULTS[below(FAULTS.length)];
        int cut = below(text.length() + 1);
        switch (below(4)) {
            case 0:
                return text.substring(0, cut);
            case 1:
                return text.substring(0, cut) + fault + text.substring(cut);
            case 2:
                return fault + " " + text;
            default:
                return text + " ".repeat(below(3)) + fault;
        }
    }

    private String ruleText() {
        StringBuilder text = new StringBuilder();
        if (below(4) == 0) {
            text.append("every ").append(1 + below(4)).append(blanks());
        }
        if (below(4) == 0) {
            text.append("if ").append(condText()).append(blanks());
        }
        return text.append(actText()).toString();
    }

    private String blanks() {
        return " ".repeat(1 + (below(4) == 0 ? below(3) : 0));
    }

    private String condText() {
        String sign = below(2) == 0 ? " < " : " > ";
        switch (below(4)) {
            case 0:
                return "cash" + sign + below(200);
            case 1:
                return "have " + below(span) + sign + below(20);
            case 2:
                return "day" + sign + below(40);
            default:
                return "price " + below(span) + sign + below(15);
        }
    }

    private String actText() {
        int good = below(span);
        int many = 1 + below(below(4) == 0 ? 60 : 9);
        int price = 1 + below(below(4) == 0 ? 60 : 12);
        int other = below(model.agents.size());
        switch (crowded && below(3) > 0 ? 3 + below(4) : below(10)) {
            case 0:
            case 1:
                return "make " + good + " " + many;
            case 2:
                return "eat " + good + " " + many;
            case 3:
            case 4:
                return "ask " + good + " " + many + " " + price;
            case 5:
            case 6:
                return "bid " + good + " " + many + " " + price;
            case 7:
                return "pay " + other + " " + many;
            default:
                return "lend " + other + " " + (1 + below(120)) + " " + (1 + below(6));
        }
    }

    /** A question of those that have an answer. */
    private void ask() {
        int agent = below(model.agents.size());
        int other = below(model.agents.size());
        int good = below(5);
        switch (below(8)) {
            case 0:
            case 1:
                askAbout(agent, below(7));
                break;
            case 2:
                askGoods(good, below(8));
                break;
            case 3:
                int age = below(3) == 0 ? -1 : below(10);
                due("has", town.has(agent, good, age), model.has(agent, good, age));
                break;
            case 4:
                int reason = below(6) - 1;
                due("paid", town.paid(agent, other, reason), model.paid(agent, other, reason));
                break;
            case 5:
                askCount(below(8));
                break;
            case 6:
                askTold(agent);
                break;
            default:
                askLoanOrMedian();
        }
    }

    private void askAbout(int agent, int what) {
        due("about(" + agent + ", " + what + ")", town.about(agent, what), model.about(agent, what));
    }

    private void askGoods(int good, int what) {
        due("goods(" + good + ", " + what + ")", town.goods(good, what), model.goods(good, what));
    }

    private void askCount(int what) {
        due("count(" + what + ")", town.count(what), what == 5 ? 0 : model.count(what));
    }

    private void askTold(int agent) {
        int rules = model.agents.get(agent).rules.size();
        int rule = below(rules + 1);
        int what = below(9);
        int due = rule < rules ? model.told(agent, rule, what) : MarketTown.BAD;
        due("told(" + agent + ", " + rule + ", " + what + ")", town.told(agent, rule, what), due);
    }

    private void askLoanOrMedian() {
        if (below(3) == 0) {
            int kind = below(6);
            due("median(" + kind + ")", town.median(kind), model.median(kind));
        } else {
            int loan = below(model.loans.size() + 1);
            int what = below(4);
            due("loan(" + loan + ", " + what + ")", town.loan(loan, what), model.loan(loan, what));
        }
    }
}
