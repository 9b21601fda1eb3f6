import java.util.ArrayList;
import java.util.Collections;
import java.util.Comparator;
import java.util.List;
import java.util.TreeSet;

/**
 * The document told once more, word by word and with lists of single pieces and offers, to compare
 * MarketTown with. It takes RULES as texts and checks no arguments: RandomRuns asks it for valid ones.
 */
final class ReferenceTown {
    static final class Agent {
        int kind;
        int cash;
        boolean broke;
        int place = MarketTown.NONE;
        final List<Rule> rules = new ArrayList<>();
        /** For each good the ages of its pieces, one entry a piece. */
        final List<List<Integer>> pieces = new ArrayList<>();

        Agent(int kind, int cash) {
            this.kind = kind;
            this.cash = cash;
            for (int good = 0; good < 5; good++) {
                pieces.add(new ArrayList<>());
            }
        }

        Agent copy() {
            Agent other = new Agent(kind, cash);
            other.broke = broke;
            other.place = place;
            for (Rule rule : rules) {
                other.rules.add(rule.copy());
            }
            for (int good = 0; good < 5; good++) {
                other.pieces.get(good).addAll(pieces.get(good));
            }
            return other;
        }
    }

    static final class Rule {
        String act;
        int[] numbers = new int[3];
        int every = 1;
        String cond;
        boolean above;
        int condGood = MarketTown.NONE;
        int condNumber = MarketTown.NONE;
        int fired;

        Rule copy() {
            Rule other = new Rule();
            other.act = act;
            other.numbers = numbers.clone();
            other.every = every;
            other.cond = cond;
            other.above = above;
            other.condGood = condGood;
            other.condNumber = condNumber;
            other.fired = fired;
            return other;
        }
    }

    static final class Offer {
        final Agent whose;
        final int good;
        final int price;
        int left;

        Offer(Agent whose, int good, int many, int price) {
            this.whose = whose;
            this.good = good;
            this.left = many;
            this.price = price;
        }
    }

    static final class Loan {
        final int lender;
        final int debtor;
        final int owed;
        final int due;

        Loan(int lender, int debtor, int owed, int due) {
            this.lender = lender;
            this.debtor = debtor;
            this.owed = owed;
            this.due = due;
        }
    }

    List<Agent> agents = new ArrayList<>();
    List<Loan> loans = new ArrayList<>();
    int day;
    long lots = 1;
    int tax;
    int interest;
    int[][] goods = new int[5][7];
    int[][] recipes = new int[5][];
    long[][][] paid = new long[12][12][5];
    private final List<Offer> asks = new ArrayList<>();
    private final List<Offer> bids = new ArrayList<>();

    ReferenceTown copy() {
        ReferenceTown other = new ReferenceTown();
        for (Agent agent : agents) {
            other.agents.add(agent.copy());
        }
        other.loans.addAll(loans);
        other.day = day;
        other.lots = lots;
        other.tax = tax;
        other.interest = interest;
        for (int good = 0; good < 5; good++) {
            other.goods[good] = goods[good].clone();
            other.recipes[good] = recipes[good];
        }
        for (int from = 0; from < 12; from++) {
            for (int to = 0; to < 12; to++) {
                other.paid[from][to] = paid[from][to].clone();
            }
        }
        return other;
    }

    // ---- rules

    /** A text read by its words: the rule, or the place of its fault. */
    static final class Reading {
        Rule rule = new Rule();
        int fault = -1;
        private final List<String> words = new ArrayList<>();
        private final List<Integer> places = new ArrayList<>();
        private int at;

        Reading(String text, int self, int agents) {
            for (int i = 0; i < text.length(); i++) {
                if (text.charAt(i) != ' ' && (i == 0 || text.charAt(i - 1) == ' ')) {
                    int end = text.indexOf(' ', i);
                    words.add(text.substring(i, end < 0 ? text.length() : end));
                    places.add(i);
                }
            }
            words.add("");
            places.add(text.length());
            read(self, agents);
        }

        private void read(int self, int agents) {
            if (words.get(at).equals("every")) {
                at++;
                rule.every = number(1, 99);
            }
            if (fault < 0 && words.get(at).equals("if")) {
                at++;
                readCond();
            }
            if (fault < 0) {
                readAct(self, agents);
            }
            if (fault < 0 && at < words.size() - 1) {
                fault = places.get(at);
            }
        }

        private void readCond() {
            rule.cond = word("cash", "have", "day", "price");
            if (rule.cond.equals("have") || rule.cond.equals("price")) {
                rule.condGood = number(0, 4);
            }
            rule.above = word("<", ">").equals(">");
            rule.condNumber = number(0, 9999);
        }

        private void readAct(int self, int agents) {
            rule.act = word("make", "eat", "ask", "bid", "pay", "lend");
            boolean toAgent = rule.act.equals("pay") || rule.act.equals("lend");
            int place = places.get(at);
            rule.numbers[0] = number(0, toAgent ? agents - 1 : 4);
            if (fault < 0 && toAgent && rule.numbers[0] == self) {
                fault = place;
            }
            rule.numbers[1] = number(1, 999);
            boolean third = rule.act.equals("ask") || rule.act.equals("bid") || rule.act.equals("lend");
            rule.numbers[2] = third ? number(1, rule.act.equals("lend") ? 30 : 999) : MarketTown.NONE;
        }

        private String word(String... allowed) {
            if (fault < 0) {
                for (String one : allowed) {
                    if (words.get(at).equals(one)) {
                        at++;
                        return one;
                    }
                }
                fault = places.get(at);
            }
            return "";
        }

        private int number(int least, int most) {
            if (fault < 0) {
                String word = words.get(at);
                if (word.matches("[0-9]+")) {
                    String plain = word.replaceFirst("^0+(?=.)", "");
                    int value = plain.length() > 4 ? Integer.MAX_VALUE : Integer.parseInt(plain);
                    if (value >= least && value <= most) {
                        at++;
                        return value;
                    }
                }
                fault = places.get(at);
            }
            return 0;
        }
    }

    int told(int agent, int rule, int what) {
        Rule it = agents.get(agent).rules.get(rule);
        switch (what) {
            case 0:
                return List.of("make", "eat", "ask", "bid", "pay", "lend").indexOf(it.act);
            case 4:
                return it.every;
            case 5:
                return it.cond == null ? MarketTown.NONE
                        : List.of("cash", "have", "day", "price").indexOf(it.cond) + (it.above ? 4 : 0);
            case 6:
                return it.condGood;
            case 7:
                return it.condNumber;
            case 8:
                return it.fired;
            default:
                return it.numbers[what - 1];
        }
    }

    // ---- a day

    void liveOneDay() {
        List<Agent> order = drawOrder();
        asks.clear();
        bids.clear();
        for (Agent agent : order) {
            if (!agent.broke) {
                for (Rule rule : agent.rules) {
                    if (fires(agent, rule)) {
                        rule.fired++;
                        act(agent, rule);
                    }
                }
            }
        }
        for (int good = 0; good < 5; good++) {
            market(good);
        }
        settleLoans();
        spoil();
        day++;
    }

    private List<Agent> drawOrder() {
        List<Agent> order = new ArrayList<>(agents);
        for (int i = order.size() - 1; i >= 1; i--) {
            lots = (lots * 1103515245L + 12345L) % 2147483648L;
            Collections.swap(order, i, (int) (lots / 65536 % (i + 1)));
        }
        for (int i = 0; i < order.size(); i++) {
            order.get(i).place = i;
        }
        return order;
    }

    private boolean fires(Agent agent, Rule rule) {
        int kind = agent.kind;
        if (rule.act.equals("make") && kind != 2 && kind != 3
                || rule.act.equals("eat") && kind != 1
                || rule.act.equals("lend") && kind != 4 && kind != 5) {
            return false;
        }
        if (day % rule.every != 0) {
            return false;
        }
        if (rule.cond == null) {
            return true;
        }
        int left;
        switch (rule.cond) {
            case "cash":
                left = agent.cash;
                break;
            case "have":
                left = agent.pieces.get(rule.condGood).size();
                break;
            case "day":
                left = day;
                break;
            default:
                left = goods[rule.condGood][2];
        }
        return rule.above ? left > rule.condNumber : left < rule.condNumber;
    }

    private int free(Agent agent, int good) {
        int many = agent.pieces.get(good).size();
        for (Offer ask : asks) {
            if (ask.whose == agent && ask.good == good) {
                many -= ask.left;
            }
        }
        return many;
    }

    private int freeCash(Agent agent) {
        int cash = agent.cash;
        for (Offer bid : bids) {
            if (bid.whose == agent) {
                cash -= bid.left * bid.price;
            }
        }
        return cash;
    }

    private void act(Agent agent, Rule rule) {
        int first = rule.numbers[0];
        int many = rule.numbers[1];
        int third = rule.numbers[2];
        switch (rule.act) {
            case "make":
                for (int i = 0; i < many && canMake(agent, first); i++) {
                    takeForOne(agent, first);
                    goods[first][5]++;
                    agent.pieces.get(first).add(-1);
                }
                agent.pieces.get(first).replaceAll(age -> Math.max(age, 0));
                break;
            case "eat":
                int eaten = Math.min(many, free(agent, first));
                takeOldest(agent, first, eaten);
                goods[first][4] += eaten;
                break;
            case "ask":
                asks.add(new Offer(agent, first, Math.min(many, free(agent, first)), third));
                break;
            case "bid":
                bids.add(new Offer(agent, first, Math.min(many, freeCash(agent) / third), third));
                break;
            case "pay":
                hand(agent, agents.get(first), 2, Math.min(many, freeCash(agent)));
                break;
            default:
                int sum = Math.min(many, freeCash(agent));
                if (sum > 0 && loans.size() < 20) {
                    hand(agent, agents.get(first), 3, sum);
                    loans.add(new Loan(agents.indexOf(agent), first, sum + sum * interest / 100, day + third));
                }
        }
    }

    /** One by one; pieces made in this act have the age -1 meanwhile, so that they are not used for it. */
    private boolean canMake(Agent agent, int good) {
        int[] recipe = recipes[good];
        if (recipe == null) {
            return false;
        }
        int fresh = (int) agent.pieces.get(good).stream().filter(age -> age < 0).count();
        int[] need = new int[5];
        need[recipe[0]] += recipe[1];
        need[recipe[2]] += recipe[3];
        for (int of = 0; of < 5; of++) {
            int has = free(agent, of) - (of == good ? fresh : 0);
            if (need[of] > 0 && has < need[of]) {
                return false;
            }
        }
        return true;
    }

    private void takeForOne(Agent agent, int good) {
        int[] recipe = recipes[good];
        takeOldest(agent, recipe[0], recipe[1]);
        takeOldest(agent, recipe[2], recipe[3]);
    }

    private static List<Integer> takeOldest(Agent agent, int good, int many) {
        List<Integer> pieces = agent.pieces.get(good);
        pieces.sort(Comparator.reverseOrder());
        List<Integer> taken = new ArrayList<>(pieces.subList(0, many));
        pieces.subList(0, many).clear();
        return taken;
    }

    private void hand(Agent from, Agent to, int reason, int sum) {
        from.cash -= sum;
        to.cash += sum;
        paid[agents.indexOf(from)][agents.indexOf(to)][reason] += sum;
    }

    // ---- markets

    private void market(int good) {
        List<Offer> asking = new ArrayList<>(asks);
        List<Offer> bidding = new ArrayList<>(bids);
        asking.removeIf(offer -> offer.good != good || offer.left == 0);
        bidding.removeIf(offer -> offer.good != good || offer.left == 0);
        switch (goods[good][1]) {
            case 0:
                posted(asking, bidding);
                break;
            case 1:
                called(asking, bidding);
                break;
            default:
                haggled(asking, bidding);
        }
    }

    private void posted(List<Offer> asking, List<Offer> bidding) {
        for (Offer bid : bidding) {
            for (Offer ask = cheapest(asking); ask != null && bid.left > 0 && ask.price <= bid.price; ask = cheapest(asking)) {
                move(ask, bid, Math.min(ask.left, bid.left), ask.price);
            }
        }
    }

    private void called(List<Offer> asking, List<Offer> bidding) {
        TreeSet<Integer> prices = new TreeSet<>();
        asking.forEach(offer -> prices.add(offer.price));
        bidding.forEach(offer -> prices.add(offer.price));
        int most = 0;
        int best = 0;
        for (int price : prices) {
            int demand = bidding.stream().filter(offer -> offer.price >= price).mapToInt(offer -> offer.left).sum();
            int supply = asking.stream().filter(offer -> offer.price <= price).mapToInt(offer -> offer.left).sum();
            if (Math.min(demand, supply) > most) {
                most = Math.min(demand, supply);
                best = price;
            }
        }
        while (most > 0) {
            Offer ask = cheapest(asking);
            Offer bid = dearest(bidding);
            int many = Math.min(most, Math.min(ask.left, bid.left));
            move(ask, bid, many, best);
            most -= many;
        }
    }

    private void haggled(List<Offer> asking, List<Offer> bidding) {
        Offer ask = cheapest(asking);
        Offer bid = dearest(bidding);
        while (ask != null && bid != null && bid.price >= ask.price) {
            move(ask, bid, Math.min(ask.left, bid.left), (bid.price + ask.price) / 2);
            ask = cheapest(asking);
            bid = dearest(bidding);
        }
    }

    private static Offer cheapest(List<Offer> row) {
        Offer best = null;
        for (Offer offer : row) {
            if (offer.left > 0 && (best == null || offer.price < best.price)) {
                best = offer;
            }
        }
        return best;
    }

    private static Offer dearest(List<Offer> row) {
        Offer best = null;
        for (Offer offer : row) {
            if (offer.left > 0 && (best == null || offer.price > best.price)) {
                best = offer;
            }
        }
        return best;
    }

    private void move(Offer ask, Offer bid, int many, int price) {
        ask.left -= many;
        bid.left -= many;
        bid.whose.pieces.get(ask.good).addAll(takeOldest(ask.whose, ask.good, many));
        hand(bid.whose, ask.whose, 0, price * many);
        for (Agent agent : agents) {
            if (agent.kind == 5) {
                hand(ask.whose, agent, 1, price * many * tax / 1000);
                break;
            }
        }
        goods[ask.good][2] = price;
        goods[ask.good][3] += many;
    }

    // ---- loans and ages

    private void settleLoans() {
        for (Loan loan : new ArrayList<>(loans)) {
            if (loan.due == day && loans.contains(loan)) {
                Agent debtor = agents.get(loan.debtor);
                if (debtor.cash >= loan.owed) {
                    hand(debtor, agents.get(loan.lender), 4, loan.owed);
                    loans.remove(loan);
                } else {
                    goBroke(debtor, loan.debtor);
                }
            }
        }
    }

    private void goBroke(Agent debtor, int number) {
        debtor.broke = true;
        List<Loan> owed = new ArrayList<>(loans);
        owed.removeIf(loan -> loan.debtor != number);
        int together = owed.stream().mapToInt(loan -> loan.owed).sum();
        int cash = debtor.cash;
        for (Loan loan : owed) {
            hand(debtor, agents.get(loan.lender), 4, (int) ((long) cash * loan.owed / together));
        }
        for (int i = 0; debtor.cash > 0; i = (i + 1) % owed.size()) {
            hand(debtor, agents.get(owed.get(i).lender), 4, 1);
        }
        loans.removeAll(owed);
    }

    private void spoil() {
        for (Agent agent : agents) {
            for (int good = 0; good < 5; good++) {
                int life = goods[good][0];
                List<Integer> pieces = agent.pieces.get(good);
                pieces.replaceAll(age -> Math.min(9, age + 1));
                int before = pieces.size();
                pieces.removeIf(age -> life > 0 && age >= life);
                goods[good][6] += before - pieces.size();
            }
        }
    }

    // ---- what is

    int about(int agent, int what) {
        Agent it = agents.get(agent);
        switch (what) {
            case 0:
                return it.kind;
            case 1:
                return it.cash;
            case 2:
                return it.broke ? 1 : 0;
            case 3:
                return it.rules.size();
            case 4:
                return loans.stream().filter(loan -> loan.debtor == agent).mapToInt(loan -> loan.owed).sum();
            case 5:
                return loans.stream().filter(loan -> loan.lender == agent).mapToInt(loan -> loan.owed).sum();
            default:
                return it.place;
        }
    }

    int has(int agent, int good, int age) {
        return (int) agents.get(agent).pieces.get(good).stream().filter(one -> age < 0 || one == age).count();
    }

    int goods(int good, int what) {
        return what < 7 ? goods[good][what] : agents.stream().mapToInt(agent -> agent.pieces.get(good).size()).sum();
    }

    int paid(int from, int to, int reason) {
        long sum = 0;
        for (int i = 0; i < 5; i++) {
            sum += reason < 0 || reason == i ? paid[from][to][i] : 0;
        }
        return (int) sum;
    }

    int loan(int i, int what) {
        if (i >= loans.size()) {
            return MarketTown.NONE;
        }
        Loan loan = loans.get(i);
        int[] row = {loan.lender, loan.debtor, loan.owed, loan.due};
        return row[what];
    }

    int median(int kind) {
        List<Integer> row = new ArrayList<>();
        for (Agent agent : agents) {
            if (kind == 0 || agent.kind == kind || kind == 2 && agent.kind == 3) {
                row.add(agent.cash);
            }
        }
        Collections.sort(row);
        return row.isEmpty() ? MarketTown.NONE : row.get((row.size() - 1) / 2);
    }

    int differs(ReferenceTown world) {
        for (int i = 0; i < Math.max(agents.size(), world.agents.size()); i++) {
            if (i >= agents.size() || i >= world.agents.size() || agents.get(i).cash != world.agents.get(i).cash) {
                return i;
            }
            for (int good = 0; good < 5; good++) {
                List<Integer> here = new ArrayList<>(agents.get(i).pieces.get(good));
                List<Integer> there = new ArrayList<>(world.agents.get(i).pieces.get(good));
                Collections.sort(here);
                Collections.sort(there);
                if (!here.equals(there)) {
                    return i;
                }
            }
        }
        return MarketTown.NONE;
    }

    int count(int what) {
        switch (what) {
            case 0:
                return agents.size();
            case 1:
                return day;
            case 2:
                return agents.stream().mapToInt(agent -> agent.cash).sum();
            case 3:
                return loans.size();
            case 4:
                return (int) agents.stream().filter(agent -> agent.broke).count();
            case 6:
                return (int) lots;
            default:
                long sum = 0;
                for (int from = 0; from < 12; from++) {
                    for (int to = 0; to < 12; to++) {
                        sum += paid(from, to, -1);
                    }
                }
                return (int) sum;
        }
    }
}
