/** Calls told as texts, such as "agent 1 100". */
final class Calls {
    private Calls() {
    }

    static int on(MarketTown town, String text) {
        String[] words = text.split(" ");
        int[] n = new int[words.length - 1];
        for (int i = 0; i < n.length; i++) {
            n[i] = Integer.parseInt(words[i + 1]);
        }
        return words[0].matches("agent|give|good|recipe|policy|lots|feed|trim|rule|unrule|live")
                ? change(town, words[0], n) : question(town, words[0], n);
    }

    private static int change(MarketTown town, String name, int[] n) {
        switch (name) {
            case "agent":
                return town.agent(n[0], n[1]);
            case "give":
                return town.give(n[0], n[1], n[2]);
            case "good":
                return town.good(n[0], n[1], n[2]);
            case "recipe":
                return town.recipe(n[0], n[1], n[2], n[3], n[4]);
            case "policy":
                return town.policy(n[0], n[1]);
            case "lots":
                return town.lots(n[0]);
            case "feed":
                return town.feed(n[0], n[1], n[2], n[3], n[4]);
            case "trim":
                return town.trim(n[0]);
            case "rule":
                return town.rule(n[0]);
            case "unrule":
                return town.unrule(n[0]);
            default:
                return town.live(n[0]);
        }
    }

    private static int question(MarketTown town, String name, int[] n) {
        switch (name) {
            case "about":
                return town.about(n[0], n[1]);
            case "isOf":
                return town.isOf(n[0], n[1]);
            case "has":
                return town.has(n[0], n[1], n[2]);
            case "told":
                return town.told(n[0], n[1], n[2]);
            case "goods":
                return town.goods(n[0], n[1]);
            case "paid":
                return town.paid(n[0], n[1], n[2]);
            case "loan":
                return town.loan(n[0], n[1]);
            case "median":
                return town.median(n[0]);
            case "save":
                return town.save(n[0]);
            case "load":
                return town.load(n[0]);
            case "differs":
                return town.differs(n[0]);
            case "count":
                return town.count(n[0]);
            default:
                throw new IllegalArgumentException(name);
        }
    }
}
