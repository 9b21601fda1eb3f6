/** Towns set up in few words, and LOTS that bring a wanted ORDER. */
final class Scene {
    static final int AGENT = 0, HOUSE = 1, MAKER = 2, SHOP = 3, BANK = 4, COUNCIL = 5;
    private static final int MOST_TRIES = 10_000_000;

    private Scene() {
    }

    /** A town with an agent for each pair of a kind and its cash. */
    static MarketTown of(int... kindsAndCash) {
        MarketTown town = new MarketTown();
        for (int i = 0; i < kindsAndCash.length; i += 2) {
            town.agent(kindsAndCash[i], kindsAndCash[i + 1]);
        }
        return town;
    }

    static void rules(MarketTown town, int agent, String... texts) {
        for (String text : texts) {
            if (Expect.rule(town, agent, text) < 0) {
                throw new IllegalStateException("the scene needs the rule '" + text + "'");
            }
        }
    }

    /** The next day has this ORDER of all its agents. */
    static void nextOrder(MarketTown town, int... order) {
        for (int lots = 0; lots < MOST_TRIES; lots++) {
            if (java.util.Arrays.equals(orderBy(lots, order.length), order)) {
                town.lots(lots);
                return;
            }
        }
        throw new IllegalStateException("no LOTS bring that order");
    }

    static int[] orderBy(long first, int agents) {
        int[] row = new int[agents];
        for (int i = 0; i < agents; i++) {
            row[i] = i;
        }
        long lots = first;
        for (int i = agents - 1; i >= 1; i--) {
            lots = lotsAfter(lots, 1);
            int j = (int) (lots / 65536 % (i + 1));
            int there = row[i];
            row[i] = row[j];
            row[j] = there;
        }
        return row;
    }

    static long lotsAfter(long first, int draws) {
        long lots = first;
        for (int i = 0; i < draws; i++) {
            lots = (lots * 1103515245L + 12345L) % 2147483648L;
        }
        return lots;
    }

    /** Lives so many days, by lives of thirty days at most. */
    static void days(MarketTown town, int many) {
        for (int left = many; left > 0; left -= 30) {
            town.live(Math.min(left, 30));
        }
    }
}
