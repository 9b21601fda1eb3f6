/** Promises 13 to 20: what is. */
final class AnswerTests {
    private static final int BAD = MarketTown.BAD, NONE = MarketTown.NONE;
    private static final int LEAST = Integer.MIN_VALUE, MOST = Integer.MAX_VALUE;
    private static final Expect is = new Expect();

    public static void main(String[] args) {
        about();
        isOf();
        has();
        told();
        goods();
        paid();
        loan();
        median();
        is.end();
    }

    private static void about() {
        MarketTown town = new MarketTown();
        is.due("13: no agent", town.about(0, 0), BAD);
        town.agent(4, 500);
        town.agent(3, 0);
        town.policy(0, 10);
        Expect.rule(town, 0, "lend 1 50 2");
        Expect.rule(town, 0, "lend 1 20 2");
        town.live(1);
        town.agent(2, 7);
        int[][] due = {{4, 430, 0, 2, 0, 77, -1}, {3, 70, 0, 0, 77, 0, -1}, {2, 7, 0, 0, 0, 0, NONE}};
        for (int agent = 0; agent < 3; agent++) {
            for (int what = 0; what < 7; what++) {
                if (due[agent][what] != -1) {
                    is.due("13: about(" + agent + ", " + what + ")", town.about(agent, what), due[agent][what]);
                }
            }
        }
        is.due("13: places", town.about(0, 6) + town.about(1, 6), 1);
        int[][] bad = {{-1, 0}, {3, 0}, {12, 0}, {LEAST, 0}, {MOST, 0}, {0, -1}, {0, 7}, {0, LEAST}, {0, MOST}, {3, 7}};
        for (int[] row : bad) {
            is.due("13: about(" + row[0] + ", " + row[1] + ")", town.about(row[0], row[1]), BAD);
        }
    }

    private static void isOf() {
        MarketTown town = new MarketTown();
        is.due("14: no agent", town.isOf(0, 0), BAD);
        for (int kind = 0; kind < 6; kind++) {
            town.agent(kind, 0);
        }
        for (int agent = 0; agent < 6; agent++) {
            for (int kind = 0; kind < 6; kind++) {
                boolean due = kind == 0 || kind == agent || (agent == 3 && kind == 2);
                is.due("14: isOf(" + agent + ", " + kind + ")", town.isOf(agent, kind), due ? 1 : 0);
            }
        }
        int[][] bad = {{-1, 0}, {6, 0}, {0, -1}, {0, 6}, {LEAST, 0}, {MOST, 0}, {0, LEAST}, {0, MOST}};
        for (int[] row : bad) {
            is.due("14: isOf(" + row[0] + ", " + row[1] + ")", town.isOf(row[0], row[1]), BAD);
        }
    }

    private static void has() {
        MarketTown town = new MarketTown();
        is.due("15: no agent", town.has(0, 0, 0), BAD);
        town.agent(0, 0);
        town.agent(0, 0);
        for (int day = 0; day < 10; day++) {
            town.give(1, 4, day + 1);
            if (day < 9) {
                town.live(1);
            }
        }
        for (int age = 0; age < 10; age++) {
            is.due("15: of age " + age, town.has(1, 4, age), 10 - age);
            is.due("15: of another", town.has(0, 4, age), 0);
            is.due("15: of another good", town.has(1, 3, age), 0);
        }
        is.due("15: of all", town.has(1, 4, -1), 55);
        int[][] bad = {{-1, 0, 0}, {2, 0, 0}, {0, -1, 0}, {0, 5, 0}, {0, 0, -2}, {0, 0, 10}, {LEAST, 0, 0},
            {MOST, 0, 0}, {0, LEAST, 0}, {0, MOST, 0}, {0, 0, LEAST}, {0, 0, MOST}};
        for (int[] row : bad) {
            is.due("15: has(" + row[0] + ", " + row[1] + ", " + row[2] + ")", town.has(row[0], row[1], row[2]), BAD);
        }
    }

    private static void told() {
        MarketTown town = new MarketTown();
        is.due("16: no agent", town.told(0, 0, 0), BAD);
        town.agent(0, 9);
        town.agent(0, 9);
        is.due("16: no rule", town.told(0, 0, 0), BAD);
        Expect.rule(town, 1, "pay 0 1");
        Expect.rule(town, 1, "every 7 if price 3 > 8 bid 4 6 5");
        Expect.rule(town, 1, "if cash < 9 lend 0 2 3");
        int[][] due = {{4, 0, 1, NONE, 1, NONE, NONE, NONE, 0}, {3, 4, 6, 5, 7, 7, 3, 8, 0}, {5, 0, 2, 3, 1, 0, NONE, 9, 0}};
        for (int rule = 0; rule < 3; rule++) {
            for (int what = 0; what < 9; what++) {
                is.due("16: told(1, " + rule + ", " + what + ")", town.told(1, rule, what), due[rule][what]);
            }
        }
        town.live(12);
        is.due("16: fired, with or without what it could do", town.told(1, 0, 8), 12);
        is.due("16: never fired", town.told(1, 1, 8), 0);
        is.due("16: may not", town.told(1, 2, 8), 0);
        int[][] bad = {{-1, 0, 0}, {2, 0, 0}, {0, 0, 0}, {1, -1, 0}, {1, 3, 0}, {1, 0, -1}, {1, 0, 9}, {LEAST, 0, 0},
            {MOST, 0, 0}, {1, LEAST, 0}, {1, MOST, 0}, {1, 0, LEAST}, {1, 0, MOST}};
        for (int[] row : bad) {
            is.due("16: told(" + row[0] + ", " + row[1] + ", " + row[2] + ")", town.told(row[0], row[1], row[2]), BAD);
        }
    }

    private static void goods() {
        MarketTown town = new MarketTown();
        town.agent(1, 100);
        town.agent(3, 0);
        town.good(2, 3, 0);
        town.recipe(2, 0, 0, 0, 0);
        Expect.rule(town, 1, "make 2 9");
        Expect.rule(town, 1, "ask 2 5 4");
        Expect.rule(town, 0, "eat 2 1");
        Expect.rule(town, 0, "bid 2 2 6");
        town.live(3);
        // each day 9 are made and 2 sold, 2 are eaten; of the first nine the other 7 spoil, 4 of them bought ones
        int[] due = {3, 0, 4, 6, 2, 27, 7, 18};
        for (int what = 0; what < 8; what++) {
            is.due("17: goods(2, " + what + ")", town.goods(2, what), due[what]);
        }
        is.due("17: there are", town.goods(2, 7), town.has(0, 2, -1) + town.has(1, 2, -1));
        is.due("17: of another good", town.goods(1, 7), 0);
        int[][] bad = {{-1, 0}, {5, 0}, {0, -1}, {0, 8}, {LEAST, 0}, {MOST, 0}, {0, LEAST}, {0, MOST}};
        for (int[] row : bad) {
            is.due("17: goods(" + row[0] + ", " + row[1] + ")", town.goods(row[0], row[1]), BAD);
        }
    }

    private static void paid() {
        MarketTown town = new MarketTown();
        is.due("18: no agent", town.paid(0, 0, 0), BAD);
        town.agent(5, 1000);
        town.agent(0, 1000);
        town.policy(500, 100);
        town.give(1, 0, 10);
        Expect.rule(town, 0, "lend 1 10 1");
        Expect.rule(town, 0, "pay 1 3");
        Expect.rule(town, 0, "bid 0 1 100");
        Expect.rule(town, 1, "ask 0 1 50");
        Expect.rule(town, 1, "pay 0 4");
        town.live(2);
        int[][][] due = {{{0, 0, 0, 0, 0}, {100, 0, 6, 20, 0}}, {{0, 50, 8, 0, 20}, {0, 0, 0, 0, 0}}};
        int all = 0;
        for (int from = 0; from < 2; from++) {
            for (int to = 0; to < 2; to++) {
                int sum = 0;
                for (int reason = 0; reason < 5; reason++) {
                    int want = due[from][to][reason];
                    is.due("18: paid(" + from + ", " + to + ", " + reason + ")", town.paid(from, to, reason), want);
                    sum += want;
                }
                is.due("18: by all", town.paid(from, to, -1), sum);
                all += sum;
            }
        }
        is.due("24: all that was paid", town.count(7), all);
        int[][] bad = {{-1, 0, 0}, {2, 0, 0}, {0, -1, 0}, {0, 2, 0}, {0, 0, -2}, {0, 0, 5}, {LEAST, 0, 0}, {MOST, 0, 0},
            {0, LEAST, 0}, {0, MOST, 0}, {0, 0, LEAST}, {0, 0, MOST}};
        for (int[] row : bad) {
            is.due("18: paid(" + row[0] + ", " + row[1] + ", " + row[2] + ")", town.paid(row[0], row[1], row[2]), BAD);
        }
    }

    private static void loan() {
        MarketTown town = new MarketTown();
        is.due("19: none", town.loan(0, 0), NONE);
        is.due("19: BAD ahead of NONE", town.loan(0, 4), BAD);
        town.agent(0, 1000);
        town.agent(4, 1000);
        town.policy(0, 5);
        Expect.rule(town, 1, "lend 0 100 1");
        Expect.rule(town, 1, "every 2 lend 0 200 9");
        town.live(2);
        int[][] due = {{1, 0, 210, 9}, {1, 0, 105, 2}};
        for (int i = 0; i < 2; i++) {
            for (int what = 0; what < 4; what++) {
                is.due("19: loan(" + i + ", " + what + ")", town.loan(i, what), due[i][what]);
            }
        }
        is.due("19: not so many", town.loan(2, 0), NONE);
        is.due("19: by far not so many", town.loan(MOST, 3), NONE);
        int[][] bad = {{-1, 0}, {LEAST, 0}, {0, -1}, {0, 4}, {0, LEAST}, {0, MOST}, {2, 4}, {MOST, MOST}, {-1, 9}};
        for (int[] row : bad) {
            is.due("19: loan(" + row[0] + ", " + row[1] + ")", town.loan(row[0], row[1]), BAD);
        }
    }

    private static void median() {
        MarketTown town = new MarketTown();
        int[] bad = {-1, 6, LEAST, MOST};
        for (int kind : bad) {
            is.due("20: median(" + kind + ")", town.median(kind), BAD);
        }
        is.due("20: none", town.median(0), NONE);
        town.agent(3, 50);
        is.due("20: one", town.median(0), 50);
        is.due("20: a shop is a maker", town.median(2), 50);
        is.due("20: a shop", town.median(3), 50);
        is.due("20: no house", town.median(1), NONE);
        town.agent(2, 10);
        is.due("20: the lesser of two", town.median(2), 10);
        is.due("20: one shop still", town.median(3), 50);
        town.agent(2, 100000);
        is.due("20: the middle of three", town.median(2), 50);
        town.agent(2, 10);
        is.due("20: the lesser of both in the middle of four", town.median(2), 10);
        town.agent(2, 0);
        is.due("20: of five", town.median(2), 10);
        town.agent(5, 77);
        is.due("20: of all six", town.median(0), 10);
        town.agent(5, 78);
        is.due("20: of all seven", town.median(0), 50);
        is.due("20: of councils", town.median(5), 77);
        is.due("20: no bank", town.median(4), NONE);
    }
}
