/** Promises 1 to 11: a new object and what makes the town. */
final class TownTests {
    private static final int BAD = MarketTown.BAD, NO = MarketTown.NO, FULL = MarketTown.FULL, NONE = MarketTown.NONE;
    private static final int LEAST = Integer.MIN_VALUE, MOST = Integer.MAX_VALUE;
    private static final Expect is = new Expect();

    public static void main(String[] args) {
        newObject();
        agent();
        give();
        good();
        recipe();
        policy();
        lots();
        feed();
        trim();
        rulesThatAreTaken();
        rulesThatAreNot();
        ruleRefusals();
        unrule();
        is.end();
    }

    private static void newObject() {
        MarketTown town = new MarketTown();
        int[] due = {0, 0, 0, 0, 0, 0, 1, 0};
        for (int what = 0; what < 8; what++) {
            is.due("1: count(" + what + ")", town.count(what), due[what]);
        }
        for (int k = 0; k < 3; k++) {
            is.due("1: load(" + k + ")", town.load(k), NO);
            is.due("1: differs(" + k + ")", town.differs(k), NO);
        }
        for (int good = 0; good < 5; good++) {
            for (int what = 0; what < 8; what++) {
                is.due("1: goods(" + good + ", " + what + ")", town.goods(good, what), 0);
            }
        }
        is.due("1: about", town.about(0, 0), BAD);
        is.due("1: loan", town.loan(0, 0), NONE);
        is.due("1: median", town.median(0), NONE);
    }

    private static void agent() {
        MarketTown town = new MarketTown();
        int[] badKinds = {-1, 6, LEAST, MOST};
        int[] badCash = {-1, 100001, LEAST, MOST};
        for (int bad : badKinds) {
            is.due("2: kind " + bad, town.agent(bad, 5), BAD);
        }
        for (int bad : badCash) {
            is.due("2: cash " + bad, town.agent(1, bad), BAD);
        }
        is.due("2: none came", town.count(0), 0);
        for (int i = 0; i < 12; i++) {
            is.due("2: agent " + i, town.agent(i % 6, i == 0 ? 0 : i == 1 ? 100000 : i), i);
        }
        for (int i = 0; i < 12; i++) {
            is.due("2: its kind", town.about(i, 0), i % 6);
            is.due("2: its cash", town.about(i, 1), i == 0 ? 0 : i == 1 ? 100000 : i);
            is.due("2: not broke", town.about(i, 2), 0);
            is.due("2: its rules", town.about(i, 3), 0);
        }
        is.due("2: one too many", town.agent(0, 0), FULL);
        is.due("2: BAD ahead of FULL", town.agent(6, 0), BAD);
        is.due("2: BAD ahead of FULL", town.agent(0, -1), BAD);
        is.due("2: twelve", town.count(0), 12);
    }

    private static void give() {
        MarketTown town = new MarketTown();
        is.due("3: no agent", town.give(0, 0, 1), BAD);
        town.agent(0, 0);
        town.agent(1, 0);
        is.due("3: give", town.give(1, 4, 999), 999);
        is.due("3: give more", town.give(1, 4, 1), 1000);
        is.due("3: another good", town.give(1, 3, 2), 2);
        is.due("3: of age 0", town.has(1, 4, 0), 1000);
        town.live(1);
        is.due("3: with older ones", town.give(1, 4, 5), 1005);
        is.due("3: new ones", town.has(1, 4, 0), 5);
        is.due("3: older ones", town.has(1, 4, 1), 1000);
        int[][] bad = {{-1, 0, 1}, {2, 0, 1}, {LEAST, 0, 1}, {MOST, 0, 1}, {0, -1, 1}, {0, 5, 1}, {0, MOST, 1},
            {0, LEAST, 1}, {0, 0, 0}, {0, 0, -1}, {0, 0, 1000}, {0, 0, MOST}, {0, 0, LEAST}};
        for (int[] row : bad) {
            is.due("3: give(" + row[0] + ", " + row[1] + ", " + row[2] + ")", town.give(row[0], row[1], row[2]), BAD);
        }
        is.due("3: nothing came", town.has(0, 0, -1), 0);
    }

    private static void good() {
        MarketTown town = new MarketTown();
        is.due("4: good", town.good(4, 9, 2), 0);
        is.due("4: life", town.goods(4, 0), 9);
        is.due("4: market", town.goods(4, 1), 2);
        int[][] bad = {{-1, 0, 0}, {5, 0, 0}, {4, -1, 0}, {4, 10, 0}, {4, 0, -1}, {4, 0, 3},
            {LEAST, 0, 0}, {MOST, 0, 0}, {4, LEAST, 0}, {4, MOST, 0}, {4, 0, LEAST}, {4, 0, MOST}};
        for (int[] row : bad) {
            is.due("4: good(" + row[0] + ", " + row[1] + ", " + row[2] + ")", town.good(row[0], row[1], row[2]), BAD);
        }
        is.due("4: life is still", town.goods(4, 0), 9);
        is.due("4: market is still", town.goods(4, 1), 2);
        is.due("4: back", town.good(4, 0, 0), 0);
        is.due("4: life", town.goods(4, 0), 0);
        is.due("4: market", town.goods(4, 1), 0);
        is.due("4: others", town.goods(3, 0), 0);
    }

    private static void recipe() {
        MarketTown town = new MarketTown();
        town.agent(2, 0);
        for (int good = 0; good < 5; good++) {
            Expect.rule(town, 0, "make " + good + " 3");
        }
        town.live(1);
        for (int good = 0; good < 5; good++) {
            is.due("5: none at first", town.goods(good, 5), 0);
        }
        int[][] bad = {{-1, 0, 0, 0, 0}, {5, 0, 0, 0, 0}, {4, -1, 0, 0, 0}, {4, 5, 0, 0, 0}, {4, 0, -2, 0, 0},
            {4, 0, 10, 0, 0}, {4, 0, 0, -1, 0}, {4, 0, 0, 5, 0}, {4, 0, 0, 0, -1}, {4, 0, 0, 0, 10},
            {4, 0, -1, 0, -1}, {4, 0, -1, 0, 10}, {4, 5, -1, 0, 0}, {4, 0, -1, 5, 0}, {5, 0, -1, 0, 0},
            {LEAST, MOST, MOST, LEAST, MOST}};
        for (int[] row : bad) {
            is.due("5: recipe of " + row[0] + ", " + row[1] + ", " + row[2] + ", " + row[3] + ", " + row[4],
                    town.recipe(row[0], row[1], row[2], row[3], row[4]), BAD);
        }
        town.live(1);
        is.due("5: none still", town.goods(4, 5), 0);
        is.due("5: from nothing", town.recipe(4, 0, 0, 0, 0), 0);
        town.live(1);
        is.due("5: made", town.goods(4, 5), 3);
        is.due("5: none", town.recipe(4, 0, -1, 0, 9), 0);
        town.live(1);
        is.due("5: made no more", town.goods(4, 5), 3);
        is.due("5: of nine and nine", town.recipe(4, 0, 9, 1, 9), 0);
        town.give(0, 0, 19);
        town.give(0, 1, 20);
        town.live(1);
        is.due("5: made two", town.goods(4, 5), 5);
        is.due("5: what is left of a", town.has(0, 0, -1), 1);
        is.due("5: what is left of b", town.has(0, 1, -1), 2);
    }

    private static void policy() {
        MarketTown town = new MarketTown();
        town.agent(4, 1000);
        town.agent(5, 0);
        town.agent(0, 0);
        town.give(2, 0, 9);
        Expect.rule(town, 0, "bid 0 1 10");
        Expect.rule(town, 0, "lend 1 101 30");
        Expect.rule(town, 2, "ask 0 1 10");
        is.due("6: most", town.policy(1000, 100), 0);
        town.live(1);
        is.due("6: tax", town.paid(2, 1, 1), 10);
        is.due("6: interest", town.loan(0, 2), 202);
        int[][] bad = {{-1, 0}, {1001, 0}, {0, -1}, {0, 101}, {LEAST, 0}, {MOST, 0}, {0, LEAST}, {0, MOST}};
        for (int[] row : bad) {
            is.due("6: policy(" + row[0] + ", " + row[1] + ")", town.policy(row[0], row[1]), BAD);
        }
        town.live(1);
        is.due("6: tax is still", town.paid(2, 1, 1), 20);
        is.due("6: interest is still", town.loan(1, 2), 202);
        is.due("6: both cut", town.policy(199, 9), 0);
        town.live(1);
        is.due("6: tax is cut", town.paid(2, 1, 1), 21);
        is.due("6: interest is cut", town.loan(2, 2), 110);
        is.due("6: earlier loans stay", town.loan(0, 2), 202);
        is.due("6: least", town.policy(0, 0), 0);
        town.live(1);
        is.due("6: no tax", town.paid(2, 1, 1), 21);
        is.due("6: no interest", town.loan(3, 2), 101);
    }

    private static void lots() {
        MarketTown town = new MarketTown();
        is.due("7: most", town.lots(MOST), 0);
        is.due("7: it is", town.count(6), MOST);
        is.due("7: below", town.lots(-1), BAD);
        is.due("7: far below", town.lots(LEAST), BAD);
        is.due("7: it is still", town.count(6), MOST);
        is.due("7: least", town.lots(0), 0);
        is.due("7: it is", town.count(6), 0);
        town.agent(0, 0);
        town.live(1);
        is.due("7: one agent needs none", town.count(6), 0);
        town.agent(0, 0);
        town.live(1);
        is.due("7: two agents need one", town.count(6), 12345);
    }

    private static void feed() {
        MarketTown town = new MarketTown();
        is.due("8: twenty", town.feed(0, 0, 0, 0, 0), 20);
        is.due("8: forty", town.feed(-1, -1, -1, -1, -1), 40);
        is.due("8: count", town.count(5), 40);
        is.due("8: sixty", town.feed(0, 0, 0, 0, 0), 60);
        is.due("8: more", town.feed(0, 0, 0, 0, 0), FULL);
        is.due("8: sixty still", town.count(5), 60);
        town.trim(41);
        is.due("8: would be 61", town.feed(0, 0, 0, 0, 0), FULL);
        is.due("8: 41 still", town.count(5), 41);
        town.trim(40);
        is.due("8: sixty again", town.feed(0, 0, 0, 0, 0), 60);
        town.trim(0);
        town.agent(1, 0);
        is.due("8: highest byte first", town.feed(0x65617420, 0x30203939, 0x20202020, 0x20202020, 0x20202020), 20);
        is.due("8: read", town.rule(0), 0);
        is.due("8: as written", town.told(0, 0, 2), 99);
        town.feed(0x20202020, 0x20202020, 0x20202020, 0x20202020, 0xFF202020);
        is.due("8: a byte above 127 is a word", town.rule(0), -116);
    }

    private static void trim() {
        MarketTown town = new MarketTown();
        is.due("9: of nothing", town.trim(0), 0);
        is.due("9: more than it has", town.trim(1), BAD);
        town.feed(0, 0, 0, 0, 0);
        is.due("9: all", town.trim(20), 20);
        is.due("9: more than it has", town.trim(21), BAD);
        is.due("9: below", town.trim(-1), BAD);
        is.due("9: far below", town.trim(LEAST), BAD);
        is.due("9: far above", town.trim(MOST), BAD);
        is.due("9: all still", town.count(5), 20);
        is.due("9: less", town.trim(7), 7);
        is.due("9: as many", town.count(5), 7);
        is.due("9: not back", town.trim(8), BAD);
        is.due("9: more", town.feed(0, 0, 0, 0, 0), 27);
    }

    /** Each row: the text and what told answers of 0 to 8. */
    private static void rulesThatAreTaken() {
        String[] texts = {"make 4 999", "eat 0 1", "ask 3 7 999", "bid 0 1 1", "pay 0 5", "lend 11 999 30",
            "lend 2 1 1", "every 99 eat 0 1", "every 1 if cash < 0 eat 0 1", "if cash > 9999 eat 0 1",
            "if have 4 < 12 pay 2 9", "if have 0 > 12 pay 2 9", "if day < 3 ask 0 1 1", "if day > 3 ask 0 1 1",
            "if price 2 < 5 bid 1 2 3", "if price 4 > 0 bid 1 2 3", "   eat   3    4   ", "eat 00000003 0000000000000004"};
        int[][] due = {{0, 4, 999, NONE, 1, NONE, NONE, NONE}, {1, 0, 1, NONE, 1, NONE, NONE, NONE},
            {2, 3, 7, 999, 1, NONE, NONE, NONE}, {3, 0, 1, 1, 1, NONE, NONE, NONE}, {4, 0, 5, NONE, 1, NONE, NONE, NONE},
            {5, 11, 999, 30, 1, NONE, NONE, NONE}, {5, 2, 1, 1, 1, NONE, NONE, NONE}, {1, 0, 1, NONE, 99, NONE, NONE, NONE},
            {1, 0, 1, NONE, 1, 0, NONE, 0}, {1, 0, 1, NONE, 1, 4, NONE, 9999}, {4, 2, 9, NONE, 1, 1, 4, 12},
            {4, 2, 9, NONE, 1, 5, 0, 12}, {2, 0, 1, 1, 1, 2, NONE, 3}, {2, 0, 1, 1, 1, 6, NONE, 3},
            {3, 1, 2, 3, 1, 3, 2, 5}, {3, 1, 2, 3, 1, 7, 4, 0}, {1, 3, 4, NONE, 1, NONE, NONE, NONE},
            {1, 3, 4, NONE, 1, NONE, NONE, NONE}};
        MarketTown town = fullTown();
        for (int i = 0; i < texts.length; i++) {
            is.due("10: " + texts[i], Expect.rule(town, 1, texts[i]), 0);
            is.due("10: uses up the tape", town.count(5), 0);
            for (int what = 0; what < 8; what++) {
                is.due("10: told " + what + " of " + texts[i], town.told(1, 0, what), due[i][what]);
            }
            is.due("10: never fired", town.told(1, 0, 8), 0);
            town.unrule(1);
        }
    }

    private static void rulesThatAreNot() {
        String[] texts = {"", " ", "     ", "every", "every ", "every 0 eat 0 1", "every 100 eat 0 1", "every x eat 0 1",
            "every 5", "every 5 every 5 eat 0 1", "every 5 5 eat 0 1", "Every 5 eat 0 1", "everyx 5 eat 0 1", "ever 5 eat 0 1",
            "if", "if ", "if eat 0 1", "if cash", "if cash <", "if cash < ", "if cash < 1", "if cash < 10000 eat 0 1",
            "if cash = 1 eat 0 1", "if cash <1 eat 0 1", "if cash< 1 eat 0 1", "if cash 1 < 2 eat 0 1",
            "if have < 2 eat 0 1", "if have 5 < 2 eat 0 1", "if have 4 2 eat 0 1", "if day 0 < 1 eat 0 1",
            "if price > 1 eat 0 1", "if price 7 > 1 eat 0 1", "if day > -1 eat 0 1", "if day > 1x eat 0 1",
            "if day > 1 if day > 1 eat 0 1", "if day > 1 every 2 eat 0 1", "if day > 1", "if day > 1  ",
            "eat", "eat 0", "eat 5 1", "eat 0 0", "eat 0 1000", "eat 0 1 1", "eat x 1", "eat 0 x", "eat 0x 1", "eats 0 1",
            "make 0 9999", "make 0 10000", "make 0 99999999999999999999", "ask 0 1", "ask 0 1 0", "ask 0 1 1000",
            "ask 0 1 1 1", "bid 0 1 0", "bid 0 0 1", "bid 5 1 1", "pay 1 5", "pay 12 5", "pay 0 0", "pay 0 1000", "pay 0 1 1",
            "lend 1 1 1", "lend 12 1 1", "lend 0 0 1", "lend 0 1 0", "lend 0 1 31", "lend 0 1", "lend 0 1 1 1",
            "  eat  0  1  x", "5 eat 0 1", "< eat 0 1", "eat 0 1\t", "eat\t0 1", "\u00ff", "eat 0 1 \0", "eat 4294967296 1", "eat 0 1:", "eat 0 1/",
            "123456789 123456789 123456789 123456789 123456789 123456789 "};
        int[] due = {0, 1, 5, 5, 6, 6, 6, 6,
            7, 8, 8, 0, 0, 0,
            2, 3, 3, 7, 9, 10, 11, 10,
            8, 8, 3, 8,
            8, 8, 10, 7,
            9, 9, 9, 9,
            11, 11, 10, 12,
            3, 5, 4, 6, 6, 8, 4, 6, 4, 0,
            7, 7, 7, 7, 8, 8,
            10, 8, 6, 4, 4, 4, 6, 6, 8,
            5, 5, 7, 9, 9, 8, 11,
            13, 0, 0, 6, 0, 0, 8, 4, 6, 6, 0};
        MarketTown town = fullTown();
        is.due("10: as many as there are", due.length, texts.length);
        for (int i = 0; i < texts.length; i++) {
            is.due("10: '" + texts[i] + "'", Expect.rule(town, 1, texts[i]), -100 - due[i]);
            is.due("10: uses up the tape", town.count(5), 0);
        }
        is.due("10: none was taken", town.about(1, 3), 0);
        is.due("10: the last place", Expect.rule(town, 1, "every 10 if price 4 < 9999 bid 0 10 10                     z"), -159);
        is.due("10: the end of sixty", Expect.rule(town, 1, "every 10 if price 4 < 9999 bid 0 10                         "), -160);
    }

    private static void ruleRefusals() {
        MarketTown town = new MarketTown();
        is.due("10: no agent", Expect.rule(town, 0, "eat 0 1"), BAD);
        is.due("10: uses up the tape", town.count(5), 0);
        town.agent(0, 0);
        is.due("10: no such agent", Expect.rule(town, 1, "eat 0 1"), BAD);
        is.due("10: BAD ahead of a fault", Expect.rule(town, -1, "x"), BAD);
        is.due("10: far below", Expect.rule(town, LEAST, "eat 0 1"), BAD);
        is.due("10: far above", Expect.rule(town, MOST, "eat 0 1"), BAD);
        is.due("10: not to an agent to come", Expect.rule(town, 0, "pay 1 1"), -104);
        town.agent(0, 0);
        is.due("10: to one that came", Expect.rule(town, 0, "pay 1 1"), 0);
        for (int i = 1; i < 6; i++) {
            is.due("10: more", Expect.rule(town, 0, "eat 0 " + i), i);
        }
        is.due("10: six", Expect.rule(town, 0, "eat 0 1"), FULL);
        is.due("10: uses up the tape", town.count(5), 0);
        is.due("10: a fault ahead of FULL", Expect.rule(town, 0, "eat 0 0"), -106);
        is.due("10: BAD ahead of FULL", Expect.rule(town, 2, "eat 0 1"), BAD);
        is.due("10: six still", town.about(0, 3), 6);
        is.due("10: the last is the sixth", town.told(0, 5, 2), 5);
        is.due("10: of another", Expect.rule(town, 1, "eat 0 1"), 0);
    }

    private static void unrule() {
        MarketTown town = new MarketTown();
        is.due("11: no agent", town.unrule(0), BAD);
        town.agent(1, 0);
        is.due("11: none", town.unrule(0), NO);
        is.due("11: no such agent", town.unrule(1), BAD);
        is.due("11: below", town.unrule(-1), BAD);
        is.due("11: far below", town.unrule(LEAST), BAD);
        is.due("11: far above", town.unrule(MOST), BAD);
        Expect.rule(town, 0, "eat 0 1");
        Expect.rule(town, 0, "eat 1 2");
        town.live(3);
        Expect.tape(town, "eat 3 3");
        is.due("11: the last", town.unrule(0), 1);
        is.due("11: the tape stays", town.count(5), 7);
        is.due("11: the first stays", town.told(0, 0, 1), 0);
        is.due("11: the last is gone", town.told(0, 1, 0), BAD);
        is.due("11: a new one", town.rule(0), 1);
        is.due("11: never fired", town.told(0, 1, 8), 0);
        is.due("11: the first fired", town.told(0, 0, 8), 3);
        is.due("11: one less", town.unrule(0), 1);
        is.due("11: one less", town.unrule(0), 0);
        is.due("11: none", town.unrule(0), NO);
    }

    private static MarketTown fullTown() {
        MarketTown town = new MarketTown();
        for (int i = 0; i < 12; i++) {
            town.agent(0, 0);
        }
        return town;
    }
}
