/** Promises 21 to 24: worlds laid aside, gone on with, compared; and counts. */
final class WorldTests {
    private static final int BAD = MarketTown.BAD, NO = MarketTown.NO, NONE = MarketTown.NONE;
    private static final int[] BAD_WORLDS = {-1, 3, Integer.MIN_VALUE, Integer.MAX_VALUE};
    private static final Expect is = new Expect();

    public static void main(String[] args) {
        save();
        load();
        differs();
        count();
        is.end();
    }

    private static void save() {
        MarketTown town = new MarketTown();
        for (int k : BAD_WORLDS) {
            is.due("21: save(" + k + ")", town.save(k), BAD);
        }
        for (int k = 0; k < 3; k++) {
            is.due("21: none yet", town.load(k), NO);
            is.due("21: save", town.save(k), k);
            town.live(1);
        }
        for (int k = 0; k < 3; k++) {
            is.due("21: each its own", town.load(k), k);
        }
        town.live(5);
        is.due("21: over the old one", town.save(1), 7);
        town.live(1);
        is.due("21: the new one", town.load(1), 7);
        is.due("21: others stay", town.load(0), 0);
    }

    private static void load() {
        MarketTown town = new MarketTown();
        for (int k : BAD_WORLDS) {
            is.due("22: load(" + k + ")", town.load(k), BAD);
        }
        is.due("22: none", town.load(0), NO);
        town.save(0);
        is.due("22: there is one", town.load(0), 0);
        is.due("22: of another none", town.load(1), NO);
        town.agent(0, 5);
        Expect.tape(town, "pay 1 1");
        town.load(0);
        is.due("22: the agent is no more", town.count(0), 0);
        is.due("22: the tape stays", town.count(5), 7);
        is.due("22: another comes", town.agent(4, 6), 0);
        is.due("22: its kind", town.about(0, 0), 4);
        town.load(0);
        is.due("22: the world is as it was", town.count(0), 0);
    }

    private static void differs() {
        MarketTown town = new MarketTown();
        for (int k : BAD_WORLDS) {
            is.due("23: differs(" + k + ")", town.differs(k), BAD);
        }
        is.due("23: none", town.differs(0), NO);
        town.save(0);
        is.due("23: both are empty", town.differs(0), NONE);
        town.agent(0, 10);
        is.due("23: in one alone", town.differs(0), 0);
        town.agent(0, 10);
        town.give(0, 4, 3);
        town.give(1, 4, 3);
        town.save(1);
        is.due("23: alike", town.differs(1), NONE);
        is.due("23: of another none", town.differs(2), NO);
        town.live(1);
        is.due("23: ages differ", town.differs(1), 0);
        town.load(1);
        town.give(1, 0, 1);
        is.due("23: goods differ", town.differs(1), 1);
        town.load(1);
        Expect.rule(town, 1, "pay 0 1");
        town.good(0, 1, 1);
        town.policy(5, 5);
        town.lots(99);
        is.due("23: all else may differ", town.differs(1), NONE);
        town.agent(3, 0);
        is.due("23: in the town alone", town.differs(1), 2);
        town.save(2);
        town.load(1);
        is.due("23: in the world alone", town.differs(2), 2);
        town.give(0, 4, 1);
        is.due("23: the least", town.differs(2), 0);
        cashDiffers();
    }

    private static void cashDiffers() {
        MarketTown town = new MarketTown();
        for (int i = 0; i < 12; i++) {
            town.agent(0, 10);
        }
        town.give(11, 4, 1);
        town.live(10);
        Expect.rule(town, 11, "pay 7 1");
        town.save(0);
        town.live(1);
        is.due("23: the least whose cash differs", town.differs(0), 7);
        is.due("23: asking changes nothing", town.differs(0), 7);
        town.load(0);
        is.due("23: alike", town.differs(0), NONE);
    }

    private static void count() {
        MarketTown town = new MarketTown();
        int[] bad = {-1, 8, Integer.MIN_VALUE, Integer.MAX_VALUE};
        for (int what : bad) {
            is.due("24: count(" + what + ")", town.count(what), BAD);
        }
        town.agent(4, 100);
        town.agent(0, 20);
        town.agent(0, 3);
        town.lots(123);
        Expect.rule(town, 0, "if day < 1 lend 1 30 1");
        Expect.rule(town, 0, "if day < 1 lend 2 5 9");
        Expect.rule(town, 1, "if day > 0 pay 2 45");
        Expect.tape(town, "abcdefghi");
        town.live(1);
        long lots = (123L * 1103515245L + 12345L) % 2147483648L;
        lots = (lots * 1103515245L + 12345L) % 2147483648L;
        int[] due = {3, 1, 123, 2, 0, 9, (int) lots, 35};
        for (int what = 0; what < 8; what++) {
            is.due("24: count(" + what + ")", town.count(what), due[what]);
        }
        town.live(1);
        is.due("24: open loans", town.count(3), 1);
        is.due("24: broke", town.count(4), 1);
        is.due("24: all that was paid", town.count(7), 35 + 45 + 5);
        is.due("24: all cash", town.count(2), 123);
    }
}
