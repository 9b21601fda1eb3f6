import java.util.Arrays;

/** Part 3 of the document, A DAY, (4): LOANS that are due, paid or not, and BROKE agents. */
final class LoanEdgeTests {
    private static final int NONE = MarketTown.NONE;
    private static final Expect is = new Expect();

    public static void main(String[] args) {
        cashAsMuchOrLess();
        shares();
        sharesOfAllItOwes();
        sharesByTheirNumbers();
        severalLoansOfOneLender();
        theFirstIsPaidTheSecondNot();
        loansOfOthers();
        loansThatWerePaidAhead();
        twentyLoansOfOne();
        eachMayBeBroke();
        dueOnItsDayAlone();
        oneDebtorAfterTheOther();
        whatABrokeOneLent();
        brokeForEver();
        numbersOfOpenLoans();
        soldOnTheSameDay();
        is.end();
    }

    /** One bank lends 20 for a day; the debtor, of so much cash, pays so much away on the next day. */
    private static void cashAsMuchOrLess() {
        is.sentence("if the debtor's CASH is as much, it is paid; else the debtor is BROKE");
        for (int left = 0; left <= 24; left++) {
            MarketTown town = Scene.of(Scene.BANK, 100, Scene.AGENT, 50, Scene.AGENT, 0);
            town.policy(0, 15);
            Scene.rules(town, 0, "if day < 1 lend 1 20 1");
            Scene.rules(town, 1, "if day > 0 pay 2 " + (70 - left));
            town.live(1);
            is.due("owed", town.about(1, 4), 23);
            town.live(1);
            boolean paid = left >= 23;
            is.due("broke with " + left, town.about(1, 2), paid ? 0 : 1);
            is.due("paid with " + left, town.paid(1, 0, 4), Math.min(left, 23));
            is.due("left of " + left, town.about(1, 1), paid ? left - 23 : 0);
            is.due("open", town.count(3), 0);
            is.due("broke ones", town.count(4), paid ? 0 : 1);
            is.due("owed no more", town.about(1, 4) + town.about(0, 5), 0);
            is.due("the lender", town.about(0, 1), 80 + Math.min(left, 23));
            is.due("all cash", town.count(2), 150);
        }
    }

    /** Banks 0 to 2 lend to agent 3, in this order of days ahead; it keeps so much on the next day. */
    private static MarketTown threeBanks(int keeps, int[] order, String... loans) {
        MarketTown town = Scene.of(Scene.BANK, 100, Scene.BANK, 100, Scene.BANK, 100, Scene.AGENT, 0, Scene.AGENT, 0);
        int sum = 0;
        for (int bank = 0; bank < 3; bank++) {
            Scene.rules(town, bank, "if day < 1 lend 3 " + loans[bank]);
            sum += Integer.parseInt(loans[bank].split(" ")[0]);
        }
        if (keeps < sum) {
            Scene.rules(town, 3, "if day > 0 pay 4 " + (sum - keeps));
        }
        Scene.nextOrder(town, order);
        town.live(1);
        return town;
    }

    private static void duePaid(String what, MarketTown town, int... due) {
        for (int bank = 0; bank < due.length; bank++) {
            is.due(what + ": to " + bank, town.paid(3, bank, 4), due[bank]);
            is.due(what + ": is owed no more", town.about(bank, 5), 0);
        }
        is.due(what + ": none is open", town.count(3), 0);
    }

    private static void shares() {
        is.sentence("each gets CASH times what is owed by all that is owed together, cut; what is left comes 1 by 1",
                "to them, by their numbers");
        int[][] rows = {{0, 0, 0, 0}, {1, 1, 0, 0}, {2, 2, 0, 0}, {3, 2, 1, 0}, {4, 3, 1, 0}, {5, 3, 2, 0}, {6, 3, 2, 1}, {7, 4, 2, 1},
            {15, 8, 5, 2}, {25, 13, 8, 4}, {29, 15, 10, 4}};
        int[] rising = {0, 1, 2, 3, 4};
        for (int[] row : rows) {
            MarketTown town = threeBanks(row[0], rising, "30 1", "20 1", "10 1");
            town.live(1);
            duePaid("keeps " + row[0], town, row[1], row[2], row[3]);
            is.due("broke", town.about(3, 2), 1);
            is.due("cash", town.about(3, 1), 0);
        }
        MarketTown town = threeBanks(60, rising, "10 1", "20 1", "30 1");
        town.live(1);
        duePaid("keeps all", town, 10, 20, 30);
        is.due("not broke", town.about(3, 2), 0);
    }

    private static void sharesOfAllItOwes() {
        is.sentence("all LOANS that it owes (due or not) share its CASH", "all these are closed then");
        String[][] terms = {{"10 1", "20 9", "30 30"}, {"10 9", "20 1", "30 30"}, {"10 9", "20 9", "30 1"}};
        int[] keeps = {9, 19, 29};
        int[][] due = {{2, 3, 4}, {4, 6, 9}, {5, 10, 14}};
        for (int i = 0; i < 3; i++) {
            int[] rising = {0, 1, 2, 3, 4};
            MarketTown town = threeBanks(keeps[i], rising, terms[i]);
            is.due("three are open", town.count(3), 3);
            town.live(1);
            duePaid(Arrays.toString(terms[i]), town, due[i]);
            is.due("broke", town.about(3, 2), 1);
            town.live(30);
            duePaid("and nothing later", town, due[i]);
        }
    }

    private static void sharesByTheirNumbers() {
        is.sentence("LOANS that are due that day, by their numbers (as they were lent)");
        int[] order = {2, 0, 1, 3, 4};
        MarketTown town = threeBanks(5, order, "10 1", "20 1", "30 1");
        int[] lenders = {2, 0, 1};
        int[] owed = {30, 10, 20};
        for (int i = 0; i < 3; i++) {
            is.due("lent by", town.loan(i, 0), lenders[i]);
            is.due("owed", town.loan(i, 2), owed[i]);
        }
        is.due("no fourth", town.loan(3, 0), NONE);
        town.live(1);
        // 5 * 30 / 60, 5 * 10 / 60, 5 * 20 / 60 are 2, 0, 1: the two left come to loans 0 and 1
        duePaid("the rest by numbers of loans", town, 1, 1, 3);
    }

    private static void severalLoansOfOneLender() {
        is.sentence("what is left comes 1 by 1 to them, by their numbers, round and round");
        // loans 0 and 1 are of bank 0, 2 and 3 of bank 1, of 2 each; loan 4 is of bank 2, of 7, and due first
        int[][] rows = {{0, 0, 0}, {1, 0, 0}, {2, 0, 0}, {2, 0, 1}, {2, 1, 1}, {2, 1, 2}, {2, 2, 2}};
        for (int cash = 0; cash < rows.length; cash++) {
            MarketTown town = Scene.of(Scene.BANK, 100, Scene.BANK, 100, Scene.BANK, 100, Scene.AGENT, 0, Scene.AGENT, 0);
            Scene.rules(town, 0, "if day < 1 lend 3 2 9", "if day < 1 lend 3 2 9");
            Scene.rules(town, 1, "if day < 1 lend 3 2 9", "if day < 1 lend 3 2 9");
            Scene.rules(town, 2, "if day < 1 lend 3 7 1");
            Scene.rules(town, 3, "if day > 0 pay 4 " + (15 - cash));
            Scene.nextOrder(town, 0, 1, 2, 3, 4);
            town.live(2);
            duePaid("with " + cash, town, rows[cash]);
        }
    }

    private static void theFirstIsPaidTheSecondNot() {
        is.sentence("LOANS that are due that day, by their numbers");
        int[] rising = {0, 1, 2, 3, 4};
        MarketTown town = threeBanks(35, rising, "10 1", "20 1", "30 1");
        Scene.rules(town, 4, "pay 0 1");
        town.live(1);
        // 60 are owed, 35 are there: 10 and 20 are paid, the 5 left go to the third
        duePaid("one by one", town, 10, 20, 5);
        is.due("broke by the third", town.about(3, 2), 1);
        int[] falling = {2, 1, 0, 3, 4};
        town = threeBanks(35, falling, "10 1", "20 1", "30 1");
        town.live(1);
        // 30 are paid to the first lent, 5 are shared by 20 and 10: 3 and 1, the one left to the earlier
        duePaid("in the order of lending", town, 1, 4, 30);
        town = threeBanks(37, rising, "10 1", "30 1", "20 1");
        town.live(1);
        // 10 are paid; 27 * 30 / 50 is 16, 27 * 20 / 50 is 10; the one left comes to the earlier
        duePaid("a paid one is owed no more", town, 10, 17, 10);
    }

    private static void loansOfOthers() {
        is.sentence("all LOANS that it owes (due or not) share its CASH");
        MarketTown town = Scene.of(Scene.BANK, 100, Scene.BANK, 100, Scene.AGENT, 0, Scene.AGENT, 0, Scene.AGENT, 0);
        Scene.rules(town, 0, "if day < 1 lend 3 40 1", "if day < 1 lend 4 10 5");
        Scene.rules(town, 1, "if day < 1 lend 4 60 5", "if day < 1 lend 3 20 1", "if day < 1 lend 2 7 1");
        Scene.rules(town, 3, "if day > 0 pay 2 51");
        Scene.nextOrder(town, 1, 0, 2, 3, 4);
        town.live(2);
        // loans of 3 are of bank 1, 20, and of bank 0, 40: 9 are 3 and 6
        is.due("to bank 0", town.paid(3, 0, 4), 6);
        is.due("to bank 1", town.paid(3, 1, 4), 3);
        is.due("of agent 2 all is paid", town.paid(2, 1, 4), 7);
        is.due("of agent 4 none", town.paid(4, 0, 4) + town.paid(4, 1, 4), 0);
        is.due("it owes as before", town.about(4, 4), 70);
        is.due("two are open", town.count(3), 2);
        is.due("the first of them", town.loan(0, 2), 60);
        is.due("the second of them", town.loan(1, 2), 10);
        is.due("agent 3 alone is broke", town.count(4) + 10 * town.about(3, 2), 11);
    }

    private static void loansThatWerePaidAhead() {
        is.sentence("all these are closed then");
        MarketTown town = Scene.of(Scene.BANK, 100, Scene.BANK, 100, Scene.AGENT, 0, Scene.AGENT, 0, Scene.AGENT, 0);
        Scene.rules(town, 0, "if day < 1 lend 3 10 1", "if day < 1 lend 3 11 1");
        Scene.rules(town, 1, "if day < 1 lend 3 12 1", "if day < 1 lend 3 20 2", "if day < 1 lend 3 21 3");
        Scene.rules(town, 3, "if day > 1 pay 4 32");
        Scene.nextOrder(town, 0, 1, 2, 3, 4);
        town.live(2);
        is.due("three are paid", town.paid(3, 0, 4) + town.paid(3, 1, 4), 33);
        is.due("two are open", town.count(3), 2);
        town.live(1);
        is.due("the others share nine", town.paid(3, 1, 4), 12 + 9);
        is.due("those that were paid do not", town.paid(3, 0, 4), 21);
        is.due("no cash", town.about(3, 1), 0);
        is.due("none is open", town.count(3), 0);
    }

    private static void twentyLoansOfOne() {
        is.sentence("no more than 20 LOANS are open", "all LOANS that it owes (due or not) share its CASH");
        MarketTown town = Scene.of(Scene.BANK, 1000, Scene.BANK, 1000, Scene.BANK, 1000, Scene.BANK, 1000, Scene.AGENT, 0, Scene.AGENT, 0);
        for (int bank = 0; bank < 4; bank++) {
            for (int i = 0; i < 5; i++) {
                Scene.rules(town, bank, "if day < 1 lend 4 50 " + (bank == 3 && i == 4 ? 1 : 30));
            }
        }
        Scene.rules(town, 4, "if day > 0 pay 5 961");
        Scene.nextOrder(town, 0, 1, 2, 3, 4, 5);
        town.live(1);
        is.due("twenty", town.count(3), 20);
        is.due("owed", town.about(4, 4), 1000);
        town.live(1);
        // 39 * 50 / 1000 is 1 for each; the 19 left come to all but the last
        int[] due = {10, 10, 10, 9};
        for (int bank = 0; bank < 4; bank++) {
            is.due("to bank " + bank, town.paid(4, bank, 4), due[bank]);
        }
        is.due("none is open", town.count(3), 0);
        is.due("broke", town.about(4, 2), 1);
    }

    private static void eachMayBeBroke() {
        is.sentence("4 AGENTS that are BROKE");
        for (int debtor = 0; debtor < 11; debtor++) {
            MarketTown town = new MarketTown();
            for (int i = 0; i < 11; i++) {
                town.agent(Scene.HOUSE, 0);
            }
            town.agent(Scene.BANK, 100);
            int sink = debtor == 0 ? 1 : 0;
            Scene.rules(town, 11, "if day < 1 lend " + debtor + " 5 1");
            Scene.rules(town, debtor, "pay " + sink + " 5");
            town.live(2);
            is.due("one", town.count(4), 1);
            for (int i = 0; i < 12; i++) {
                is.due("broke: " + i + " when it is " + debtor, town.about(i, 2), i == debtor ? 1 : 0);
            }
        }
    }

    private static void dueOnItsDayAlone() {
        is.sentence("at the end of the day D days on");
        for (int term = 1; term <= 30; term++) {
            MarketTown town = Scene.of(Scene.COUNCIL, 10, Scene.AGENT, 0);
            town.live(3);
            Scene.rules(town, 0, "lend 1 10 " + term);
            town.live(1);
            town.unrule(0);
            is.due("its day", town.loan(0, 3), 3 + term);
            if (term > 1) {
                town.live(term - 1);
            }
            is.due("open till then", town.about(1, 1), 10);
            town.live(1);
            is.due("paid then", town.about(0, 1), 10);
            is.due("closed then", town.count(3), 0);
        }
        MarketTown late = Scene.of(Scene.BANK, 10, Scene.AGENT, 0);
        Scene.days(late, 690);
        Scene.rules(late, 0, "lend 1 1 30");
        late.live(10);
        is.due("due beyond the last day", late.loan(0, 3), 720);
        is.due("open still", late.count(3), 10);
    }

    private static void oneDebtorAfterTheOther() {
        is.sentence("LOANS that are due that day, by their numbers (as they were lent)");
        for (int first = 0; first < 2; first++) {
            MarketTown town = Scene.of(Scene.BANK, 10, Scene.BANK, 10, Scene.AGENT, 0);
            Scene.rules(town, 0, "if day < 1 lend 1 10 2");
            Scene.rules(town, 1, "if day < 1 lend 2 20 2", "if day > 0 pay 2 99");
            Scene.rules(town, 2, "if day < 1 pay 1 1");
            if (first == 0) {
                Scene.nextOrder(town, 0, 1, 2);
            } else {
                Scene.nextOrder(town, 1, 0, 2);
            }
            town.live(3);
            // bank 0's loan to 1 is due ahead of what 1 gets by its own loan, or behind it
            is.due("bank 1 broke", town.about(1, 2), first == 0 ? 1 : 0);
            is.due("bank 0 gets", town.paid(1, 0, 4), first == 0 ? 0 : 10);
            is.due("bank 1 gets", town.paid(2, 1, 4), first == 0 ? 20 : 10);
        }
    }

    private static void whatABrokeOneLent() {
        is.sentence("all LOANS that it owes");
        MarketTown town = Scene.of(Scene.BANK, 50, Scene.BANK, 10, Scene.AGENT, 30, Scene.AGENT, 0);
        Scene.rules(town, 0, "if day < 1 lend 1 5 1", "if day < 1 lend 2 7 3");
        Scene.rules(town, 1, "if day < 1 lend 2 10 3", "if day > 0 pay 3 99", "if day < 1 pay 3 99");
        Scene.nextOrder(town, 0, 1, 2, 3);
        town.live(2);
        is.due("broke", town.about(1, 2), 1);
        is.due("what others owe it is open", town.about(1, 5), 10);
        is.due("what others owe others is open", town.about(2, 4), 17);
        is.due("two are open", town.count(3), 2);
        town.live(2);
        is.due("it gets it on its day", town.about(1, 1), 10);
        is.due("paid", town.paid(2, 1, 4), 10);
        is.due("broke still", town.about(1, 2), 1);
    }

    private static void brokeForEver() {
        is.sentence("one may be BROKE");
        MarketTown town = Scene.of(Scene.BANK, 1000, Scene.AGENT, 0, Scene.AGENT, 100);
        Scene.rules(town, 0, "lend 1 10 2");
        Scene.rules(town, 1, "pay 2 999");
        Scene.nextOrder(town, 0, 1, 2);
        town.live(1);
        is.due("not yet", town.count(4), 0);
        town.live(1);
        is.due("nor yet", town.count(4), 0);
        town.live(1);
        is.due("broke", town.about(1, 2), 1);
        int fired = town.told(1, 0, 8);
        town.live(20);
        is.due("once", town.count(4), 1);
        is.due("no rule of it fires", town.told(1, 0, 8), fired);
        is.due("of others they do", town.told(0, 0, 8), 23);
        is.due("all cash", town.count(2), 1100);
    }

    private static void numbersOfOpenLoans() {
        is.sentence("Open LOAN i, by their numbers");
        MarketTown town = Scene.of(Scene.BANK, 1000, Scene.AGENT, 100);
        Scene.rules(town, 0, "if day < 1 lend 1 1 3", "if day < 1 lend 1 2 1", "if day < 1 lend 1 3 2", "if day < 1 lend 1 4 1",
                "if day < 1 lend 1 5 4", "if day > 0 lend 1 6 9");
        int[][] due = {{1, 2, 3, 4, 5}, {1, 3, 5, 6}, {1, 5, 6, 6}, {5, 6, 6, 6}, {6, 6, 6, 6}};
        for (int[] row : due) {
            town.live(1);
            for (int i = 0; i < row.length; i++) {
                is.due("loan " + i + " after day " + town.count(1), town.loan(i, 2), row[i]);
            }
            is.due("not so many", town.loan(row.length, 0), NONE);
            is.due("so many", town.count(3), row.length);
        }
    }

    private static void soldOnTheSameDay() {
        is.sentence("(4) LOANS that are due that day");
        MarketTown town = Scene.of(Scene.BANK, 100, Scene.AGENT, 0, Scene.AGENT, 100, Scene.COUNCIL, 0);
        town.policy(100, 0);
        town.give(1, 0, 1);
        Scene.rules(town, 0, "if day < 1 lend 1 18 1");
        Scene.rules(town, 1, "if day < 1 pay 2 99", "if day > 0 ask 0 1 20");
        Scene.rules(town, 2, "if day > 0 bid 0 1 20");
        Scene.nextOrder(town, 0, 1, 2, 3);
        town.live(2);
        is.due("paid of what was sold on that day, less tax", town.paid(1, 0, 4), 18);
        is.due("not broke", town.about(1, 2), 0);
        is.due("nothing left", town.about(1, 1), 0);
    }
}
