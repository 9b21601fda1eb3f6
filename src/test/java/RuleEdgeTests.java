/** Part 2 of the document, RULES, with promises 8 to 11: the sentences that name a boundary. */
final class RuleEdgeTests {
    private static final int BAD = MarketTown.BAD, NO = MarketTown.NO, FULL = MarketTown.FULL, NONE = MarketTown.NONE;
    private static final Expect is = new Expect();

    public static void main(String[] args) {
        sixRules();
        sixtyBytes();
        feedAndTrim();
        usesUpTheTape();
        blanksAlone();
        digitsAlone();
        numbersAtTheirBounds();
        agentsAtTheirBounds();
        numbersThatWrapAround();
        wordsThatAreNearlyRight();
        theEndTooSoon();
        oneMoreBehindTheAct();
        theFirstFault();
        partsInTheirPlaces();
        everyAtItsBounds();
        condAtItsBounds();
        condOfPrice();
        neverFires();
        is.end();
    }

    /** Twelve agents; agent 5 writes rules. */
    private static MarketTown fullTown() {
        MarketTown town = new MarketTown();
        for (int i = 0; i < 12; i++) {
            town.agent(Scene.AGENT, 0);
        }
        return town;
    }

    private static void dueFault(MarketTown town, String text, int place) {
        is.due("rule '" + text + "'", Expect.rule(town, 5, text), -100 - place);
    }

    private static void sixRules() {
        is.sentence("RULES of an AGENT, 6 at most, numbered from 0");
        MarketTown town = fullTown();
        for (int agent = 0; agent < 12; agent++) {
            for (int rule = 0; rule < 6; rule++) {
                is.due("a rule", Expect.rule(town, agent, "eat 0 " + (agent * 6 + rule + 1)), rule);
            }
        }
        is.due("a seventh of the first", Expect.rule(town, 0, "eat 0 1"), FULL);
        is.due("a seventh of the last", Expect.rule(town, 11, "eat 0 1"), FULL);
        for (int agent = 0; agent < 12; agent++) {
            is.due("six", town.about(agent, 3), 6);
            for (int rule = 0; rule < 6; rule++) {
                is.due("its own", town.told(agent, rule, 2), agent * 6 + rule + 1);
            }
            is.due("no seventh", town.told(agent, 6, 0), BAD);
        }
        is.sentence("The last RULE of an AGENT is no more: how many it has. BAD; NO: it has none.");
        for (int left = 5; left >= 0; left--) {
            is.due("one less", town.unrule(11), left);
        }
        is.due("none", town.unrule(11), NO);
        is.due("none still", town.about(11, 3), 0);
        is.due("of others all", town.about(10, 3), 6);
        is.due("no agent", town.unrule(12), BAD);
        is.due("the first again", Expect.rule(town, 11, "eat 0 1"), 0);
        is.due("one less of six", town.unrule(0), 5);
        is.due("room for one", Expect.rule(town, 0, "eat 0 9"), 5);
        is.due("not for two", Expect.rule(town, 0, "eat 0 9"), FULL);
    }

    private static void sixtyBytes() {
        is.sentence("THE TAPE (60 bytes at most");
        MarketTown town = fullTown();
        String blanks = " ".repeat(60);
        is.due("a word up to the last byte", Expect.rule(town, 5, blanks.substring(9) + "eat 4 999"), 0);
        is.due("its number", town.told(5, 0, 2), 999);
        is.due("a rule from the first byte on", Expect.rule(town, 5, "eat 4 998" + blanks.substring(9)), 1);
        is.due("its number", town.told(5, 1, 2), 998);
        dueFault(town, blanks.substring(1) + "x", 59);
        dueFault(town, blanks.substring(7) + "eat 4 0", 59);
        dueFault(town, blanks.substring(5) + "eat 4", 60);
        dueFault(town, "eat 4" + blanks.substring(5), 60);
        dueFault(town, blanks, 60);
        dueFault(town, "x".repeat(60), 0);
        dueFault(town, "0".repeat(60), 0);
    }

    private static void feedAndTrim() {
        is.sentence("FULL: it would have more than 60.");
        MarketTown town = fullTown();
        for (int length = 0; length <= 60; length++) {
            Expect.tape(town, "x".repeat(length));
            boolean fits = length <= 40;
            is.due("fed to " + length, town.feed(-1, 0, 1, 2, 3), fits ? length + 20 : FULL);
            is.due("it has", town.count(5), fits ? length + 20 : length);
            town.trim(0);
        }
        is.sentence("Twenty bytes come to THE TAPE, the highest of each number first");
        town = fullTown();
        town.feed(0x65766572, 0x79203939, 0x20696620, 0x63617368, 0x203e2031);
        town.feed(0x32333420, 0x62696420, 0x34203536, 0x37203839, 0x30202020);
        is.due("read", town.rule(5), 0);
        int[] due = {3, 4, 567, 890, 99, 4, NONE, 1234, 0};
        for (int what = 0; what < 9; what++) {
            is.due("told " + what, town.told(5, 0, what), due[what]);
        }
        is.sentence("THE TAPE keeps its first n bytes: n. BAD.");
        for (int n = 0; n <= 20; n++) {
            town.feed(0x20202020, 0x20202020, 0x20202020, 0x20202020, 0x20202020);
            is.due("one more than there are", town.trim(21), BAD);
            is.due("one below none", town.trim(-1), BAD);
            is.due("twenty still", town.count(5), 20);
            is.due("trim", town.trim(n), n);
            is.due("as many", town.count(5), n);
            is.due("its first ones", town.rule(5), -100 - n);
        }
    }

    private static void usesUpTheTape() {
        is.sentence("an act that reads it uses it up, whatever it answers");
        MarketTown town = fullTown();
        String[] texts = {"eat 0 1", "eat 0 1 1", "eat 0", "", "x"};
        int[] agents = {5, 12, -1, Integer.MIN_VALUE, Integer.MAX_VALUE};
        for (String text : texts) {
            for (int agent : agents) {
                Expect.rule(town, agent, text);
                is.due("after '" + text + "' for " + agent, town.count(5), 0);
            }
        }
        for (int i = 0; i < 6; i++) {
            Expect.rule(town, 5, "eat 0 1");
        }
        is.due("after FULL", town.count(5), 0);
        is.sentence("A call that is refused answers one of BAD, NO, FULL, of several the one that stands first with it");
        is.due("BAD ahead of a fault", Expect.rule(town, 12, "x"), BAD);
        is.due("a fault ahead of FULL", Expect.rule(town, 5, "eat 0 1 x"), -108);
        is.due("BAD alone", Expect.rule(town, 12, "eat 0 1"), BAD);
        is.due("FULL alone", Expect.rule(town, 5, "eat 0 1"), FULL);
        is.sentence("(not THE TAPE)");
        Expect.tape(town, "eat 3 77");
        town.unrule(5);
        town.save(0);
        town.load(0);
        town.differs(0);
        town.live(1);
        town.agent(9, 9);
        is.due("other acts leave it", town.count(5), 8);
        is.due("as it was", town.rule(5), 5);
        is.due("its number", town.told(5, 5, 2), 77);
    }

    private static void blanksAlone() {
        is.sentence("with blanks (byte 32) between, one or more, none needed at the ends");
        for (int from = 0; from < 256; from += 32) {
            MarketTown town = fullTown();
            for (int value = from; value < from + 32; value++) {
                if (value != 32) {
                    char other = (char) value;
                    dueFault(town, "eat" + other + "0 1", 0);
                    dueFault(town, other + " eat 0 1", 0);
                    dueFault(town, "eat 0 1 " + other, 8);
                }
            }
        }
        MarketTown town = fullTown();
        String[] good = {"eat 1 2", " eat 1 2", "eat 1 2 ", "      eat 1 2      ", "eat  1   2", "eat                   1     2"};
        for (String text : good) {
            is.due("rule '" + text + "'", Expect.rule(town, 5, text), 0);
            is.due("its good", town.told(5, 0, 1), 1);
            is.due("its number", town.told(5, 0, 2), 2);
            town.unrule(5);
        }
        dueFault(town, "eat1 2", 0);
        dueFault(town, "eat 12", 4);
        dueFault(town, "every2 eat 1 2", 0);
        dueFault(town, "if cash<1 eat 1 2", 3);
        dueFault(town, "if cash< 1 eat 1 2", 3);
        dueFault(town, "if cash <1 eat 1 2", 8);
        dueFault(town, "if have 1< 1 eat 1 2", 8);
        dueFault(town, "if have 1 >1 eat 1 2", 10);
    }

    private static void digitsAlone() {
        is.sentence("what begins with a digit is a NUMBER if it is digits alone, else a fault");
        for (int from = 0; from < 256; from += 64) {
            MarketTown town = fullTown();
            for (int value = from; value < from + 64; value++) {
                char other = (char) value;
                boolean taken = value == 32 || '0' <= value && value <= '9';
                is.due("behind a digit: " + value, Expect.rule(town, 5, "eat 0 1" + other), taken ? 0 : -106);
                town.unrule(5);
                if (!taken) {
                    dueFault(town, "eat 0 " + other + "1", 6);
                }
            }
        }
        MarketTown town = fullTown();
        for (int digit = 0; digit <= 9; digit++) {
            Expect.rule(town, 5, "eat 0 1" + digit);
            is.due("1" + digit, town.told(5, 0, 2), 10 + digit);
            town.unrule(5);
        }
    }

    /** A text with # where the number stands, its least and most, and what told calls it. */
    private static void numbersAtTheirBounds() {
        String[] texts = {"every # eat 0 1", "if cash < # eat 0 1", "if cash > # eat 0 1", "if day < # eat 0 1",
            "if day > # eat 0 1", "if have 0 < # eat 0 1", "if have 0 > # eat 0 1", "if price 0 < # eat 0 1",
            "if price 0 > # eat 0 1", "if have # < 1 eat 0 1", "if have # > 1 eat 0 1", "if price # < 1 eat 0 1",
            "if price # > 1 eat 0 1", "make # 1", "eat # 1", "ask # 1 1", "bid # 1 1", "make 0 #", "eat 0 #", "ask 0 # 1",
            "bid 0 # 1", "pay 0 #", "lend 0 # 1", "ask 0 1 #", "bid 0 1 #", "lend 0 1 #"};
        int[][] bounds = {{1, 99, 4}, {0, 9999, 7}, {0, 9999, 7}, {0, 9999, 7}, {0, 9999, 7}, {0, 9999, 7}, {0, 9999, 7},
            {0, 9999, 7}, {0, 9999, 7}, {0, 4, 6}, {0, 4, 6}, {0, 4, 6}, {0, 4, 6}, {0, 4, 1}, {0, 4, 1}, {0, 4, 1}, {0, 4, 1},
            {1, 999, 2}, {1, 999, 2}, {1, 999, 2}, {1, 999, 2}, {1, 999, 2}, {1, 999, 2}, {1, 999, 3}, {1, 999, 3}, {1, 30, 3}};
        for (int i = 0; i < texts.length; i++) {
            is.sentence("N of every is 1 .. 99; G a good", "N of an ACT 1 .. 999; P 1 .. 999; D 1 .. 30", "NUMBERS (digits, 0 .. 9999)");
            MarketTown town = fullTown();
            int least = bounds[i][0];
            int most = bounds[i][1];
            int[] within = {least, least + 1, most - 1, most};
            for (int number : within) {
                is.due(texts[i] + " with " + number, Expect.rule(town, 5, texts[i].replace("#", "" + number)), 0);
                is.due(texts[i] + " told of " + number, town.told(5, 0, bounds[i][2]), number);
                town.unrule(5);
            }
            int place = texts[i].indexOf('#');
            dueFault(town, texts[i].replace("#", "" + (least - 1)), place);
            dueFault(town, texts[i].replace("#", "" + (most + 1)), place);
            dueFault(town, texts[i].replace("#", "10000"), place);
            dueFault(town, texts[i].replace("#", "x"), place);
            dueFault(town, texts[i].replace("#", "<"), place);
            is.due("none was taken", town.about(5, 3), 0);
        }
    }

    private static void agentsAtTheirBounds() {
        is.sentence("A an AGENT that there is, not that one itself");
        String[] acts = {"pay # 1", "lend # 1 1"};
        for (String act : acts) {
            for (int agents = 1; agents <= 12; agents += 11) {
                MarketTown town = new MarketTown();
                for (int i = 0; i < agents; i++) {
                    town.agent(Scene.BANK, 0);
                }
                for (int self = 0; self < agents; self += 11) {
                    for (int whom = 0; whom <= 13; whom++) {
                        boolean there = whom < agents && whom != self;
                        int place = act.indexOf('#');
                        is.due(act + ": " + self + " to " + whom + " of " + agents,
                                Expect.rule(town, self, act.replace("#", "" + whom)), there ? 0 : -100 - place);
                        is.due("to whom", town.told(self, 0, 1), there ? whom : BAD);
                        town.unrule(self);
                    }
                }
            }
        }
        MarketTown town = Scene.of(Scene.BANK, 0);
        is.due("one to come", Expect.rule(town, 0, "lend 1 1 1"), -105);
        town.agent(Scene.AGENT, 0);
        is.due("one that came", Expect.rule(town, 0, "lend 1 1 1"), 0);
    }

    private static void numbersThatWrapAround() {
        is.sentence("NUMBERS (digits, 0 .. 9999)");
        String[] wraps = {"4294967297", "18446744073709551617", "340282366920938463463374607431768211457", "65537",
            "2147483647", "2147483648", "9223372036854775808", "99999999999999999999", "10001"};
        String[] texts = {"every # eat 0 1", "if cash < # eat 0 1", "if have # < 1 eat 0 1", "eat # 1", "eat 0 #", "ask 0 1 #",
            "pay # 1", "lend 0 1 #"};
        for (String wrap : wraps) {
            MarketTown town = fullTown();
            for (String text : texts) {
                String whole = text.replace("#", wrap);
                if (whole.length() <= 60) {
                    dueFault(town, whole, text.indexOf('#'));
                }
            }
            is.due("none was taken", town.about(5, 3), 0);
        }
        MarketTown town = fullTown();
        is.due("zeros ahead", Expect.rule(town, 5, "every 0099 if cash > 0000 ask 0004 0999 0001"), 0);
        int[] due = {2, 4, 999, 1, 99, 4, NONE, 0};
        for (int what = 0; what < 8; what++) {
            is.due("told " + what, town.told(5, 0, what), due[what]);
        }
    }

    private static void wordsThatAreNearlyRight() {
        is.sentence("a WORD or NUMBER that can't stand where it is, or is not as told (at its first byte");
        String[] texts = {"every 2 if cash < 1 make 0 1", "every 2 if have 0 < 1 eat 0 1", "every 2 if day > 1 ask 0 1 1",
            "every 2 if price 0 > 1 bid 0 1 1", "every 2 if day < 1 pay 0 1", "every 2 if day < 1 lend 0 1 1"};
        for (String text : texts) {
            MarketTown town = fullTown();
            is.due("rule '" + text + "'", Expect.rule(town, 5, text), 0);
            town.unrule(5);
            int place = 0;
            for (String word : text.split(" ")) {
                String ahead = text.substring(0, place);
                String behind = text.substring(place + word.length());
                if (!word.matches("[0-9]+")) {
                    String[] others = {word + "s", "s" + word, word.toUpperCase(), "0", word + word,
                        word.substring(0, word.length() - 1) + "~"};
                    for (String other : others) {
                        boolean same = other.equals(word);
                        if (!same) {
                            dueFault(town, ahead + other + behind, place);
                        }
                    }
                    if (word.length() > 1) {
                        dueFault(town, ahead + word.substring(0, word.length() - 1) + behind, place);
                        dueFault(town, ahead + word.substring(1) + behind, place);
                    }
                }
                place += word.length() + 1;
            }
            is.due("none was taken", town.about(5, 3), 0);
        }
    }

    private static void theEndTooSoon() {
        is.sentence("the end, if it comes too soon (the place behind the last byte, as it is on THE TAPE)");
        String[] texts = {"every 2 if cash < 1 make 0 1", "if have 0 < 1 eat 0 1", "every 2 ask 0 1 1",
            "if price 0 > 1 bid 0 1 1", "pay 0 1", "lend 0 1 1"};
        for (String text : texts) {
            MarketTown town = fullTown();
            for (int end = 0; end < text.length(); end++) {
                if (end == 0 || text.charAt(end) == ' ') {
                    for (int blanks = 0; blanks < 3; blanks++) {
                        dueFault(town, text.substring(0, end) + " ".repeat(blanks), end + blanks);
                        dueFault(town, " ".repeat(4) + text.substring(0, end) + " ".repeat(blanks), 4 + end + blanks);
                    }
                }
            }
            is.due("none was taken", town.about(5, 3), 0);
        }
        MarketTown town = new MarketTown();
        town.agent(Scene.AGENT, 0);
        is.due("a tape without a byte", town.rule(0), -100);
    }

    private static void oneMoreBehindTheAct() {
        is.sentence("one more behind the ACT");
        String[] acts = {"make 0 1", "eat 0 1", "ask 0 1 1", "bid 0 1 1", "pay 0 1", "lend 0 1 1"};
        String[] more = {"1", "x", "eat 0 1", "every", "if", "<", "99999", "1x"};
        for (String act : acts) {
            MarketTown town = fullTown();
            for (String word : more) {
                dueFault(town, act + " " + word, act.length() + 1);
                dueFault(town, "  " + act + "   " + word + "  ", act.length() + 5);
            }
            is.due("none was taken", town.about(5, 3), 0);
            is.due("blanks alone are none", Expect.rule(town, 5, act + "    "), 0);
        }
    }

    private static void theFirstFault() {
        is.sentence("The first one is told.");
        MarketTown town = fullTown();
        dueFault(town, "every 0 if cash = 10000 eat 5 0 x", 6);
        dueFault(town, "every 1 if cash = 10000 eat 5 0 x", 16);
        dueFault(town, "every 1 if cash < 10000 eat 5 0 x", 18);
        dueFault(town, "every 1 if cash < 1000 eet 5 0 x", 23);
        dueFault(town, "every 1 if cash < 1000 eat 5 0 x", 27);
        dueFault(town, "every 1 if cash < 1000 eat 4 0 x", 29);
        dueFault(town, "every 1 if cash < 1000 eat 4 1 x 2", 31);
        dueFault(town, "eat 4 0", 6);
        dueFault(town, "eat 5", 4);
        dueFault(town, "lend 5 0 0", 5);
        dueFault(town, "lend 12 0 0", 5);
        dueFault(town, "x y z", 0);
    }

    private static void partsInTheirPlaces() {
        is.sentence("RULE: [ every N ] [ if COND ] ACT.");
        MarketTown town = fullTown();
        String[] taken = {"eat 0 1", "every 3 eat 0 1", "if day < 3 eat 0 1", "every 3 if day < 3 eat 0 1"};
        for (int i = 0; i < taken.length; i++) {
            is.due("rule '" + taken[i] + "'", Expect.rule(town, 5, taken[i]), 0);
            is.due("its every", town.told(5, 0, 4), i % 2 == 1 ? 3 : 1);
            is.due("its cond", town.told(5, 0, 5), i >= 2 ? 2 : NONE);
            is.due("its bound", town.told(5, 0, 7), i >= 2 ? 3 : NONE);
            town.unrule(5);
        }
        dueFault(town, "if day < 3 every 3 eat 0 1", 11);
        dueFault(town, "every 3 every 3 eat 0 1", 8);
        dueFault(town, "if day < 3 if day < 3 eat 0 1", 11);
        dueFault(town, "eat 0 1 every 3", 8);
        dueFault(town, "eat 0 1 if day < 3", 8);
        dueFault(town, "if day 0 < 3 eat 0 1", 7);
        dueFault(town, "if cash 0 < 3 eat 0 1", 8);
        dueFault(town, "if have < 3 eat 0 1", 8);
        dueFault(town, "if price > 3 eat 0 1", 9);
        dueFault(town, "if day < > 3 eat 0 1", 9);
        dueFault(town, "if eat 0 1", 3);
        is.sentence("NONE: there is no third one");
        Expect.rule(town, 5, "every 7 if have 3 > 8 lend 2 5 6");
        town.unrule(5);
        Expect.rule(town, 5, "pay 2 5");
        int[] due = {4, 2, 5, NONE, 1, NONE, NONE, NONE, 0};
        for (int what = 0; what < 9; what++) {
            is.due("nothing is left of an earlier one, told " + what, town.told(5, 0, what), due[what]);
        }
    }

    private static void everyAtItsBounds() {
        is.sentence("A RULE FIRES on a day that is divided by N (of every)");
        MarketTown town = Scene.of(Scene.AGENT, 0, Scene.AGENT, 0);
        Scene.rules(town, 0, "every 99 pay 1 1", "every 98 pay 1 1", "every 2 pay 1 1", "every 1 pay 1 1", "pay 1 1",
                "every 50 pay 1 1");
        int[] days = {1, 1, 97, 1, 98, 1};
        int[][] due = {{1, 1, 1, 1, 1, 1}, {1, 1, 1, 2, 2, 1}, {1, 2, 50, 99, 99, 2}, {2, 2, 50, 100, 100, 2},
            {2, 3, 99, 198, 198, 4}, {3, 3, 100, 199, 199, 4}};
        for (int i = 0; i < days.length; i++) {
            Scene.days(town, days[i]);
            for (int rule = 0; rule < 6; rule++) {
                is.due("on day " + town.count(1) + " rule " + rule, town.told(0, rule, 8), due[i][rule]);
            }
        }
    }

    /** On day 7 with 10000 coins and 40 pieces of good 3: below, at and above each of these. */
    private static void condAtItsBounds() {
        is.sentence("if COND holds then (HAVE: all of that AGENT, offered or not");
        String[] subjects = {"cash", "have 3", "day", "have 2"};
        int[] at = {9999, 40, 7, 0};
        for (int i = 0; i < subjects.length; i++) {
            MarketTown town = Scene.of(Scene.AGENT, 9999, Scene.AGENT, 500);
            town.give(0, 3, 40);
            town.give(1, 3, 7);
            town.give(1, 2, 7);
            town.live(7);
            String below = "" + Math.max(0, at[i] - 1);
            String same = "" + at[i];
            String above = "" + Math.min(9999, at[i] + 1);
            Scene.rules(town, 0, "if " + subjects[i] + " < " + below + " pay 1 1", "if " + subjects[i] + " < " + same + " eat 0 1",
                    "if " + subjects[i] + " < " + same + " ask 3 40 9", "if " + subjects[i] + " > " + above + " bid 0 1 1",
                    "if " + subjects[i] + " > " + same + " bid 0 1 1", "if " + subjects[i] + " < " + above + " ask 3 40 9");
            town.live(1);
            int[] due = {0, 0, 0, 0, 0, at[i] < 9999 ? 1 : 0};
            for (int rule = 0; rule < 6; rule++) {
                is.due(subjects[i] + " of rule " + rule, town.told(0, rule, 8), due[rule]);
            }
        }
        MarketTown town = Scene.of(Scene.AGENT, 10000, Scene.AGENT, 0);
        town.give(0, 3, 1);
        Scene.rules(town, 0, "if cash > 9999 ask 3 1 9", "if have 3 > 0 bid 0 100 100", "if have 3 < 1 bid 0 1 1",
                "if cash > 9999 pay 1 1", "if day < 1 pay 1 1", "if day > 0 pay 1 1");
        town.live(1);
        int[] due = {1, 1, 0, 1, 1, 0};
        for (int rule = 0; rule < 6; rule++) {
            is.due("offered, held or not: rule " + rule, town.told(0, rule, 8), due[rule]);
        }
        is.due("all was held", town.paid(0, 1, 2), 0);
    }

    private static void condOfPrice() {
        is.sentence("PRICE: the latest price at which that good was sold, 0 if never");
        MarketTown town = Scene.of(Scene.AGENT, 1000, Scene.AGENT, 0, Scene.AGENT, 0);
        town.give(1, 2, 9);
        town.give(1, 3, 9);
        Scene.rules(town, 1, "if day < 1 ask 2 1 7", "if day > 0 ask 2 1 5", "ask 3 1 600");
        Scene.rules(town, 0, "if day < 2 bid 2 1 7", "if day > 1 bid 2 1 4", "bid 3 1 599");
        Scene.rules(town, 2, "if price 2 < 1 pay 0 1", "if price 2 > 6 pay 0 1", "if price 2 > 7 pay 0 1",
                "if price 2 < 7 pay 0 1", "if price 2 > 4 pay 0 1", "if price 3 > 0 pay 0 1");
        int[][] due = {{1, 0, 0, 1, 0, 0}, {1, 1, 0, 1, 1, 0}, {1, 1, 0, 2, 2, 0}, {1, 1, 0, 3, 3, 0}};
        int[] price = {7, 5, 5, 5};
        for (int day = 0; day < 4; day++) {
            town.live(1);
            for (int rule = 0; rule < 6; rule++) {
                is.due("after day " + day + " rule " + rule, town.told(2, rule, 8), due[day][rule]);
            }
            is.due("the price after day " + day, town.goods(2, 2), price[day]);
            is.due("never sold", town.goods(3, 2), 0);
        }
        for (int day = 4; day < 44; day++) {
            town.live(1);
            is.due("the price stays, unsold up to day " + day, town.goods(2, 2), 5);
        }
        is.due("and is seen by rules", town.told(2, 4, 8), 43);
    }

    private static void neverFires() {
        is.sentence("others' RULES of these ACTS may be written, but never fire");
        String[] acts = {"make 1 1", "eat 0 1", "lend 0 1 30"};
        boolean[][] may = {{false, false, true, true, false, false}, {false, true, false, false, false, false},
            {false, false, false, false, true, true}};
        for (int act = 0; act < 3; act++) {
            MarketTown town = Scene.of(Scene.AGENT, 0);
            town.recipe(1, 0, 0, 0, 0);
            for (int kind = 0; kind < 6; kind++) {
                town.agent(kind, 10);
                town.give(kind + 1, 0, 5);
                is.due("may be written", Expect.rule(town, kind + 1, acts[act]), 0);
            }
            town.live(3);
            for (int kind = 0; kind < 6; kind++) {
                int due = may[act][kind] ? 3 : 0;
                is.due(acts[act] + " of kind " + kind + " fired", town.told(kind + 1, 0, 8), due);
                is.due(acts[act] + " of kind " + kind + " made", town.has(kind + 1, 1, -1), act == 0 ? due : 0);
                is.due(acts[act] + " of kind " + kind + " left", town.has(kind + 1, 0, -1), act == 1 ? 5 - due : 5);
                is.due(acts[act] + " of kind " + kind + " lent", town.about(kind + 1, 5), act == 2 ? due : 0);
            }
        }
    }
}
