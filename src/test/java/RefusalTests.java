import java.util.ArrayList;
import java.util.List;

/** Calls that are refused, each argument below and above what it may be; they, and questions, change nothing. */
final class RefusalTests {
    private static final int BAD = MarketTown.BAD, NO = MarketTown.NO, FULL = MarketTown.FULL;
    private static final String LEAST = " " + Integer.MIN_VALUE, MOST = " " + Integer.MAX_VALUE;
    /** Calls that the lively town answers, with * for the argument that is put below and above its bounds. */
    private static final String[] BOUNDS = {"agent * 0: 0 5", "agent 0 *: 0 100000", "give * 0 1: 0 11", "give 0 * 1: 0 4",
        "give 0 0 *: 1 999", "good * 0 0: 0 4", "good 0 * 0: 0 9", "good 0 0 *: 0 2", "recipe * 0 0 0 0: 0 4", "recipe 0 * 0 0 0: 0 4",
        "recipe 0 0 * 0 0: -1 9", "recipe 0 0 0 * 0: 0 4", "recipe 0 0 0 0 *: 0 9", "recipe * 0 -1 0 0: 0 4", "recipe 0 * -1 0 0: 0 4",
        "recipe 0 0 -1 * 0: 0 4", "recipe 0 0 -1 0 *: 0 9", "policy * 0: 0 1000", "policy 0 *: 0 100", "lots *: 0 2147483647",
        "trim *: 0 45", "rule *: 0 11", "unrule *: 0 11", "live *: 1 30", "about * 0: 0 11", "about 0 *: 0 6", "isOf * 0: 0 11",
        "isOf 0 *: 0 5", "has * 0 0: 0 11", "has 0 * 0: 0 4", "has 0 0 *: -1 9", "told * 0 0: 0 5", "told 0 * 0: 0 5", "told 0 0 *: 0 8",
        "goods * 0: 0 4", "goods 0 *: 0 7", "paid * 0 0: 0 11", "paid 0 * 0: 0 11", "paid 0 0 *: -1 4", "loan * 0: 0 2147483647",
        "loan 0 *: 0 3", "loan 19 *: 0 3", "median *: 0 5", "save *: 0 2", "load *: 0 2", "differs *: 0 2", "count *: 0 7"};
    private static final Expect is = new Expect();

    private final int[] now = Picture.after(RefusalTests::livelyTown);
    private final int[] later = Picture.after(town -> {
        livelyTown(town);
        goOn(town);
    });
    private final int[] laterWithoutTape = Picture.after(town -> {
        livelyTown(town);
        town.trim(0);
        goOn(town);
    });
    private final int[] world = Picture.after(town -> {
        livelyTown(town);
        town.load(0);
    });

    public static void main(String[] args) {
        RefusalTests tests = new RefusalTests();
        tests.boundsOfArguments();
        tests.refusedByNoOrFull();
        tests.worstArguments();
        tests.questions();
        tests.refusedOnTheLastDays();
        is.end();
    }

    /** Twelve agents of all kinds, the first with six rules and the others up to 5 with some; tape of 45 bytes; world 0. */
    private static void livelyTown(MarketTown town) {
        for (int i = 0; i < 12; i++) {
            town.agent(i % 6, 200 + i);
        }
        town.good(0, 3, 2);
        town.good(1, 0, 1);
        town.recipe(0, 1, 1, 1, 0);
        town.recipe(1, 0, 0, 0, 0);
        town.policy(100, 20);
        town.lots(77);
        town.give(0, 4, 9);
        town.give(2, 2, 9);
        Scene.rules(town, 0, "pay 1 2", "every 2 pay 3 1", "ask 4 1 5", "bid 4 1 5", "if day > 3 pay 2 1", "lend 1 1 1");
        Scene.rules(town, 1, "bid 0 3 9", "eat 0 1");
        Scene.rules(town, 2, "make 1 9", "ask 1 5 4");
        Scene.rules(town, 3, "bid 1 5 5", "make 0 4", "ask 0 4 6");
        Scene.rules(town, 4, "every 3 lend 0 30 4", "lend 11 40 5");
        Scene.rules(town, 5, "if cash > 200 pay 0 9");
        Scene.rules(town, 11, "pay 10 150");
        town.live(4);
        town.save(0);
        town.live(2);
        Expect.tape(town, "   every 2 if have 1 < 99 pay 1 4            ");
    }

    /** Days on, in which what could not be asked for shows: recipes, TAX, INTEREST, the text of the tape. */
    private static void goOn(MarketTown town) {
        town.live(2);
        town.rule(6);
        town.live(4);
    }

    private void refused(String call, int due) {
        MarketTown one = new MarketTown();
        livelyTown(one);
        is.due(call, Calls.on(one, call), due);
        unchanged(call);
    }

    private void unchanged(String call) {
        boolean readsTape = call.startsWith("rule ");
        like(call, now, !readsTape, town -> {
            livelyTown(town);
            Calls.on(town, call);
        });
        like(call + ", gone on with", readsTape ? laterWithoutTape : later, true, town -> {
            livelyTown(town);
            Calls.on(town, call);
            goOn(town);
        });
        like(call + ", world 0", world, !readsTape, town -> {
            livelyTown(town);
            Calls.on(town, call);
            town.load(0);
        });
    }

    private static void like(String what, int[] want, boolean withTape, Picture.Run run) {
        String unlike = Picture.firstUnlike(Picture.after(run), want, withTape);
        is.holds(what + " changed " + unlike, unlike.isEmpty());
    }

    private void boundsOfArguments() {
        for (String row : BOUNDS) {
            String call = row.substring(0, row.indexOf(':'));
            String[] bounds = row.substring(row.indexOf(':') + 2).split(" ");
            long least = Long.parseLong(bounds[0]);
            long most = Long.parseLong(bounds[1]);
            is.sentence("BAD: " + row);
            taken(call.replace("*", "" + least));
            taken(call.replace("*", "" + most));
            List<Long> wrong = new ArrayList<>(List.of(least - 1, (long) Integer.MIN_VALUE));
            if (most < Integer.MAX_VALUE) {
                wrong.addAll(List.of(most + 1, (long) Integer.MAX_VALUE));
            }
            for (long number : wrong) {
                refused(call.replace("*", "" + number), BAD);
            }
        }
    }

    /** At its bounds an argument is not BAD; the town is full of agents, though, and other worlds are none. */
    private static void taken(String call) {
        MarketTown town = new MarketTown();
        livelyTown(town);
        if (call.startsWith("unrule 11")) {
            is.due(call, Calls.on(town, call), 0);
        } else if (call.startsWith("agent")) {
            is.due(call, Calls.on(town, call), FULL);
        } else if (call.equals("load 2") || call.equals("differs 2")) {
            is.due(call, Calls.on(town, call), NO);
        } else {
            is.holds(call + " is not BAD", Calls.on(town, call) != BAD);
        }
    }

    private void refusedByNoOrFull() {
        is.sentence("A call that is refused answers one of BAD, NO, FULL", "changes nothing (but the tape)");
        String[] full = {"agent 0 0", "agent 5 100000", "feed 0 0 0 0 0", "feed -1 -1 -1 -1 -1", "rule 0"};
        for (String call : full) {
            refused(call, FULL);
        }
        String[] no = {"unrule 6", "unrule 10", "load 1", "load 2", "differs 1", "differs 2"};
        for (String call : no) {
            refused(call, NO);
        }
        is.sentence("of several the one that stands first with it");
        String[] bad = {"agent 6 0", "agent 0 100001", "agent -1 -1", "rule 12", "rule -1", "unrule 12", "load 3", "differs -1"};
        for (String call : bad) {
            refused(call, BAD);
        }
        is.sentence("NONE: there are not so many. BAD: i is below 0, what.");
        String[] loans = {"loan 20 4", "loan 20 -1", "loan -1 4", "loan -1 0"};
        for (String call : loans) {
            refused(call, BAD);
        }
        refused("loan 20 3", MarketTown.NONE);
    }

    private void worstArguments() {
        is.sentence("BAD");
        String[] names = {"agent 2", "give 3", "good 3", "recipe 5", "policy 2", "about 2", "isOf 2", "has 3", "told 3", "goods 2",
            "paid 3"};
        for (String name : names) {
            int arguments = name.charAt(name.length() - 1) - '0';
            String call = name.substring(0, name.indexOf(' '));
            refused(call + LEAST.repeat(arguments), BAD);
            refused(call + MOST.repeat(arguments), BAD);
            refused(call + " -1".repeat(arguments), BAD);
        }
    }

    private void questions() {
        is.sentence("what is");
        String[] calls = {"about 0 1", "about 11 6", "isOf 3 2", "has 3 1 -1", "has 2 1 9", "told 0 5 8", "goods 1 7", "paid 0 1 -1",
            "loan 0 2", "median 0", "median 2", "differs 0", "count 2", "count 7", "save 1", "save 2"};
        for (String call : calls) {
            unchanged(call);
        }
    }

    private void refusedOnTheLastDays() {
        is.sentence("BAD: also if DAY would be above 700.");
        Picture.Run lastDays = town -> {
            town.agent(2, 5);
            town.agent(0, 5);
            town.recipe(0, 0, 0, 0, 0);
            Scene.rules(town, 0, "make 0 1", "pay 1 1");
            Scene.days(town, 695);
        };
        int[] due = Picture.after(lastDays);
        for (int n = 6; n <= 30; n++) {
            int days = n;
            like("live(" + n + ")", due, true, town -> {
                lastDays.on(town);
                is.due("live(" + days + ")", town.live(days), BAD);
            });
        }
    }
}
