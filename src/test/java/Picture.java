import java.util.ArrayList;
import java.util.List;

/**
 * All that a town answers after a run of calls. An object is used for 512 calls at most, so the run is
 * told to as many new objects as the questions need: the same calls give the same answers.
 */
final class Picture {
    /** Calls on a new town, few enough to leave room for a share of the questions. */
    interface Run {
        void on(MarketTown town);
    }

    private static final int SHARE = 180;
    private static final List<int[]> QUESTIONS = questions();

    private Picture() {
    }

    static int[] after(Run run) {
        int[] answers = new int[QUESTIONS.size()];
        MarketTown town = null;
        for (int i = 0; i < answers.length; i++) {
            if (i % SHARE == 0) {
                town = new MarketTown();
                run.on(town);
            }
            answers[i] = answer(town, QUESTIONS.get(i));
        }
        return answers;
    }

    /** The first question that two pictures answer each in its own way; or an empty text. */
    static String firstUnlike(int[] one, int[] other, boolean withTape) {
        for (int i = 0; i < one.length; i++) {
            int[] question = QUESTIONS.get(i);
            boolean ofTape = question[0] == 7 && question[1] == 5;
            if (one[i] != other[i] && (withTape || !ofTape)) {
                return java.util.Arrays.toString(question) + ": " + one[i] + ", " + other[i];
            }
        }
        return "";
    }

    private static List<int[]> questions() {
        List<int[]> row = new ArrayList<>();
        for (int agent = 0; agent < 12; agent++) {
            addAll(row, 0, agent, 7);
            for (int good = 0; good < 5; good++) {
                for (int age = -1; age < 10; age++) {
                    row.add(new int[] {1, agent, good, age});
                }
            }
            for (int rule = 0; rule < 6; rule++) {
                for (int what = 0; what < 9; what++) {
                    row.add(new int[] {2, agent, rule, what});
                }
            }
            for (int to = 0; to < 12; to++) {
                for (int reason = 0; reason < 5; reason++) {
                    row.add(new int[] {3, agent, to, reason});
                }
            }
        }
        for (int good = 0; good < 5; good++) {
            addAll(row, 4, good, 8);
        }
        for (int loan = 0; loan < 20; loan++) {
            addAll(row, 5, loan, 4);
        }
        for (int i = 0; i < 8; i++) {
            row.add(new int[] {7, i, 0, 0});
            row.add(new int[] {6, i % 6, 0, 0});
        }
        return row;
    }

    private static void addAll(List<int[]> row, int kind, int first, int whats) {
        for (int what = 0; what < whats; what++) {
            row.add(new int[] {kind, first, what, 0});
        }
    }

    private static int answer(MarketTown town, int[] question) {
        int a = question[1];
        int b = question[2];
        int c = question[3];
        switch (question[0]) {
            case 0:
                return town.about(a, b);
            case 1:
                return town.has(a, b, c);
            case 2:
                return town.told(a, b, c);
            case 3:
                return town.paid(a, b, c);
            case 4:
                return town.goods(a, b);
            case 5:
                return town.loan(a, b);
            case 6:
                return town.median(a);
            default:
                return town.count(a);
        }
    }
}
