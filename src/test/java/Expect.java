/** Counts the answers that are not as due, and writes texts on a town's tape. */
final class Expect {
    private int wrong;
    private int asked;
    private String sentence = "";

    /** The words of the document that the next answers are due by. */
    void sentence(String... words) {
        sentence = "[" + String.join(" .. ", words) + "] ";
    }

    void due(String what, long got, long want) {
        asked++;
        if (got != want) {
            wrong++;
            System.out.println(sentence + what + " answered " + got + ", due is " + want);
        }
    }

    void holds(String what, boolean is) {
        due(what, is ? 1 : 0, 1);
    }

    /** Ends the test: with exit code 1 if one answer was not as due. */
    void end() {
        System.out.println(wrong == 0 ? asked + " answers are as due" : wrong + " answers are not as due");
        if (wrong != 0) {
            System.exit(1);
        }
    }

    /** The five numbers of one feed, of the twenty characters from a place on; zero bytes behind the end. */
    static int[] numbers(String text, int from) {
        int[] row = new int[5];
        for (int i = 0; i < 20; i++) {
            int letter = from + i < text.length() ? text.charAt(from + i) : 0;
            row[i / 4] |= letter << (24 - 8 * (i % 4));
        }
        return row;
    }

    /** The tape, empty ahead, holds this text then. */
    static void tape(MarketTown town, String text) {
        for (int from = 0; from < text.length(); from += 20) {
            int[] row = numbers(text, from);
            town.feed(row[0], row[1], row[2], row[3], row[4]);
        }
        town.trim(text.length());
    }

    static int rule(MarketTown town, int agent, String text) {
        tape(town, text);
        return town.rule(agent);
    }
}
