/** Counts the answers that are not as due; each test ends with finish(). */
final class Check {
    private int asked = 0;
    private int wrong = 0;
    private String sentence = "";

    /** Names the promise, and the words of it, that the next answers hold. */
    void promise(int number, String words) {
        sentence = "promise " + number + ", '" + words + "': ";
    }

    /** Names the part of the Terms, and the words of it, that the next answers hold. */
    void terms(String part, String words) {
        sentence = "terms " + part + ", '" + words + "': ";
    }

    void due(String call, long got, long want) {
        asked++;
        if (got != want) {
            wrong++;
            System.out.println(sentence + call + " answered " + got + ", due is " + want);
        }
    }

    void due(String call, boolean got, boolean want) {
        due(call, got ? 1 : 0, want ? 1 : 0);
    }

    void finish() {
        System.out.println(asked + " answers, " + wrong + " not as due");
        if (wrong != 0 || asked == 0) {
            System.exit(1);
        }
    }

    /** Feeds a text and cuts the blanks that feed() needs behind it. */
    static void tape(HeatTown town, String text) {
        int before = town.count(6);
        StringBuilder padded = new StringBuilder(text);
        while (padded.length() % 20 != 0) {
            padded.append(' ');
        }
        for (int i = 0; i < padded.length(); i += 20) {
            town.feed(four(padded, i), four(padded, i + 4), four(padded, i + 8),
                four(padded, i + 12), four(padded, i + 16));
        }
        town.end(before + text.length());
    }

    static int rules(HeatTown town, String text) {
        tape(town, text);
        return town.rules();
    }

    static void numbers(HeatTown town, int place, int width, long... numbers) {
        town.row(place, width, numbers.length);
        for (int i = 0; i < numbers.length; i++) {
            town.write(place, i, numbers[i]);
        }
    }

    /** A new town of so many nodes, the plant among them. */
    static HeatTown nodes(int many) {
        HeatTown town = new HeatTown();
        for (int i = 1; i < many; i++) {
            town.node();
        }
        return town;
    }

    /** The air is this one from now on. */
    static void air(HeatTown town, int air) {
        numbers(town, 3, 0, air);
        town.air(3);
        town.tear(3);
    }

    private static int four(CharSequence text, int from) {
        int all = 0;
        for (int i = 0; i < 4; i++) {
            all = all << 8 | text.charAt(from + i) & 255;
        }
        return all;
    }
}
