/** The edges of promises 26 and 27 and of Terms VI: facts, and the span of a leak. */
public final class EdgesMetersTest {
    private static final Check CHECK = new Check();
    private static final Twin LIVELY = new Twin(CHECK, Twin::lively);

    public static void main(String[] args) {
        meterRefusals();
        meterNumbers();
        metersFull();
        leakRefusals();
        nothingIsTold();
        spans();
        noLeakGoesWithIt();
        theLatest();
        theFirstFacts();
        manyHours();
        CHECK.finish();
    }

    private static void meterRefusals() {
        CHECK.promise(26, "-2: there is no such PIPE, end, HOUR (0 .. this one), number");
        int[][] refused = {{-1, 0, 0, 0}, {2, 0, 0, 0}, {0, -1, 0, 0}, {0, 2, 0, 0}, {0, 0, -1, 0}, {0, 0, 3, 0},
            {0, 0, 0, -1}, {0, 0, 0, 1001}, {Integer.MIN_VALUE, 0, 0, 0}, {Integer.MAX_VALUE, 0, 0, 0},
            {0, Integer.MIN_VALUE, 0, 0}, {0, Integer.MAX_VALUE, 0, 0}, {0, 0, Integer.MIN_VALUE, 0},
            {0, 0, Integer.MAX_VALUE, 0}, {0, 0, 0, Integer.MIN_VALUE}, {0, 0, 0, Integer.MAX_VALUE}};
        for (int[] r : refused) {
            String call = "meter(" + r[0] + ", " + r[1] + ", " + r[2] + ", " + r[3] + ")";
            LIVELY.refused(call, t -> t.meter(r[0], r[1], r[2], r[3]), -2);
        }
    }

    private static HeatTown twoPipes() {
        HeatTown town = Check.nodes(2);
        town.pipe(0, 1, 4, 4, 0, false, false);
        town.pipe(0, 1, 4, 4, 0, false, false);
        return town;
    }

    private static void meterNumbers() {
        CHECK.promise(26, "A METER at an end of a PIPE read so many units in an HOUR (0 .. 1000): its FACT's number");
        HeatTown town = twoPipes();
        CHECK.due("hour 0 in hour 0", town.meter(0, 0, 0, 0), 0);
        CHECK.due("hour 1 in hour 0", town.meter(0, 1, 1, 0), -2);
        CHECK.due("1000", town.meter(0, 1, 0, 1000), 1);
        town.go(2);
        CHECK.due("this hour", town.meter(1, 1, 2, 7), 2);
        CHECK.due("the next one", town.meter(1, 0, 3, 7), -2);
        CHECK.due("the first one", town.meter(1, 0, 0, 7), 3);
        CHECK.due("count(8)", town.count(8), 4);
        CHECK.due("0 and 1000 differ by 1000", town.leak(0, 2, 0, 0), 1000);
        CHECK.due("pipe 1 has no hour of both", town.leak(1, 4, 0, 0), -1);
        town.ahead(5, 0);
        CHECK.due("ahead() is no hour", town.meter(1, 0, 3, 7), -2);
    }

    private static void metersFull() {
        CHECK.promise(26, "-3: there are 200");
        HeatTown town = twoPipes();
        for (int i = 0; i < 199; i++) {
            town.meter(0, 0, 0, 5);
        }
        CHECK.due("the 200th", town.meter(0, 1, 0, 9), 199);
        CHECK.due("the 201st", town.meter(0, 1, 0, 8), -3);
        CHECK.due("count(8)", town.count(8), 200);
        CHECK.due("the 200th is told", town.leak(0, 200, 0, 0), 4);
        CHECK.due("not by the first 199", town.leak(0, 199, 0, 0), -1);
        CHECK.due("there is no 201st", town.leak(0, 201, 0, 0), -2);
        CHECK.promise(26, "-2 is told ahead of -3");
        int[][] wrong = {{-1, 0, 0, 0}, {2, 0, 0, 0}, {0, 2, 0, 0}, {0, 0, 1, 0}, {0, 0, 0, 1001}};
        for (int[] w : wrong) {
            CHECK.due("a wrong 201st", town.meter(w[0], w[1], w[2], w[3]), -2);
        }
    }

    private static void leakRefusals() {
        CHECK.promise(27, "-2: something is not as told");
        int[][] refused = {{-1, 0, 0, 0}, {2, 0, 0, 0}, {0, -1, 0, 0}, {0, 3, 0, 0}, {0, 0, -1, 0}, {0, 0, 51, 0},
            {0, 0, 0, -1}, {0, 0, 0, 2}, {0, 2, 51, 0}, {0, 3, 0, 2}, {Integer.MIN_VALUE, 0, 0, 0}, {Integer.MAX_VALUE, 0, 0, 0},
            {0, Integer.MIN_VALUE, 0, 0}, {0, Integer.MAX_VALUE, 0, 0}, {0, 0, Integer.MIN_VALUE, 0},
            {0, 0, Integer.MAX_VALUE, 0}, {0, 0, 0, Integer.MIN_VALUE}, {0, 0, 0, Integer.MAX_VALUE}};
        for (int[] r : refused) {
            String call = "leak(" + r[0] + ", " + r[1] + ", " + r[2] + ", " + r[3] + ")";
            LIVELY.refused(call, t -> t.leak(r[0], r[1], r[2], r[3]), -2);
        }
        LIVELY.refused("leak(0, 2, 0, 0)", t -> t.leak(0, 2, 0, 0), 9);
        LIVELY.refused("leak(0, 2, 50, 1)", t -> t.leak(0, 2, 50, 1), 109);
    }

    private static void nothingIsTold() {
        CHECK.promise(27, "NONE: nothing is told");
        HeatTown town = twoPipes();
        town.go(1);
        CHECK.due("no facts", town.leak(0, 0, 0, 0), -1);
        CHECK.due("no facts", town.leak(0, 0, 50, 1), -1);
        town.meter(0, 0, 0, 5);
        CHECK.due("one end alone", town.leak(0, 1, 0, 0), -1);
        town.meter(0, 1, 1, 5);
        CHECK.due("another hour", town.leak(0, 2, 0, 0), -1);
        town.meter(1, 1, 0, 5);
        CHECK.due("another pipe", town.leak(0, 3, 0, 0), -1);
        town.meter(0, 0, 0, 6);
        CHECK.due("the same end again", town.leak(0, 4, 0, 0), -1);
        town.meter(0, 1, 0, 6);
        CHECK.due("both", town.leak(0, 5, 0, 0), 0);
        CHECK.due("by none of them", town.leak(0, 0, 0, 0), -1);
    }

    private static void span(int a, int b, int drift, int least, int greatest) {
        HeatTown town = twoPipes();
        town.meter(1, 0, 0, a);
        town.meter(1, 1, 0, b);
        CHECK.due(a + " and " + b + ", drift " + drift + ": least", town.leak(1, 2, drift, 0), least);
        CHECK.due(a + " and " + b + ", drift " + drift + ": greatest", town.leak(1, 2, drift, 1), greatest);
    }

    private static void spans() {
        CHECK.terms("VI", "0 to 1000 units, .. by what these differ (without a sign), but for twice DRIFT either way");
        span(5, 5, 0, 0, 0);
        span(5, 6, 0, 1, 1);
        span(6, 5, 0, 1, 1);
        span(0, 0, 50, 0, 100);
        span(0, 1000, 50, 900, 1000);
        span(1000, 0, 50, 900, 1000);
        span(1000, 0, 0, 1000, 1000);
        span(100, 0, 50, 0, 200);
        span(101, 0, 50, 1, 201);
        span(99, 0, 50, 0, 199);
        span(900, 0, 50, 800, 1000);
        span(899, 0, 50, 799, 999);
        span(901, 0, 50, 801, 1000);
        span(10, 7, 1, 1, 5);
        span(2, 0, 1, 0, 4);
        span(3, 0, 1, 1, 5);
    }

    private static void noLeakGoesWithIt() {
        CHECK.promise(27, "-7: no leak goes with it");
        HeatTown town = twoPipes();
        town.go(1);
        town.meter(0, 0, 0, 10);
        town.meter(0, 1, 0, 0);
        town.meter(0, 0, 1, 30);
        town.meter(0, 1, 1, 0);
        // 10 + 2 * drift and 30 - 2 * drift meet at a drift of 5.
        int[][] cases = {{0, -7, -7}, {4, -7, -7}, {5, 20, 20}, {6, 18, 22}, {50, 0, 110}};
        for (int[] c : cases) {
            CHECK.due("least, drift " + c[0], town.leak(0, 4, c[0], 0), c[1]);
            CHECK.due("greatest, drift " + c[0], town.leak(0, 4, c[0], 1), c[2]);
        }
        CHECK.promise(27, "-2 is told ahead of -7 and of NONE");
        CHECK.due("what 2", town.leak(0, 4, 0, 2), -2);
        CHECK.due("drift 51", town.leak(0, 0, 51, 0), -2);
    }

    private static void theLatest() {
        CHECK.terms("VI", "(the latest of each of the first n FACTS)");
        HeatTown town = twoPipes();
        town.meter(0, 0, 0, 10);
        town.meter(0, 1, 0, 4);
        town.meter(0, 1, 0, 7);
        town.meter(0, 0, 0, 20);
        town.meter(1, 0, 0, 500);
        int[] due = {-1, -1, 6, 3, 13, 13};
        for (int n = 0; n < due.length; n++) {
            CHECK.due("the first " + n, town.leak(0, n, 0, 0), due[n]);
            CHECK.due("the first " + n, town.leak(0, n, 0, 1), due[n]);
        }
    }

    private static void theFirstFacts() {
        CHECK.promise(27, "by the first n FACTS");
        HeatTown town = twoPipes();
        town.meter(0, 0, 0, 10);
        CHECK.due("n 0", town.leak(0, 0, 0, 0), -1);
        CHECK.due("n 1", town.leak(0, 1, 0, 0), -1);
        CHECK.due("n 2", town.leak(0, 2, 0, 0), -2);
        town.meter(0, 1, 0, 10);
        CHECK.due("n 2", town.leak(0, 2, 0, 0), 0);
        CHECK.due("n 3", town.leak(0, 3, 0, 0), -2);
        CHECK.due("n -1", town.leak(0, -1, 0, 0), -2);
    }

    private static void manyHours() {
        CHECK.terms("VI", "in each HOUR for which both METERS of it read");
        HeatTown town = twoPipes();
        town.go(48);
        for (int hour = 0; hour <= 48; hour++) {
            town.meter(0, 0, hour, 100 + hour);
            town.meter(0, 1, hour, 100);
        }
        // They differ by 0 to 48: 48 - 2 * 24 is 0, 0 + 2 * 24 is 48.
        CHECK.due("drift 12: least", town.leak(0, 98, 12, 0), 24);
        CHECK.due("drift 12: greatest", town.leak(0, 98, 12, 1), 24);
        CHECK.due("drift 11", town.leak(0, 98, 11, 0), -7);
        CHECK.due("drift 24: least", town.leak(0, 98, 24, 0), 0);
        CHECK.due("drift 24: greatest", town.leak(0, 98, 24, 1), 48);
        CHECK.due("without the last fact", town.leak(0, 97, 12, 0), 23);
        CHECK.due("without the last fact", town.leak(0, 97, 12, 1), 24);
    }
}
