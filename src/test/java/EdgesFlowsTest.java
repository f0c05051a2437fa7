/** The edges of promises 19 to 21 and of the FLOWS of Terms III: needs, ranks, room and ways. */
public final class EdgesFlowsTest {
    private static final Check CHECK = new Check();
    private static final Twin LIVELY = new Twin(CHECK, Twin::lively);

    public static void main(String[] args) {
        flowsOfNone();
        flowSigns();
        getsOfNone();
        needs();
        roundedUp();
        ranks();
        room();
        lengths();
        firstByNumbers();
        theOtherWay();
        noWay();
        manyWays();
        byWhatIsNow();
        wouldRefusals();
        wouldEdges();
        wouldFull();
        CHECK.finish();
    }

    private static void flowsOfNone() {
        CHECK.promise(19, "-1000: there is none such");
        int[] none = {-1, 2, 20, Integer.MIN_VALUE, Integer.MAX_VALUE};
        for (int p : none) {
            LIVELY.refused("flow(" + p + ")", t -> t.flow(p), -1000);
        }
        HeatTown town = Check.nodes(2);
        CHECK.due("flow(0) without pipes", town.flow(0), -1000);
        for (int p = 0; p < 20; p++) {
            town.pipe(0, 1, 4, 4, 0, false, false);
            CHECK.due("flow of the last one", town.flow(p), 0);
            CHECK.due("flow behind it", town.flow(p + 1), -1000);
        }
    }

    private static void flowSigns() {
        CHECK.promise(19, "Units that go through a PIPE (from a to b: above 0)");
        HeatTown town = Check.nodes(3);
        town.pipe(0, 1, 60, 60, 0, false, false);
        town.pipe(2, 1, 60, 60, 0, false, false);
        town.house(2, 50, 0);
        int[][] airs = {{20, 0}, {19, 2}, {-15, 59}, {-16, 60}, {-17, 60}, {-40, 60}};
        for (int[] a : airs) {
            Check.air(town, a[0]);
            CHECK.due("from a to b at " + a[0], town.flow(0), a[1]);
            CHECK.due("from b to a at " + a[0], town.flow(1), -a[1]);
        }
    }

    private static void getsOfNone() {
        CHECK.promise(20, "-2: there are none such");
        int[][] none = {{-1, 0}, {3, 0}, {16, 1}, {0, -1}, {0, 2}, {3, 2}, {Integer.MIN_VALUE, 0}, {Integer.MAX_VALUE, 1},
            {0, Integer.MIN_VALUE}, {0, Integer.MAX_VALUE}};
        for (int[] n : none) {
            LIVELY.refused("gets(" + n[0] + ", " + n[1] + ")", t -> t.gets(n[0], n[1]), -2);
        }
        HeatTown town = Check.nodes(2);
        CHECK.due("gets(0, 0) without houses", town.gets(0, 0), -2);
        for (int h = 0; h < 16; h++) {
            town.house(1, 3, 0);
            CHECK.due("wants of the last one", town.gets(h, 0), 2);
            CHECK.due("gets of the last one", town.gets(h, 1), 0);
            CHECK.due("behind it", town.gets(h + 1, 0), -2);
        }
    }

    private static void needs() {
        CHECK.terms("III", "a HOUSE needs SIZE * (20 less AIR) (0 at least)");
        int[][] cases = {{1, 19, 1}, {1, 20, 0}, {1, 21, 0}, {1, 40, 0}, {50, 20, 0}, {50, 40, 0}, {1, -40, 60}, {50, -40, 3000}};
        for (int[] c : cases) {
            HeatTown town = Check.nodes(2);
            town.pipe(0, 1, 60, 60, 0, false, false);
            town.house(1, c[0], 0);
            Check.air(town, c[1]);
            CHECK.due("SIZE " + c[0] + " at " + c[1], town.gets(0, 0), (c[2] + 29) / 30);
            CHECK.due("it gets", town.gets(0, 1), Math.min(60, (c[2] + 29) / 30));
            town.valve(0, 0, true);
            town.burst(0, true);
            town.go(1);
            CHECK.due("it lacks", town.sums(0, 1), 100 * c[2]);
            CHECK.due("it was cold", town.houseOf(0, 5), c[2] > 0 ? 1 : 0);
            CHECK.due("it used nothing", town.sums(0, 0), 0);
        }
    }

    private static void roundedUp() {
        CHECK.promise(20, "Units that a HOUSE wants (what 0)");
        CHECK.terms("III", "and wants that by drop units, rounded up");
        int[][] cases = {{5, 4, 16}, {20, 1, 1}, {19, 1, 2}, {21, 1, 1}, {20, 2, 2}, {20, 3, 3}, {60, 3, 1}, {59, 3, 2},
            {7, 1, 3}, {60, 50, 17}, {5, 50, 200}};
        for (int[] c : cases) {
            HeatTown town = Check.nodes(2);
            town.house(1, c[1], 0);
            Check.rules(town, "drop " + c[0]);
            CHECK.due(20 * c[1] + " by " + c[0], town.gets(0, 0), c[2]);
        }
    }

    private static void ranks() {
        CHECK.terms("III", "HOUSES, the greatest RANK first, then the least number");
        int[][] ranks = {{0, 99}, {98, 99}, {99, 0}, {99, 98}, {0, 0}, {99, 99}};
        for (int[] r : ranks) {
            HeatTown town = Check.nodes(2);
            town.pipe(0, 1, 9, 3, 0, false, false);
            town.house(1, 3, r[0]);
            town.house(1, 3, r[1]);
            boolean first = r[0] >= r[1];
            CHECK.due("rank " + r[0] + " beside " + r[1], town.gets(0, 1), first ? 2 : 1);
            CHECK.due("rank " + r[1] + " beside " + r[0], town.gets(1, 1), first ? 1 : 2);
        }
        HeatTown sixteen = Check.nodes(2);
        sixteen.pipe(0, 1, 60, 16, 0, false, false);
        for (int h = 0; h < 16; h++) {
            sixteen.house(1, 3, h % 4);
        }
        // 8 houses of ranks 3 and 2 take two units each.
        for (int h = 0; h < 16; h++) {
            CHECK.due("gets(" + h + ", 1)", sixteen.gets(h, 1), h % 4 >= 2 ? 2 : 0);
        }
    }

    private static void room() {
        CHECK.promise(20, "and gets (1)");
        CHECK.terms("III", "by OPEN PIPES that have ROOM; so many units as it wants, and as all these PIPES have ROOM for");
        int[][] cases = {{1, 4, 1}, {2, 4, 2}, {3, 4, 2}, {4, 1, 1}, {4, 2, 2}, {4, 3, 2}, {1, 1, 1}};
        for (int[] c : cases) {
            HeatTown town = Check.nodes(3);
            town.pipe(0, 1, 4, c[0], 0, false, false);
            town.pipe(1, 2, 4, c[1], 0, false, false);
            town.house(2, 3, 0);
            CHECK.due("WIDE " + c[0] + " and " + c[1], town.gets(0, 1), c[2]);
            CHECK.due("flow(0)", town.flow(0), c[2]);
            CHECK.due("flow(1)", town.flow(1), c[2]);
        }
        HeatTown full = Check.nodes(2);
        full.pipe(0, 1, 9, 4, 0, false, false);
        full.house(1, 3, 2);
        full.house(1, 3, 1);
        full.house(1, 3, 0);
        CHECK.due("the second fills it", full.gets(1, 1), 2);
        CHECK.due("no room for the third", full.gets(2, 1), 0);
        CHECK.due("it is full", full.flow(0), 4);
    }

    private static void lengths() {
        CHECK.terms("III", "the shortest (by LONG)");
        int[] directs = {11, 12, 13};
        for (int direct : directs) {
            // Pipe 0 is the direct way; pipes 1 to 3 are one of 4 + 4 + 4. At 12 both are as long, and pipe 0 is first.
            HeatTown town = Check.nodes(4);
            town.pipe(0, 3, direct, 4, 0, false, false);
            town.pipe(0, 1, 4, 4, 0, false, false);
            town.pipe(1, 2, 4, 4, 0, false, false);
            town.pipe(2, 3, 4, 4, 0, false, false);
            town.house(3, 1, 0);
            CHECK.due("direct " + direct, town.flow(0), direct <= 12 ? 1 : 0);
            CHECK.due("by three pipes, direct " + direct, town.flow(3), direct <= 12 ? 0 : 1);
        }
        HeatTown longest = Check.nodes(12);
        for (int n = 1; n < 12; n++) {
            longest.pipe(n - 1, n, 60, 1, 0, false, false);
        }
        longest.house(11, 50, 0);
        CHECK.due("the longest way there is", longest.gets(0, 1), 1);
        longest.pipe(11, 0, 60, 60, 0, false, false);
        CHECK.due("first by the short one", longest.flow(11), -34);
        CHECK.due("nothing by the long one", longest.flow(0), 0);
        Check.air(longest, -20);
        CHECK.due("60 by the short one", longest.flow(11), -60);
        CHECK.due("one by the long one", longest.flow(10), 1);
        CHECK.due("61 of 67", longest.gets(0, 1), 61);
    }

    private static void firstByNumbers() {
        CHECK.terms("III", "of several the first by the numbers of its PIPES from the PLANT on");
        HeatTown twins = Check.nodes(2);
        twins.pipe(0, 1, 4, 1, 0, false, false);
        twins.pipe(1, 0, 4, 1, 0, false, false);
        twins.house(1, 1, 0);
        CHECK.due("pipe 0", twins.flow(0), 1);
        CHECK.due("not pipe 1", twins.flow(1), 0);
        // Ways 1-3 and 2-0 to node 3: from the plant on the first is first, from the house on it would be the second.
        HeatTown first = Check.nodes(4);
        first.pipe(2, 3, 5, 4, 0, false, false);
        first.pipe(0, 1, 5, 4, 0, false, false);
        first.pipe(0, 2, 5, 4, 0, false, false);
        first.pipe(1, 3, 5, 4, 0, false, false);
        first.house(3, 1, 0);
        int[] flows = {0, 1, 0, 1};
        for (int p = 0; p < 4; p++) {
            CHECK.due("by 1 and 3: flow(" + p + ")", first.flow(p), flows[p]);
        }
        // Ways 0-3, 0-2 and 1: the first pipe is alike, then 2 is below 3; 0-2 is ahead of 1.
        HeatTown second = Check.nodes(3);
        second.pipe(0, 1, 4, 4, 0, false, false);
        second.pipe(0, 2, 8, 4, 0, false, false);
        second.pipe(2, 1, 4, 4, 0, false, false);
        second.pipe(1, 2, 4, 4, 0, false, false);
        second.house(2, 1, 0);
        int[] next = {1, 0, -1, 0};
        for (int p = 0; p < 4; p++) {
            CHECK.due("by 0 and 2: flow(" + p + ")", second.flow(p), next[p]);
        }
        // A way of more pipes is ahead of one of fewer if its first number is less.
        HeatTown more = Check.nodes(4);
        more.pipe(0, 1, 4, 4, 0, false, false);
        more.pipe(0, 3, 12, 4, 0, false, false);
        more.pipe(1, 2, 4, 4, 0, false, false);
        more.pipe(2, 3, 4, 4, 0, false, false);
        more.house(3, 1, 0);
        CHECK.due("three pipes, 0 first", more.flow(0), 1);
        CHECK.due("not the one pipe 1", more.flow(1), 0);
    }

    private static void theOtherWay() {
        CHECK.terms("III", "and in which nothing goes the other way");
        HeatTown town = Check.nodes(3);
        town.pipe(0, 1, 4, 1, 0, false, false);
        town.pipe(1, 2, 4, 4, 0, false, false);
        town.pipe(0, 2, 30, 30, 0, false, false);
        town.house(2, 1, 5);
        town.house(1, 1, 1);
        CHECK.due("one unit from 1 to 2", town.flow(1), 1);
        CHECK.due("nothing comes back by it", town.gets(1, 1), 0);
        CHECK.due("nor by pipe 2", town.flow(2), 0);
        HeatTown with = Check.nodes(3);
        with.pipe(0, 1, 4, 2, 0, false, false);
        with.pipe(1, 2, 4, 4, 0, false, false);
        with.house(2, 1, 5);
        with.house(2, 1, 1);
        CHECK.due("the same way is free", with.flow(1), 2);
        HeatTown none = Check.nodes(3);
        none.pipe(0, 1, 4, 1, 0, false, false);
        none.pipe(1, 2, 4, 4, 0, false, false);
        none.pipe(0, 2, 30, 30, 0, false, false);
        none.house(1, 3, 1);
        CHECK.due("nothing goes the other way yet", none.flow(1), -1);
        CHECK.due("it gets both", none.gets(0, 1), 2);
    }

    private static void noWay() {
        CHECK.terms("III", "Without a way it gets no more");
        HeatTown town = Check.nodes(3);
        town.pipe(0, 1, 4, 4, 0, true, true);
        town.house(1, 3, 0);
        town.house(2, 3, 9);
        CHECK.due("no pipe at all", town.gets(1, 1), 0);
        CHECK.due("it wants still", town.gets(1, 0), 2);
        for (int end = 0; end < 2; end++) {
            town.valve(0, end, true);
            CHECK.due("shut at " + end, town.gets(0, 1), 0);
            CHECK.due("flow", town.flow(0), 0);
            town.valve(0, end, false);
            CHECK.due("open", town.gets(0, 1), 2);
        }
        town.burst(0, true);
        CHECK.due("burst", town.gets(0, 1), 0);
        CHECK.due("it wants still", town.gets(0, 0), 2);
    }

    /** 20 pipes of WIDE 1 side by side, the longest one first. */
    private static void manyWays() {
        CHECK.terms("III", "as long as one wants more");
        HeatTown town = Check.nodes(2);
        for (int p = 0; p < 20; p++) {
            town.pipe(0, 1, 60 - p, 1, 0, false, false);
        }
        town.house(1, 50, 0);
        CHECK.due("a unit by each of 20", town.gets(0, 1), 20);
        Check.air(town, 8);
        CHECK.due("20 of 20", town.gets(0, 0), 20);
        CHECK.due("by the longest too", town.flow(0), 1);
        Check.air(town, 9);
        CHECK.due("19 of 19", town.gets(0, 1), 19);
        CHECK.due("not by the longest", town.flow(0), 0);
        CHECK.due("by the next", town.flow(1), 1);
    }

    private static void byWhatIsNow() {
        CHECK.promise(19, "by what is open now, and the AIR of this HOUR");
        HeatTown town = Check.nodes(2);
        town.pipe(0, 1, 60, 60, 0, true, false);
        town.house(1, 3, 0);
        Check.numbers(town, 0, 0, 0, -10, 20);
        town.air(0);
        CHECK.due("hour 0", town.flow(0), 2);
        CHECK.due("no hour has gone", town.pipeOf(0, 7), 0);
        town.go(1);
        CHECK.due("hour 1", town.flow(0), 3);
        CHECK.due("the latest hour", town.pipeOf(0, 7), 2);
        town.valve(0, 0, true);
        CHECK.due("shut", town.flow(0), 0);
        CHECK.due("the latest hour still", town.pipeOf(0, 7), 2);
        town.valve(0, 0, false);
        CHECK.due("open", town.flow(0), 3);
        town.house(1, 3, 0);
        CHECK.due("a house more", town.flow(0), 6);
        Check.rules(town, "drop 60");
        CHECK.due("another drop", town.flow(0), 4);
        town.go(1);
        CHECK.due("hour 2", town.flow(0), 0);
    }

    private static void wouldRefusals() {
        CHECK.promise(21, "-2: something is not as told");
        int[][] refused = {{0, 1, 0, 0}, {-1, 1, 0, 0}, {4, 1, 0, 0}, {1, 0, 0, 0}, {1, -1, 0, 0}, {1, 51, 0, 0}, {1, 1, -1, 0},
            {1, 1, 100, 0}, {1, 1, 0, -1}, {1, 1, 0, 2}, {Integer.MIN_VALUE, 1, 0, 0}, {Integer.MAX_VALUE, 1, 0, 0},
            {1, Integer.MIN_VALUE, 0, 0}, {1, Integer.MAX_VALUE, 0, 0}, {1, 1, Integer.MIN_VALUE, 0},
            {1, 1, Integer.MAX_VALUE, 0}, {1, 1, 0, Integer.MIN_VALUE}, {1, 1, 0, Integer.MAX_VALUE}};
        for (int[] r : refused) {
            String call = "would(" + r[0] + ", " + r[1] + ", " + r[2] + ", " + r[3] + ")";
            LIVELY.refused(call, t -> t.would(r[0], r[1], r[2], r[3]), -2);
        }
        CHECK.promise(21, "if a HOUSE like that came: none comes");
        LIVELY.refused("would(1, 1, 0, 0)", t -> t.would(1, 1, 0, 0), 0);
        LIVELY.refused("would(1, 50, 99, 0)", t -> t.would(1, 50, 99, 0), 2);
        LIVELY.refused("would(1, 50, 99, 1)", t -> t.would(1, 50, 99, 1), 4);
        LIVELY.refused("would(3, 50, 99, 1)", t -> t.would(3, 50, 99, 1), 0);
    }

    private static void wouldEdges() {
        CHECK.promise(21, "How many HOUSES would get fewer units (what 0), how many that one would get (1)");
        HeatTown none = Check.nodes(2);
        none.pipe(0, 1, 60, 60, 0, false, false);
        CHECK.due("the first house, SIZE 1", none.would(1, 1, 0, 1), 1);
        CHECK.due("the first house, SIZE 50, RANK 99", none.would(1, 50, 99, 1), 34);
        CHECK.due("none gets fewer", none.would(1, 50, 99, 0), 0);
        HeatTown town = Check.nodes(2);
        town.pipe(0, 1, 9, 5, 0, false, false);
        town.house(1, 3, 50);
        town.house(1, 3, 50);
        CHECK.due("one more unit has room", town.would(1, 1, 99, 0), 0);
        CHECK.due("two more have not", town.would(1, 3, 51, 0), 1);
        CHECK.due("of one rank it comes last", town.would(1, 3, 50, 0), 0);
        CHECK.due("of one rank it gets the rest", town.would(1, 3, 50, 1), 1);
        CHECK.due("of a higher one it gets all", town.would(1, 3, 51, 1), 2);
        CHECK.due("of a lower one it gets the rest", town.would(1, 3, 49, 1), 1);
        CHECK.due("both get fewer", town.would(1, 6, 51, 0), 2);
        CHECK.due("all of it", town.would(1, 50, 99, 1), 5);
        CHECK.due("both get none", town.would(1, 50, 99, 0), 2);
        CHECK.due("gets(0, 1)", town.gets(0, 1), 2);
        CHECK.due("gets(2, 1)", town.gets(2, 1), -2);
        Check.air(town, 20);
        CHECK.due("nobody wants", town.would(1, 50, 99, 1), 0);
        CHECK.due("nobody gets fewer", town.would(1, 50, 99, 0), 0);
    }

    private static void wouldFull() {
        CHECK.promise(21, "-3: there are 16 HOUSES");
        HeatTown town = Check.nodes(2);
        town.pipe(0, 1, 60, 30, 0, false, false);
        for (int h = 0; h < 15; h++) {
            town.house(1, 3, 0);
        }
        CHECK.due("15 there, no room", town.would(1, 3, 0, 1), 0);
        CHECK.due("15 there, one gets fewer", town.would(1, 3, 1, 0), 1);
        CHECK.due("15 there, all get fewer", town.would(1, 50, 1, 0), 15);
        town.house(1, 3, 0);
        CHECK.due("16 there", town.would(1, 3, 0, 0), -3);
        CHECK.due("16 there", town.would(1, 3, 0, 1), -3);
        CHECK.promise(21, "-2 is told ahead of -3");
        int[][] wrong = {{0, 1, 0, 0}, {2, 1, 0, 0}, {1, 0, 0, 0}, {1, 51, 0, 0}, {1, 1, -1, 0}, {1, 1, 100, 0}, {1, 1, 0, -1}, {1, 1, 0, 2}};
        for (int[] w : wrong) {
            CHECK.due("wrong, 16 there", town.would(w[0], w[1], w[2], w[3]), -2);
        }
    }
}
