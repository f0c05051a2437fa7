/** Promises 19 to 21, and Terms III: who gets how much, and by which ways. */
public final class FlowsTest {
    private static final Check CHECK = new Check();

    public static void main(String[] args) {
        wants();
        shortestWays();
        equalWays();
        ranks();
        notAgainst();
        would();
        wrongQuestions();
        CHECK.finish();
    }

    private static void flows(HeatTown town, String when, int... flows) {
        for (int p = 0; p < flows.length; p++) {
            CHECK.due(when + ": flow(" + p + ")", town.flow(p), flows[p]);
        }
    }

    private static HeatTown nodes(int many) {
        HeatTown town = new HeatTown();
        for (int i = 1; i < many; i++) {
            town.node();
        }
        return town;
    }

    private static void wants() {
        HeatTown town = nodes(2);
        town.house(1, 3, 0);
        town.house(1, 50, 0);
        int[][] airs = {{20, 0, 0}, {40, 0, 0}, {19, 1, 2}, {10, 1, 17}, {9, 2, 19}, {0, 2, 34}, {-40, 6, 100}};
        for (int[] a : airs) {
            Check.numbers(town, 0, 0, a[0]);
            town.air(0);
            CHECK.due("gets(0, 0) at " + a[0], town.gets(0, 0), a[1]);
            CHECK.due("gets(1, 0) at " + a[0], town.gets(1, 0), a[2]);
            CHECK.due("no way", town.gets(0, 1), 0);
        }
    }

    private static void shortestWays() {
        HeatTown town = nodes(4);
        town.pipe(0, 3, 15, 15, 0, false, false);
        town.pipe(0, 1, 5, 3, 0, true, false);
        town.pipe(2, 1, 5, 2, 0, false, false);
        town.pipe(2, 3, 4, 4, 0, false, false);
        town.house(3, 9, 0);
        CHECK.due("gets(0, 0)", town.gets(0, 0), 6);
        flows(town, "two by the short way", 4, 2, -2, 2);
        town.valve(1, 0, true);
        flows(town, "shut", 6, 0, 0, 0);
        town.valve(1, 0, false);
        town.burst(0, true);
        flows(town, "burst", 0, 2, -2, 2);
        CHECK.due("gets(0, 1)", town.gets(0, 1), 2);
        town.burst(3, true);
        flows(town, "no way", 0, 0, 0, 0);
        CHECK.due("gets(0, 1)", town.gets(0, 1), 0);
    }

    /** Of ways of one length the first by the numbers of their pipes, compared one by one. */
    private static void equalWays() {
        HeatTown town = nodes(4);
        town.pipe(2, 3, 4, 1, 0, false, false);
        town.pipe(1, 3, 6, 2, 0, false, false);
        town.pipe(0, 1, 4, 4, 0, false, false);
        town.pipe(0, 2, 6, 4, 0, false, false);
        town.pipe(0, 3, 10, 4, 0, false, false);
        town.house(3, 1, 0);
        flows(town, "by 2, 1", 0, 1, 1, 0, 0);
        HeatTown other = nodes(4);
        other.pipe(0, 3, 10, 1, 0, false, false);
        other.pipe(0, 1, 4, 4, 0, false, false);
        other.pipe(1, 3, 6, 1, 0, false, false);
        other.pipe(1, 3, 6, 4, 0, false, false);
        other.house(3, 4, 0);
        flows(other, "one by 0, one by 1 2, one by 1 3", 1, 2, 1, 1);
    }

    private static void ranks() {
        HeatTown town = nodes(2);
        town.pipe(0, 1, 9, 5, 0, false, false);
        town.house(1, 3, 1);
        town.house(1, 3, 2);
        town.house(1, 3, 2);
        int[] first = {1, 2, 2};
        for (int h = 0; h < 3; h++) {
            CHECK.due("gets(" + h + ", 1)", town.gets(h, 1), first[h]);
        }
        town.house(1, 6, 99);
        int[] second = {0, 1, 0, 4};
        for (int h = 0; h < 4; h++) {
            CHECK.due("gets(" + h + ", 1)", town.gets(h, 1), second[h]);
        }
    }

    /** House 0 at node 2 takes all of pipe 0 and goes on by pipe 1; house 1 at node 1 can't come against it. */
    private static void notAgainst() {
        HeatTown town = nodes(3);
        town.pipe(0, 1, 4, 2, 0, false, false);
        town.pipe(1, 2, 4, 4, 0, false, false);
        town.pipe(0, 2, 20, 9, 0, false, false);
        town.house(2, 3, 9);
        town.house(1, 3, 1);
        flows(town, "nothing against", 2, 2, 0);
        CHECK.due("gets(1, 1)", town.gets(1, 1), 0);
        town.pipe(1, 2, 4, 4, 0, false, false);
        flows(town, "another pipe beside it", 2, 2, 2, -2);
        CHECK.due("gets(1, 1)", town.gets(1, 1), 2);
        HeatTown one = nodes(3);
        one.pipe(0, 1, 4, 1, 0, false, false);
        one.pipe(1, 2, 4, 4, 0, false, false);
        one.pipe(0, 2, 20, 9, 0, false, false);
        one.house(2, 1, 9);
        one.house(1, 1, 1);
        flows(one, "one unit is enough", 1, 1, 0);
        HeatTown mirror = nodes(3);
        mirror.pipe(1, 0, 4, 1, 0, false, false);
        mirror.pipe(2, 1, 4, 4, 0, false, false);
        mirror.pipe(2, 0, 20, 9, 0, false, false);
        mirror.house(2, 1, 9);
        mirror.house(1, 1, 1);
        flows(mirror, "one unit is enough", -1, -1, 0);
    }

    private static void would() {
        HeatTown town = nodes(2);
        town.pipe(0, 1, 9, 5, 0, false, false);
        town.house(1, 3, 1);
        town.house(1, 3, 2);
        CHECK.due("one gets fewer", town.would(1, 3, 1, 0), 0);
        CHECK.due("it gets the rest", town.would(1, 3, 1, 1), 1);
        CHECK.due("one gets fewer", town.would(1, 3, 2, 0), 1);
        CHECK.due("two get fewer", town.would(1, 6, 3, 0), 2);
        CHECK.due("it gets all it wants", town.would(1, 6, 3, 1), 4);
        CHECK.due("it did not come", town.count(3), 2);
        CHECK.due("gets(0, 1)", town.gets(0, 1), 2);
        int[][] wrong = {{0, 1, 0, 0}, {2, 1, 0, 0}, {1, 0, 0, 0}, {1, 51, 0, 0}, {1, 1, -1, 0}, {1, 1, 100, 0}, {1, 1, 0, 2}, {1, 1, 0, -1}};
        for (int[] w : wrong) {
            CHECK.due("would", town.would(w[0], w[1], w[2], w[3]), -2);
        }
        for (int h = 2; h < 16; h++) {
            CHECK.due("would, " + h + " there", town.would(1, 1, 0, 0), 0);
            town.house(1, 1, 0);
        }
        CHECK.due("16 there", town.would(1, 1, 0, 0), -3);
        CHECK.due("16 there, wrong", town.would(1, 1, 0, 2), -2);
    }

    private static void wrongQuestions() {
        HeatTown town = nodes(2);
        town.pipe(0, 1, 9, 5, 0, false, false);
        town.house(1, 3, 1);
        CHECK.due("flow(-1)", town.flow(-1), -1000);
        CHECK.due("flow(1)", town.flow(1), -1000);
        int[][] none = {{-1, 0}, {1, 0}, {0, -1}, {0, 2}};
        for (int[] n : none) {
            CHECK.due("gets(" + n[0] + ", " + n[1] + ")", town.gets(n[0], n[1]), -2);
        }
    }
}
