/** Promises 2 to 7 and 31: what is laid into the ground, and what is turned or breaks there. */
public final class GroundTest {
    private static final Check CHECK = new Check();

    public static void main(String[] args) {
        terms();
        nodes();
        pipes();
        houses();
        valves();
        bursts();
        CHECK.finish();
    }

    private static void terms() {
        HeatTown town = new HeatTown();
        int[][] wrong = {{-1, 25}, {21, 25}, {8, 14}, {8, 51}, {Integer.MIN_VALUE, 25}, {8, Integer.MAX_VALUE}};
        for (int[] w : wrong) {
            CHECK.due("terms(" + w[0] + ", " + w[1] + ")", town.terms(w[0], w[1]), -2);
        }
        CHECK.due("terms(0, 50)", town.terms(0, 50), 0);
        CHECK.due("terms(20, 15)", town.terms(20, 15), 0);
        // What is wrong changes nothing: GROUND stays 20, LEAST 15.
        CHECK.due("terms(21, 15)", town.terms(21, 15), -2);
        CHECK.due("terms(0, 51)", town.terms(0, 51), -2);
        town.node();
        town.pipe(0, 1, 4, 4, 100, false, false);
        town.house(1, 3, 0);
        town.go(1);
        // (6000 - 2000) / 10 for 2 units, (3000 - 2000) / 10 for 2 new ones and 4 that came back.
        CHECK.due("lost above ground", town.sum(3), 2 * 400 + 2 * 100 + 4 * 100);
        town.go(2);
        // The units come with 2810 each, all above 1500 can be used.
        CHECK.due("came", town.houseOf(0, 4), 2 * 2810);
        CHECK.due("cold", town.sums(0, 1), 6000 - 2 * 1310);
    }

    private static void nodes() {
        HeatTown town = new HeatTown();
        for (int n = 1; n <= 11; n++) {
            CHECK.due("node()", town.node(), n);
        }
        CHECK.due("a 13th node", town.node(), -3);
        CHECK.due("count(1)", town.count(1), 12);
    }

    private static void pipes() {
        HeatTown town = new HeatTown();
        town.node();
        town.node();
        int[][] wrong = {{0, 3, 9, 9, 0}, {3, 0, 9, 9, 0}, {-1, 0, 9, 9, 0}, {0, -1, 9, 9, 0}, {1, 1, 9, 9, 0},
            {0, 1, 3, 1, 0}, {0, 1, 61, 1, 0}, {0, 1, 9, 0, 0}, {0, 1, 9, 10, 0}, {0, 1, 9, 9, -1}, {0, 1, 9, 9, 201}};
        for (int[] w : wrong) {
            CHECK.due("a wrong pipe", town.pipe(w[0], w[1], w[2], w[3], w[4], true, true), -2);
        }
        CHECK.due("count(2)", town.count(2), 0);
        CHECK.due("the shortest", town.pipe(2, 1, 4, 4, 200, true, false), 0);
        CHECK.due("the longest", town.pipe(0, 2, 60, 1, 0, false, true), 1);
        int[] due = {2, 1, 4, 4, 200, 1, 0, 0, -1000};
        for (int what = 0; what < due.length; what++) {
            CHECK.due("pipeOf(0, " + what + ")", town.pipeOf(0, what), due[what]);
        }
        CHECK.due("pipeOf(0, -1)", town.pipeOf(0, -1), -1000);
        CHECK.due("pipeOf(2, 0)", town.pipeOf(2, 0), -1000);
        CHECK.due("pipeOf(-1, 0)", town.pipeOf(-1, 0), -1000);
        CHECK.due("pipeOf(1, 3)", town.pipeOf(1, 3), 1);
        for (int p = 2; p < 20; p++) {
            CHECK.due("pipe", town.pipe(0, 1, 5, 5, 5, false, false), p);
        }
        CHECK.due("a 21st", town.pipe(0, 1, 5, 5, 5, false, false), -3);
        CHECK.due("a wrong 21st", town.pipe(0, 0, 5, 5, 5, false, false), -2);
    }

    private static void houses() {
        HeatTown town = new HeatTown();
        CHECK.due("house at the plant", town.house(0, 1, 0), -2);
        town.node();
        int[][] wrong = {{0, 5, 5}, {2, 5, 5}, {-1, 5, 5}, {1, 0, 5}, {1, 51, 5}, {1, 5, -1}, {1, 5, 100}};
        for (int[] w : wrong) {
            CHECK.due("a wrong house", town.house(w[0], w[1], w[2]), -2);
        }
        for (int h = 0; h < 16; h++) {
            CHECK.due("house", town.house(1, h == 0 ? 50 : 1, h == 0 ? 99 : 0), h);
        }
        CHECK.due("a 17th", town.house(1, 1, 0), -3);
        CHECK.due("a wrong 17th", town.house(1, 0, 0), -2);
        int[] due = {1, 50, 99, 0, -1, 0, -2};
        for (int what = 0; what < due.length; what++) {
            CHECK.due("houseOf(0, " + what + ")", town.houseOf(0, what), due[what]);
        }
    }

    private static void valves() {
        HeatTown town = new HeatTown();
        town.node();
        town.pipe(0, 1, 4, 4, 0, true, false);
        town.pipe(0, 1, 4, 4, 0, true, true);
        CHECK.due("opening an open one", town.valve(0, 0, false), false);
        CHECK.due("no valve there", town.valve(0, 1, true), false);
        CHECK.due("pipeOf(0, 5)", town.pipeOf(0, 5), 1);
        CHECK.due("shutting", town.valve(0, 0, true), true);
        CHECK.due("shutting again", town.valve(0, 0, true), false);
        CHECK.due("pipeOf(0, 5)", town.pipeOf(0, 5), 0);
        CHECK.due("opening", town.valve(0, 0, false), true);
        CHECK.due("pipeOf(0, 5)", town.pipeOf(0, 5), 1);
        CHECK.due("the other end", town.valve(1, 1, true), true);
        CHECK.due("pipeOf(1, 5)", town.pipeOf(1, 5), 0);
        int[][] wrong = {{-1, 0}, {2, 0}, {0, -1}, {0, 2}, {Integer.MAX_VALUE, 0}};
        for (int[] w : wrong) {
            CHECK.due("a wrong valve", town.valve(w[0], w[1], true), false);
        }
    }

    private static void bursts() {
        HeatTown town = new HeatTown();
        town.node();
        town.pipe(0, 1, 4, 4, 0, true, true);
        CHECK.due("mending a whole one", town.burst(0, false), false);
        CHECK.due("burst", town.burst(0, true), true);
        CHECK.due("burst again", town.burst(0, true), false);
        CHECK.due("pipeOf(0, 5)", town.pipeOf(0, 5), 0);
        CHECK.due("pipeOf(0, 6)", town.pipeOf(0, 6), 1);
        town.valve(0, 0, true);
        CHECK.due("mended", town.burst(0, false), true);
        CHECK.due("its valve is shut still", town.pipeOf(0, 5), 0);
        CHECK.due("pipeOf(0, 6)", town.pipeOf(0, 6), 0);
        CHECK.due("no such pipe", town.burst(1, true), false);
        CHECK.due("no such pipe", town.burst(-1, true), false);
    }
}
