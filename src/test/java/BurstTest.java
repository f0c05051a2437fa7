/** Promises 22 and 23, and Terms IV: where water runs out, and which valves end it. */
public final class BurstTest {
    private static final Check CHECK = new Check();

    public static void main(String[] args) {
        aLine();
        aRing();
        longLine();
        openPipesAlone();
        isolating();
        CHECK.finish();
    }

    /** 0 =v 0 v= 1 = 1 = 2 =v 2 = 3, and node 4 that no pipe comes to. */
    private static HeatTown line() {
        HeatTown town = new HeatTown();
        for (int i = 0; i < 4; i++) {
            town.node();
        }
        town.pipe(0, 1, 4, 4, 0, true, true);
        town.pipe(1, 2, 4, 4, 0, false, false);
        town.pipe(2, 3, 4, 4, 0, true, false);
        town.house(1, 1, 0);
        town.house(3, 1, 0);
        town.house(4, 1, 0);
        return town;
    }

    private static void cut(HeatTown town, int pipe, long valves, long nodes, long houses) {
        CHECK.due("cut(" + pipe + ", 0)", town.cut(pipe, 0), valves);
        CHECK.due("cut(" + pipe + ", 1)", town.cut(pipe, 1), nodes);
        CHECK.due("cut(" + pipe + ", 2)", town.cut(pipe, 2), houses);
    }

    private static void aLine() {
        HeatTown town = line();
        cut(town, 0, 0b11, 0b11110, 0b111);
        cut(town, 1, 0b010010, 0b11110, 0b111);
        cut(town, 2, 0b010000, 0b11000, 0b110);
        town.valve(2, 0, true);
        cut(town, 2, 0b010000, 0b11000, 0b110);
        int[][] wrong = {{-1, 0}, {3, 0}, {0, -1}, {0, 3}};
        for (int[] w : wrong) {
            CHECK.due("cut(" + w[0] + ", " + w[1] + ")", town.cut(w[0], w[1]), -2);
        }
    }

    /** Water comes by the other way round; a pipe without valves empties the plant. */
    private static void aRing() {
        HeatTown town = new HeatTown();
        town.node();
        town.node();
        town.pipe(0, 1, 4, 4, 0, true, true);
        town.pipe(0, 2, 4, 4, 0, true, true);
        town.pipe(1, 2, 4, 4, 0, true, false);
        town.house(1, 1, 0);
        town.house(2, 1, 0);
        cut(town, 0, 0b000011, 0, 0);
        cut(town, 1, 0b001100, 0, 0);
        cut(town, 2, 0b011000, 0b100, 0b10);
        town.pipe(2, 0, 4, 4, 0, false, false);
        cut(town, 1, 0b001100, 0, 0);
        // Pipe 3 runs out of nodes 2 and 0; pipe 2 has no valve at 2, so it runs too, to its valve at 1.
        cut(town, 3, 0b011101, 0b111, 0b11);
        cut(town, 2, 0b011101, 0b111, 0b11);
        cut(town, 1, 0b001100, 0, 0);
    }

    /** The longest line there can be, its pipes laid from the far end on. */
    private static void longLine() {
        HeatTown town = new HeatTown();
        for (int i = 0; i < 11; i++) {
            town.node();
        }
        for (int n = 11; n > 0; n--) {
            town.pipe(n - 1, n, 4, 4, 0, n == 1, false);
        }
        cut(town, 0, 1L << 20, 0b111111111110, 0);
        for (int n = 1; n <= 9; n++) {
            town.pipe(n + 1, n, 4, 4, 0, true, true);
        }
        cut(town, 0, 1L << 20 | 0b111111111111111111L << 22, 0b111111111110, 0);
        HeatTown valves = new HeatTown();
        for (int i = 0; i < 11; i++) {
            valves.node();
        }
        for (int n = 11; n > 0; n--) {
            valves.pipe(n, n - 1, 4, 4, 0, true, true);
        }
        cut(valves, 0, 0b11, 0b100000000000, 0);
        cut(valves, 10, 0b11L << 20, 0b111111111110, 0);
    }

    private static void openPipesAlone() {
        HeatTown town = line();
        town.pipe(0, 3, 4, 4, 0, true, true);
        cut(town, 0, 0b11, 0b10000, 0b100);
        town.valve(3, 1, true);
        cut(town, 0, 0b11, 0b11110, 0b111);
        town.valve(3, 1, false);
        town.burst(2, true);
        cut(town, 0, 0b11, 0b10110, 0b101);
        cut(town, 2, 0b10010000, 0b11000, 0b110);
    }

    private static void isolating() {
        HeatTown town = line();
        CHECK.due("isolate(-1)", town.isolate(-1), -2);
        CHECK.due("isolate(3)", town.isolate(3), -2);
        town.valve(2, 0, true);
        CHECK.due("one of two was shut", town.isolate(1), 1);
        CHECK.due("it has burst", town.isolate(1), -7);
        CHECK.due("pipeOf(1, 6)", town.pipeOf(1, 6), 1);
        CHECK.due("pipe 0 is shut", town.pipeOf(0, 5), 0);
        CHECK.due("its valve at 1", town.valve(0, 1, true), false);
        CHECK.due("not the one at 0", town.valve(0, 0, false), false);
        CHECK.due("open again", town.valve(0, 1, false), true);
        CHECK.due("pipe 0 is open", town.pipeOf(0, 5), 1);
        CHECK.due("mended", town.burst(1, false), true);
        CHECK.due("two change", town.isolate(0), 2);
        town.burst(2, true);
        CHECK.due("burst by burst()", town.isolate(2), -7);
        HeatTown bare = new HeatTown();
        bare.node();
        bare.pipe(0, 1, 4, 4, 0, false, false);
        bare.house(1, 3, 0);
        CHECK.due("flow(0)", bare.flow(0), 2);
        CHECK.due("no valves", bare.isolate(0), 0);
        CHECK.due("flow(0)", bare.flow(0), 0);
        CHECK.due("pipeOf(0, 5)", bare.pipeOf(0, 5), 0);
    }
}
