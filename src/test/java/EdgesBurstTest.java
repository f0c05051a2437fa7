/** The edges of promises 22 and 23 and of Terms IV: where water runs out, and which valves end it. */
public final class EdgesBurstTest {
    private static final Check CHECK = new Check();
    private static final Twin LIVELY = new Twin(CHECK, Twin::lively);

    public static void main(String[] args) {
        cutRefusals();
        cutChangesNothing();
        bothEnds();
        ownValves();
        acrossANode();
        shutOnesToo();
        betweenTwo();
        emptyPlant();
        dryNodes();
        highestBits();
        longestLines();
        isolateRefusals();
        isolateChanges();
        isolateFlows();
        CHECK.finish();
    }

    private static void cutRefusals() {
        CHECK.promise(22, "-2: something is not as told");
        int[][] refused = {{-1, 0}, {2, 0}, {20, 0}, {0, -1}, {0, 3}, {2, 3}, {Integer.MIN_VALUE, 0}, {Integer.MAX_VALUE, 0},
            {0, Integer.MIN_VALUE}, {0, Integer.MAX_VALUE}};
        for (int[] r : refused) {
            LIVELY.refused("cut(" + r[0] + ", " + r[1] + ")", t -> t.cut(r[0], r[1]), -2);
        }
        CHECK.due("no pipes", Check.nodes(2).cut(0, 0), -2);
    }

    private static void cutChangesNothing() {
        CHECK.promise(22, "If a PIPE burst now: nothing bursts");
        LIVELY.refused("cut(0, 0)", t -> t.cut(0, 0), 0b1001);
        LIVELY.refused("cut(1, 1)", t -> t.cut(1, 1), 0b1110);
        LIVELY.refused("cut(1, 2)", t -> t.cut(1, 2), 0b111);
    }

    private static void cut(HeatTown town, int pipe, long valves, long nodes, long houses) {
        CHECK.due("cut(" + pipe + ", 0)", town.cut(pipe, 0), valves);
        CHECK.due("cut(" + pipe + ", 1)", town.cut(pipe, 1), nodes);
        CHECK.due("cut(" + pipe + ", 2)", town.cut(pipe, 2), houses);
    }

    /** One pipe from the plant to node 1 with a house, by its valves. */
    private static void bothEnds() {
        CHECK.terms("IV", "water runs out of it, at each end of it without a valve out of the NODE");
        boolean[] have = {false, true};
        for (boolean a : have) {
            for (boolean b : have) {
                HeatTown town = Check.nodes(2);
                town.pipe(0, 1, 4, 4, 0, a, b);
                town.house(1, 1, 0);
                cut(town, 0, (a ? 1 : 0) + (b ? 2 : 0), a ? 0b10 : 0b11, 1);
            }
        }
    }

    private static void ownValves() {
        CHECK.promise(22, "0 valves to be shut, as a set (bit 2 p for the one of PIPE p at a, 2 p + 1 at b)");
        HeatTown town = Check.nodes(2);
        for (int p = 0; p < 20; p++) {
            town.pipe(0, 1, 4, 4, 0, true, true);
        }
        for (int p = 0; p < 20; p++) {
            CHECK.due("both of pipe " + p, town.cut(p, 0), 3L << 2 * p);
            CHECK.due("none lies dry", town.cut(p, 1), 0);
        }
    }

    /** 0 -v0v- 1 -1- 2 -2v- 3, 2 -v3- 4, 2 -4- 5 -v5- 6. */
    private static HeatTown star() {
        HeatTown town = Check.nodes(7);
        town.pipe(0, 1, 4, 4, 0, true, true);
        town.pipe(1, 2, 4, 4, 0, false, false);
        town.pipe(2, 3, 4, 4, 0, false, true);
        town.pipe(2, 4, 4, 4, 0, true, false);
        town.pipe(5, 2, 4, 4, 0, false, false);
        town.pipe(5, 6, 4, 4, 0, true, false);
        for (int n = 1; n < 7; n++) {
            town.house(n, 1, 0);
        }
        return town;
    }

    private static void acrossANode() {
        CHECK.terms("IV", "out of each other PIPE at that NODE unless it has a valve there, and on so");
        long valves = 0b10 | 1 << 5 | 1 << 6 | 1 << 10;
        int[] running = {1, 2, 4};
        for (int p : running) {
            cut(star(), p, valves, 0b1111110, 0b111111);
        }
        cut(star(), 0, 0b11, 0b1111110, 0b111111);
        cut(star(), 3, 1 << 6, 0b0010000, 0b001000);
        cut(star(), 5, 1 << 10, 0b1000000, 0b100000);
    }

    private static void shutOnesToo() {
        CHECK.terms("IV", "the valves at which it ends are to be shut (shut ones too)");
        HeatTown town = star();
        long valves = 0b10 | 1 << 5 | 1 << 6 | 1 << 10;
        town.valve(0, 1, true);
        town.valve(3, 0, true);
        town.valve(2, 1, true);
        town.valve(5, 0, true);
        cut(town, 1, valves, 0b1111110, 0b111111);
        town.burst(4, true);
        town.burst(1, true);
        CHECK.due("burst ones run too", town.cut(1, 0), valves);
        CHECK.due("and through them", town.cut(2, 0), valves);
    }

    private static void betweenTwo() {
        CHECK.terms("IV", "a valve with water on both sides");
        HeatTown town = Check.nodes(3);
        town.pipe(0, 1, 4, 4, 0, true, false);
        town.pipe(1, 2, 4, 4, 0, false, false);
        town.pipe(2, 1, 4, 4, 0, false, true);
        town.house(2, 1, 0);
        // Out of pipe 1 by nodes 1 and 2; pipe 2 runs at 2 and ends at its valve at 1.
        cut(town, 1, 0b100001, 0b110, 1);
        cut(town, 2, 0b100001, 0b110, 1);
        cut(town, 0, 0b100001, 0b110, 1);
    }

    private static void emptyPlant() {
        CHECK.terms("IV", "NODES that lie dry: those out of which it runs, the PLANT too");
        HeatTown town = Check.nodes(3);
        town.pipe(0, 1, 4, 4, 0, false, true);
        town.pipe(0, 2, 4, 4, 0, true, true);
        town.house(2, 1, 0);
        cut(town, 0, 0b000110, 0b111, 1);
        cut(town, 1, 0b001100, 0b100, 1);
    }

    private static void dryNodes() {
        CHECK.terms("IV", "those to which no way of OPEN PIPES leads from the PLANT then");
        HeatTown town = Check.nodes(5);
        town.pipe(0, 1, 4, 4, 0, true, true);
        town.pipe(1, 2, 4, 4, 0, true, true);
        town.pipe(2, 0, 4, 4, 0, true, true);
        town.pipe(2, 3, 4, 4, 0, true, true);
        town.house(1, 1, 0);
        town.house(2, 1, 0);
        town.house(3, 1, 0);
        town.house(4, 1, 0);
        // Node 4 has no pipe at all.
        cut(town, 0, 0b11, 0b10000, 0b1000);
        cut(town, 1, 0b1100, 0b10000, 0b1000);
        cut(town, 3, 0b11000000, 0b11000, 0b1100);
        town.valve(2, 0, true);
        cut(town, 0, 0b11, 0b11110, 0b1111);
        cut(town, 1, 0b1100, 0b11100, 0b1110);
        cut(town, 2, 0b110000, 0b10000, 0b1000);
        town.valve(2, 0, false);
        town.burst(1, true);
        cut(town, 0, 0b11, 0b10010, 0b1001);
        cut(town, 1, 0b1100, 0b10000, 0b1000);
        CHECK.terms("IV", "those of which a valve is to be shut, being none");
        HeatTown side = Check.nodes(3);
        side.pipe(0, 1, 4, 4, 0, true, false);
        side.pipe(1, 2, 4, 4, 0, true, false);
        side.pipe(0, 2, 4, 4, 0, true, true);
        side.house(2, 1, 0);
        // Node 1 runs dry; pipe 1 is shut at it, but node 2 has water by pipe 2.
        cut(side, 0, 0b101, 0b010, 0);
        side.valve(2, 1, true);
        cut(side, 0, 0b101, 0b110, 1);
    }

    private static void highestBits() {
        CHECK.promise(22, "as a set, at full");
        HeatTown town = Check.nodes(12);
        for (int p = 0; p < 20; p++) {
            town.pipe(0, 11, 4, 4, 0, false, true);
        }
        for (int h = 0; h < 16; h++) {
            town.house(11, 1, 0);
        }
        // Water runs out of the plant, and out of all pipes to their valves at b.
        long allB = 0;
        for (int p = 0; p < 20; p++) {
            allB |= 2L << 2 * p;
        }
        cut(town, 19, allB, 0b111111111111, 0xFFFF);
        cut(town, 0, allB, 0b111111111111, 0xFFFF);
        HeatTown all = Check.nodes(2);
        all.pipe(1, 0, 4, 4, 0, false, false);
        for (int p = 1; p < 20; p++) {
            all.pipe(1, 0, 4, 4, 0, true, true);
        }
        CHECK.due("all valves of 19 pipes", all.cut(0, 0), (1L << 40) - 4);
        CHECK.due("both of the last", all.cut(19, 0), 3L << 38);
    }

    /** The longest lines there can be, their pipes laid from the plant on and towards it. */
    private static void longestLines() {
        CHECK.terms("IV", "and on so: through all pipes and nodes");
        boolean[] ways = {true, false};
        for (boolean away : ways) {
            HeatTown bare = Check.nodes(12);
            HeatTown valved = Check.nodes(12);
            for (int i = 1; i < 12; i++) {
                int n = away ? i : 12 - i;
                bare.pipe(n - 1, n, 4, 4, 0, n == 1, false);
                valved.pipe(n, n - 1, 4, 4, 0, true, true);
            }
            bare.house(11, 1, 0);
            valved.house(11, 1, 0);
            int atPlant = away ? 0 : 10;
            for (int p = 0; p < 11; p++) {
                cut(bare, p, 1L << 2 * atPlant, 0b111111111110, 1);
                int far = away ? p + 1 : 11 - p;
                long behind = 0b111111111111 & -(1L << far);
                cut(valved, p, 3L << 2 * p, behind, 1);
            }
            CHECK.terms("III", "of all ways, the longest");
            CHECK.due("gets(0, 1)", bare.gets(0, 1), 1);
            CHECK.due("gets(0, 1)", valved.gets(0, 1), 1);
            CHECK.terms("IV", "and on so: through all pipes and nodes");
        }
    }

    private static void isolateRefusals() {
        CHECK.promise(23, "-2: there is none such");
        int[] none = {-1, 2, 20, Integer.MIN_VALUE, Integer.MAX_VALUE};
        for (int p : none) {
            LIVELY.refused("isolate(" + p + ")", t -> t.isolate(p), -2);
        }
        CHECK.promise(23, "-7: it has BURST");
        Twin burst = new Twin(CHECK, () -> {
            HeatTown town = star();
            town.burst(1, true);
            return town;
        });
        burst.refused("isolate(1)", t -> t.isolate(1), -7);
        Twin twice = new Twin(CHECK, () -> {
            HeatTown town = star();
            town.isolate(1);
            town.valve(0, 1, false);
            return town;
        });
        twice.refused("isolate(1) again, a valve open", t -> t.isolate(1), -7);
        HeatTown mended = star();
        mended.isolate(1);
        mended.burst(1, false);
        CHECK.due("mended, all valves are shut", mended.isolate(1), 0);
        CHECK.due("it has burst", mended.pipeOf(1, 6), 1);
    }

    private static void isolateChanges() {
        CHECK.promise(23, "A PIPE bursts, and those valves are shut: how many valves changed");
        HeatTown town = star();
        town.valve(3, 0, true);
        CHECK.due("four, of which one is shut", town.isolate(2), 3);
        int[] open = {0, 1, 0, 0, 1, 0};
        for (int p = 0; p < 6; p++) {
            CHECK.due("has pipe " + p + " burst", town.pipeOf(p, 6), p == 2 ? 1 : 0);
            CHECK.due("is pipe " + p + " open", town.pipeOf(p, 5), open[p]);
        }
        CHECK.due("the valve of pipe 0 at 0 is open", town.valve(0, 0, true), true);
        CHECK.due("the one at 1 is shut", town.valve(0, 1, true), false);
        CHECK.due("a second burst, all shut", town.isolate(4), 0);
        HeatTown none = Check.nodes(2);
        none.pipe(0, 1, 4, 4, 0, false, false);
        none.house(1, 3, 0);
        CHECK.due("flow(0)", none.flow(0), 2);
        CHECK.due("without valves", none.isolate(0), 0);
        CHECK.due("nothing goes in it", none.flow(0), 0);
        CHECK.due("it has burst", none.pipeOf(0, 6), 1);
        HeatTown most = Check.nodes(2);
        most.pipe(1, 0, 4, 4, 0, false, false);
        for (int p = 1; p < 20; p++) {
            most.pipe(1, 0, 4, 4, 0, true, true);
        }
        CHECK.due("38 valves", most.isolate(0), 38);
        CHECK.due("the last one is shut", most.valve(19, 1, true), false);
        CHECK.due("the first one is shut", most.valve(1, 0, true), false);
        CHECK.due("cut() as before", most.cut(0, 0), (1L << 40) - 4);
    }

    private static void isolateFlows() {
        CHECK.promise(23, "those valves are shut: nothing goes there");
        HeatTown town = Check.nodes(3);
        town.pipe(0, 1, 4, 4, 0, true, true);
        town.pipe(1, 2, 4, 4, 0, false, false);
        town.pipe(0, 2, 9, 9, 0, false, true);
        town.house(1, 3, 0);
        CHECK.due("flow(0)", town.flow(0), 2);
        CHECK.due("isolate(0)", town.isolate(0), 2);
        CHECK.due("flow(0)", town.flow(0), 0);
        CHECK.due("the other way round", town.flow(2), 2);
        CHECK.due("back to node 1", town.flow(1), -2);
        CHECK.due("isolate(1)", town.isolate(1), 1);
        CHECK.due("no way", town.gets(0, 1), 0);
    }
}
