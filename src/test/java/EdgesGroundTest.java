/** The edges of promises 1 to 7: a new object, terms, nodes, pipes, houses, valves and bursts. */
public final class EdgesGroundTest {
    private static final Check CHECK = new Check();
    private static final Twin LIVELY = new Twin(CHECK, Twin::lively);

    public static void main(String[] args) {
        newCounts();
        newTerms();
        newWorks();
        newPlacesAndTape();
        terms();
        nodes();
        pipeEnds();
        pipeSizes();
        pipesFull();
        houses();
        housesFull();
        valves();
        bursts();
        CHECK.finish();
    }

    private static void newCounts() {
        HeatTown town = new HeatTown();
        CHECK.promise(1, "The PLANT alone");
        CHECK.due("count(1)", town.count(1), 1);
        CHECK.due("count(2)", town.count(2), 0);
        CHECK.due("count(3)", town.count(3), 0);
        CHECK.due("a pipe from the plant to node 1", town.pipe(0, 1, 4, 4, 0, false, false), -2);
        CHECK.due("a pipe from the plant to itself", town.pipe(0, 0, 4, 4, 0, false, false), -2);
        CHECK.due("flow(0)", town.flow(0), -1000);
        CHECK.due("pipeOf(0, 0)", town.pipeOf(0, 0), -1000);
        CHECK.due("unit(0, 0, 0)", town.unit(0, 0, 0), -1);
        CHECK.due("gets(0, 0)", town.gets(0, 0), -2);
        CHECK.due("houseOf(0, 0)", town.houseOf(0, 0), -2);
        CHECK.due("sums(0, 0)", town.sums(0, 0), -2);
        CHECK.due("cut(0, 0)", town.cut(0, 0), -2);
        CHECK.due("isolate(0)", town.isolate(0), -2);
        CHECK.due("meter(0, 0, 0, 0)", town.meter(0, 0, 0, 0), -2);
        CHECK.due("leak(0, 0, 0, 0)", town.leak(0, 0, 0, 0), -2);
        CHECK.promise(1, "HOUR 0, AIR 0");
        CHECK.due("count(0)", town.count(0), 0);
        CHECK.due("count(7)", town.count(7), 0);
        CHECK.due("go(1) of the plant alone", town.go(1), 1);
        CHECK.due("ahead(1, 0) of the plant alone", town.ahead(1, 0), 0);
        CHECK.due("ahead(1, 1) of the plant alone", town.ahead(1, 1), -1);
        CHECK.due("sum(6)", town.sum(6), 0);
    }

    private static void newTerms() {
        CHECK.promise(1, "GROUND 8");
        HeatTown ground = Check.nodes(2);
        ground.pipe(0, 1, 4, 1, 10, false, false);
        ground.go(1);
        // (6000 - 800) * 10 / 1000 and (3000 - 800) * 10 / 1000.
        CHECK.due("unit(0, 0, 0)", ground.unit(0, 0, 0), 6000 - 52);
        CHECK.due("unit(0, 0, 1)", ground.unit(0, 0, 1), 3000 - 22);
        CHECK.promise(1, "LEAST 25");
        HeatTown least = Check.nodes(2);
        least.pipe(0, 1, 4, 4, 0, false, false);
        least.house(1, 50, 0);
        least.go(1);
        CHECK.due("used of 4 units with 6000", least.sums(0, 0), 4 * 3500);
        CHECK.promise(1, "no RULES");
        CHECK.due("count(5)", least.count(5), 0);
        CHECK.due("fault()", least.fault(), -1);
        CHECK.due("1000 by drop 30", least.gets(0, 0), 34);
        CHECK.due("price 10", least.sums(0, 2), 140);
        CHECK.due("lost 0", least.sums(0, 3), 0);
        least.boiler(200000, 0);
        least.go(1);
        CHECK.due("send 70", least.count(10), 7000);
    }

    private static void newWorks() {
        HeatTown town = new HeatTown();
        CHECK.promise(1, "no BOILERS");
        CHECK.due("count(4)", town.count(4), 0);
        Check.numbers(town, 0, 1, 0, 1);
        CHECK.due("nothing can make 1", town.plan(0), -1);
        CHECK.due("planned(0)", town.planned(0), -1);
        CHECK.promise(1, "STORE of 0");
        CHECK.due("sum(7)", town.sum(7), 0);
        town.boiler(5, 0);
        Check.numbers(town, 0, 1, 0, 6);
        CHECK.due("nothing can be kept for hour 1", town.plan(0), -1);
        Check.numbers(town, 0, 1, 0, 5);
        CHECK.due("each hour for itself", town.plan(0), 0);
        CHECK.due("planned(0)", town.planned(0), 0);
        CHECK.due("planned(1)", town.planned(1), 0);
    }

    private static void newPlacesAndTape() {
        HeatTown town = new HeatTown();
        CHECK.promise(1, "PLACES have nothing");
        CHECK.due("count(9)", town.count(9), 0);
        for (int place = 0; place < 4; place++) {
            CHECK.due("air(" + place + ")", town.air(place), -5);
            CHECK.due("mill(" + place + ", 0)", town.mill(place, 0), -5);
            CHECK.due("plan(" + place + ")", town.plan(place), -5);
            CHECK.due("write(" + place + ", 0, 0)", town.write(place, 0, 0), -5);
            CHECK.due("tear(" + place + ")", town.tear(place), false);
        }
        CHECK.promise(1, "an empty TAPE");
        CHECK.due("count(6)", town.count(6), 0);
        CHECK.due("end(1)", town.end(1), -1);
        CHECK.due("end(0)", town.end(0), 0);
        CHECK.due("rules()", town.rules(), 0);
        for (int what = 0; what < 8; what++) {
            CHECK.due("sum(" + what + ")", town.sum(what), 0);
        }
        CHECK.due("count(10)", town.count(10), -1);
        CHECK.due("count(8)", town.count(8), 0);
        CHECK.due("aheadOf(0, 0)", town.aheadOf(0, 0), -2);
    }

    private static void terms() {
        CHECK.promise(2, "GROUND (0 .. 20) and LEAST (15 .. 50): 0");
        int[][] taken = {{0, 25}, {20, 25}, {8, 15}, {8, 50}, {0, 15}, {20, 50}};
        for (int[] t : taken) {
            HeatTown town = Check.nodes(2);
            town.pipe(0, 1, 4, 4, 10, false, false);
            town.house(1, 50, 0);
            CHECK.due("terms(" + t[0] + ", " + t[1] + ")", town.terms(t[0], t[1]), 0);
            town.go(1);
            // The 4 units at the plant have 3000, those that the house left have LEAST.
            CHECK.due("ground " + t[0], town.unit(0, 0, 0), 3000 - (3000 - 100 * t[0]) / 100);
            CHECK.due("least " + t[1], town.sums(0, 0), 4 * (6000 - 100 * t[1]));
        }
        CHECK.promise(2, "-2: they are not as told");
        int[][] refused = {{-1, 25}, {21, 25}, {8, 14}, {8, 51}, {-1, 51}, {21, 14},
            {Integer.MIN_VALUE, 25}, {Integer.MAX_VALUE, 25}, {8, Integer.MIN_VALUE}, {8, Integer.MAX_VALUE}};
        for (int[] r : refused) {
            LIVELY.refused("terms(" + r[0] + ", " + r[1] + ")", t -> t.terms(r[0], r[1]), -2);
        }
        LIVELY.taken("terms(7, 22)", t -> t.terms(7, 22), 0);
        LIVELY.taken("terms(6, 50)", t -> t.terms(6, 50), 0);
    }

    private static void nodes() {
        CHECK.promise(3, "A NODE more: its number");
        HeatTown town = new HeatTown();
        for (int n = 1; n <= 11; n++) {
            CHECK.due("a house there ahead of it", town.house(n, 1, 0), -2);
            CHECK.due("node()", town.node(), n);
            CHECK.due("count(1)", town.count(1), n + 1);
        }
        CHECK.promise(3, "-3: there are 12");
        CHECK.due("node()", town.node(), -3);
        CHECK.due("node() again", town.node(), -3);
        CHECK.due("count(1)", town.count(1), 12);
        CHECK.due("a house at the last one", town.house(11, 1, 0), 0);
        CHECK.due("a house behind it", town.house(12, 1, 0), -2);
        Twin full = new Twin(CHECK, () -> Check.nodes(12));
        full.refused("node()", HeatTown::node, -3);
    }

    private static void pipeEnds() {
        CHECK.promise(4, "-2: there are no such two");
        int[][] refused = {{-1, 0}, {0, -1}, {4, 0}, {0, 4}, {-1, 4}, {0, 0}, {3, 3}, {4, 4}, {-1, -1},
            {Integer.MIN_VALUE, 0}, {0, Integer.MAX_VALUE}};
        for (int[] r : refused) {
            LIVELY.refused("pipe(" + r[0] + ", " + r[1] + ")", t -> t.pipe(r[0], r[1], 4, 4, 0, true, true), -2);
        }
        CHECK.promise(4, "A PIPE more, between two NODES: its number");
        HeatTown town = Check.nodes(4);
        int[][] taken = {{0, 3}, {3, 0}, {3, 2}, {0, 3}};
        for (int p = 0; p < taken.length; p++) {
            CHECK.due("pipe " + p, town.pipe(taken[p][0], taken[p][1], 4, 4, 0, p % 2 == 0, p > 1), p);
            CHECK.due("count(2)", town.count(2), p + 1);
            CHECK.due("a", town.pipeOf(p, 0), taken[p][0]);
            CHECK.due("b", town.pipeOf(p, 1), taken[p][1]);
            CHECK.due("it is open", town.pipeOf(p, 5), 1);
            CHECK.due("it has not burst", town.pipeOf(p, 6), 0);
            CHECK.due("a valve at a", town.valve(p, 0, true), p % 2 == 0);
            CHECK.due("a valve at b", town.valve(p, 1, true), p > 1);
        }
    }

    private static void pipeSizes() {
        HeatTown town = Check.nodes(2);
        CHECK.promise(4, "LONG is not 4 .. 60");
        CHECK.due("LONG 3", town.pipe(0, 1, 3, 3, 0, false, false), -2);
        CHECK.due("LONG 61", town.pipe(0, 1, 61, 4, 0, false, false), -2);
        CHECK.due("LONG 0", town.pipe(0, 1, 0, 0, 0, false, false), -2);
        CHECK.due("LONG of the least number", town.pipe(0, 1, Integer.MIN_VALUE, 1, 0, false, false), -2);
        CHECK.due("LONG of the greatest number", town.pipe(0, 1, Integer.MAX_VALUE, 1, 0, false, false), -2);
        CHECK.due("LONG 4", town.pipe(0, 1, 4, 3, 0, false, false), 0);
        CHECK.due("LONG 60", town.pipe(0, 1, 60, 4, 0, false, false), 1);
        CHECK.due("pipeOf(0, 2)", town.pipeOf(0, 2), 4);
        CHECK.due("pipeOf(1, 2)", town.pipeOf(1, 2), 60);
        CHECK.promise(4, "WIDE not 1 .. LONG");
        CHECK.due("WIDE 0", town.pipe(0, 1, 4, 0, 0, false, false), -2);
        CHECK.due("WIDE -1", town.pipe(0, 1, 4, -1, 0, false, false), -2);
        CHECK.due("WIDE 5 of 4", town.pipe(0, 1, 4, 5, 0, false, false), -2);
        CHECK.due("WIDE 61 of 60", town.pipe(0, 1, 60, 61, 0, false, false), -2);
        CHECK.due("WIDE of the greatest number", town.pipe(0, 1, 60, Integer.MAX_VALUE, 0, false, false), -2);
        CHECK.due("WIDE 1", town.pipe(0, 1, 4, 1, 0, false, false), 2);
        CHECK.due("WIDE 4 of 4", town.pipe(0, 1, 4, 4, 0, false, false), 3);
        CHECK.due("WIDE 60 of 60", town.pipe(0, 1, 60, 60, 0, false, false), 4);
        CHECK.due("pipeOf(2, 3)", town.pipeOf(2, 3), 1);
        CHECK.due("pipeOf(3, 3)", town.pipeOf(3, 3), 4);
        CHECK.due("pipeOf(4, 3)", town.pipeOf(4, 3), 60);
        CHECK.promise(4, "LOSS not 0 .. 200");
        CHECK.due("LOSS -1", town.pipe(0, 1, 4, 4, -1, false, false), -2);
        CHECK.due("LOSS 201", town.pipe(0, 1, 4, 4, 201, false, false), -2);
        CHECK.due("LOSS of the least number", town.pipe(0, 1, 4, 4, Integer.MIN_VALUE, false, false), -2);
        CHECK.due("LOSS 0", town.pipe(0, 1, 4, 4, 0, false, false), 5);
        CHECK.due("LOSS 200", town.pipe(0, 1, 4, 4, 200, false, false), 6);
        CHECK.due("pipeOf(5, 4)", town.pipeOf(5, 4), 0);
        CHECK.due("pipeOf(6, 4)", town.pipeOf(6, 4), 200);
        CHECK.due("count(2)", town.count(2), 7);
        town.go(1);
        CHECK.due("LOSS 0 loses nothing", town.unit(5, 0, 0), 6000);
        CHECK.due("LOSS 200 loses a fifth", town.unit(6, 0, 0), 6000 - 1040);
    }

    private static void pipesFull() {
        CHECK.promise(4, "-3: there are 20");
        HeatTown town = pipes(19);
        CHECK.due("the 20th", town.pipe(0, 1, 4, 4, 0, false, true), 19);
        CHECK.due("the 21st", town.pipe(0, 1, 4, 4, 0, false, true), -3);
        CHECK.due("count(2)", town.count(2), 20);
        CHECK.due("the valve of the last one", town.valve(19, 1, true), true);
        CHECK.due("no pipe 20", town.valve(20, 1, true), false);
        Twin full = new Twin(CHECK, () -> pipes(20));
        full.refused("the 21st", t -> t.pipe(0, 1, 60, 60, 200, true, true), -3);
        CHECK.promise(4, "-2 is told ahead of -3");
        int[][] wrong = {{0, 0, 4, 4, 0}, {0, 2, 4, 4, 0}, {0, 1, 3, 3, 0}, {0, 1, 61, 4, 0}, {0, 1, 4, 0, 0},
            {0, 1, 4, 5, 0}, {0, 1, 4, 4, -1}, {0, 1, 4, 4, 201}};
        for (int[] w : wrong) {
            CHECK.due("a wrong 21st", town.pipe(w[0], w[1], w[2], w[3], w[4], false, false), -2);
        }
    }

    private static HeatTown pipes(int many) {
        HeatTown town = Check.nodes(2);
        for (int p = 0; p < many; p++) {
            town.pipe(0, 1, 4, 4, 0, p == 0, false);
        }
        return town;
    }

    private static void houses() {
        CHECK.promise(5, "-2: there is no such NODE, or it is the PLANT, SIZE is not 1 .. 50, RANK not 0 .. 99");
        int[][] refused = {{-1, 5, 5}, {0, 5, 5}, {4, 5, 5}, {3, 0, 5}, {3, -1, 5}, {3, 51, 5}, {3, 5, -1}, {3, 5, 100},
            {Integer.MIN_VALUE, 5, 5}, {Integer.MAX_VALUE, 5, 5}, {3, Integer.MIN_VALUE, 5}, {3, Integer.MAX_VALUE, 5},
            {3, 5, Integer.MIN_VALUE}, {3, 5, Integer.MAX_VALUE}, {0, 0, 100}};
        for (int[] r : refused) {
            String call = "house(" + r[0] + ", " + r[1] + ", " + r[2] + ")";
            LIVELY.refused(call, t -> t.house(r[0], r[1], r[2]), -2);
        }
        CHECK.promise(5, "A HOUSE more: its number");
        HeatTown town = Check.nodes(4);
        int[][] taken = {{1, 5, 5}, {3, 5, 5}, {1, 1, 5}, {1, 50, 5}, {1, 5, 0}, {1, 5, 99}};
        for (int h = 0; h < taken.length; h++) {
            CHECK.due("house", town.house(taken[h][0], taken[h][1], taken[h][2]), h);
            CHECK.due("count(3)", town.count(3), h + 1);
            for (int what = 0; what < 3; what++) {
                CHECK.due("houseOf(" + h + ", " + what + ")", town.houseOf(h, what), taken[h][what]);
            }
        }
    }

    private static void housesFull() {
        CHECK.promise(5, "-3: there are 16");
        HeatTown town = manyHouses(15);
        CHECK.due("the 16th", town.house(1, 2, 3), 15);
        CHECK.due("the 17th", town.house(1, 2, 3), -3);
        CHECK.due("count(3)", town.count(3), 16);
        CHECK.due("houseOf(15, 1)", town.houseOf(15, 1), 2);
        CHECK.due("houseOf(16, 1)", town.houseOf(16, 1), -2);
        Twin full = new Twin(CHECK, () -> manyHouses(16));
        full.refused("the 17th", t -> t.house(1, 50, 99), -3);
        CHECK.promise(5, "-2 is told ahead of -3");
        int[][] wrong = {{0, 1, 0}, {2, 1, 0}, {-1, 1, 0}, {1, 0, 0}, {1, 51, 0}, {1, 1, -1}, {1, 1, 100}};
        for (int[] w : wrong) {
            CHECK.due("a wrong 17th", town.house(w[0], w[1], w[2]), -2);
        }
    }

    private static HeatTown manyHouses(int many) {
        HeatTown town = Check.nodes(2);
        town.pipe(0, 1, 9, 9, 0, false, false);
        for (int h = 0; h < many; h++) {
            town.house(1, 1, 0);
        }
        return town;
    }

    /** Pipe 0 has its valve at a alone, pipe 1 at b alone, pipe 2 none, pipe 3 both. */
    private static HeatTown fourPipes() {
        HeatTown town = Check.nodes(2);
        town.pipe(0, 1, 4, 4, 0, true, false);
        town.pipe(0, 1, 4, 4, 0, false, true);
        town.pipe(0, 1, 4, 4, 0, false, false);
        town.pipe(0, 1, 4, 4, 0, true, true);
        return town;
    }

    private static void valves() {
        Twin twin = new Twin(CHECK, EdgesGroundTest::fourPipes);
        CHECK.promise(6, "False too: no such PIPE, end, valve");
        int[][] none = {{-1, 0}, {4, 0}, {0, -1}, {0, 2}, {0, 1}, {1, 0}, {2, 0}, {2, 1}, {1, 2}, {1, -1}, {2, 2}, {2, -1}, {3, 2}, {3, -1},
            {Integer.MIN_VALUE, 0}, {Integer.MAX_VALUE, 0}, {3, Integer.MIN_VALUE}, {3, Integer.MAX_VALUE}};
        for (int[] n : none) {
            twin.refused("valve(" + n[0] + ", " + n[1] + ", true)", t -> t.valve(n[0], n[1], true) ? 1 : 0, 0);
            twin.refused("valve(" + n[0] + ", " + n[1] + ", false)", t -> t.valve(n[0], n[1], false) ? 1 : 0, 0);
        }
        CHECK.promise(6, "whether that changed something");
        int[][] valves = {{0, 0}, {1, 1}, {3, 0}, {3, 1}};
        for (int[] v : valves) {
            HeatTown town = fourPipes();
            CHECK.due("open at first", town.valve(v[0], v[1], false), false);
            CHECK.due("shut", town.valve(v[0], v[1], true), true);
            CHECK.due("pipeOf(.., 5)", town.pipeOf(v[0], 5), 0);
            CHECK.due("shut again", town.valve(v[0], v[1], true), false);
            CHECK.due("open", town.valve(v[0], v[1], false), true);
            CHECK.due("open again", town.valve(v[0], v[1], false), false);
            CHECK.due("pipeOf(.., 5)", town.pipeOf(v[0], 5), 1);
        }
        HeatTown both = fourPipes();
        CHECK.due("one end", both.valve(3, 0, true), true);
        CHECK.due("the other end too", both.valve(3, 1, true), true);
        CHECK.due("one is open", both.valve(3, 0, false), true);
        CHECK.due("the other is shut still", both.pipeOf(3, 5), 0);
        both.burst(3, true);
        CHECK.due("a valve of a burst pipe", both.valve(3, 1, false), true);
        CHECK.due("it has burst still", both.pipeOf(3, 5), 0);
    }

    private static void bursts() {
        Twin twin = new Twin(CHECK, EdgesGroundTest::fourPipes);
        CHECK.promise(7, "whether that changed something");
        int[] none = {-1, 4, Integer.MIN_VALUE, Integer.MAX_VALUE};
        for (int n : none) {
            twin.refused("burst(" + n + ", true)", t -> t.burst(n, true) ? 1 : 0, 0);
            twin.refused("burst(" + n + ", false)", t -> t.burst(n, false) ? 1 : 0, 0);
        }
        twin.refused("mending a whole one", t -> t.burst(0, false) ? 1 : 0, 0);
        int[] pipes = {0, 3};
        for (int p : pipes) {
            HeatTown town = fourPipes();
            CHECK.due("burst", town.burst(p, true), true);
            CHECK.due("burst again", town.burst(p, true), false);
            CHECK.due("pipeOf(.., 6)", town.pipeOf(p, 6), 1);
            CHECK.due("pipeOf(.., 5)", town.pipeOf(p, 5), 0);
            CHECK.due("another one has not", town.pipeOf(1, 6), 0);
            CHECK.due("mended", town.burst(p, false), true);
            CHECK.due("mended again", town.burst(p, false), false);
            CHECK.due("pipeOf(.., 6)", town.pipeOf(p, 6), 0);
            CHECK.due("pipeOf(.., 5)", town.pipeOf(p, 5), 1);
        }
    }
}
