/** Promises 9, 10, 24 and 25, and Terms V: what is made, and the plan. */
public final class PlanTest {
    private static final Check CHECK = new Check();

    public static void main(String[] args) {
        boilers();
        stores();
        refusals();
        leastCost();
        firstByLevels();
        theStoreFollows();
        tooLittle();
        tooMuch();
        whoMakes();
        orderOfBoilers();
        fortySteps();
        plansEnd();
        CHECK.finish();
    }

    private static void boilers() {
        HeatTown town = new HeatTown();
        int[][] wrong = {{0, 0}, {-1, 0}, {200001, 0}, {1, -1}, {1, 1001}};
        for (int[] w : wrong) {
            CHECK.due("boiler(" + w[0] + ", " + w[1] + ")", town.boiler(w[0], w[1]), -2);
        }
        CHECK.due("boiler(1, 0)", town.boiler(1, 0), 0);
        CHECK.due("boiler(200000, 1000)", town.boiler(200000, 1000), 1);
        CHECK.due("boiler(1, 0)", town.boiler(1, 0), 2);
        CHECK.due("boiler(1, 0)", town.boiler(1, 0), 3);
        CHECK.due("a fifth", town.boiler(1, 0), -3);
        CHECK.due("a wrong fifth", town.boiler(0, 0), -2);
        CHECK.due("count(4)", town.count(4), 4);
    }

    private static void stores() {
        HeatTown town = new HeatTown();
        int[][] wrong = {{-1, 1}, {1000001, 200000}, {5, 0}, {5, 200001}, {5, -1}};
        for (int[] w : wrong) {
            CHECK.due("store(" + w[0] + ", " + w[1] + ")", town.store(w[0], w[1]), -2);
        }
        CHECK.due("41 steps", town.store(41, 1), -9);
        CHECK.due("40 steps", town.store(40, 1), 0);
        CHECK.due("40 steps and a part", town.store(81, 2), 0);
        CHECK.due("41 steps", town.store(82, 2), -9);
        CHECK.due("the greatest", town.store(1000000, 200000), 0);
        CHECK.due("none", town.store(0, 200000), 0);
        town.row(0, 0, 1);
        CHECK.due("plan(0)", town.plan(0), 0);
        CHECK.due("there is a plan", town.store(10, 1), -9);
        CHECK.due("wrong ahead of that", town.store(10, 0), -2);
        town.write(0, 0, 1);
        CHECK.due("it can't be", town.plan(0), -1);
        CHECK.due("no plan any more", town.store(10, 1), 0);
        town.go(1);
        CHECK.due("an hour has gone", town.store(10, 1), -9);
    }

    private static void refusals() {
        HeatTown town = new HeatTown();
        town.store(1000, 500);
        town.boiler(1000, 1000);
        CHECK.due("plan(-1)", town.plan(-1), -2);
        CHECK.due("plan(4)", town.plan(4), -2);
        CHECK.due("plan(0)", town.plan(0), -5);
        Check.numbers(town, 0, 2, 500, 1500);
        CHECK.due("plan(0)", town.plan(0), 2000);
        town.row(1, 2, 0);
        CHECK.due("no numbers", town.plan(1), -8);
        town.row(1, 2, 25);
        CHECK.due("25 numbers", town.plan(1), -8);
        Check.numbers(town, 1, 2, 0, 800001);
        CHECK.due("800001", town.plan(1), -4);
        Check.numbers(town, 1, 2, 0, -1);
        CHECK.due("-1", town.plan(1), -4);
        CHECK.due("the plan stays", town.planned(0), 500);
        CHECK.due("the plan stays", town.store(0, 1), -9);
        town.go(1);
        CHECK.due("the store came to its level", town.sum(7), 500);
        town.row(1, 2, 24);
        CHECK.due("24 numbers", town.plan(1), 0);
        Check.numbers(town, 1, 2, 800000);
        CHECK.due("800000 can't be", town.plan(1), -1);
        CHECK.due("nobody needs what is stored", town.planned(23), 500);
        CHECK.due("planned(24)", town.planned(24), -1);
        CHECK.due("planned(-1)", town.planned(-1), -1);
        int[] edges = {Integer.MIN_VALUE, Integer.MAX_VALUE};
        for (int k : edges) {
            CHECK.due("planned(" + k + ")", town.planned(k), -1);
        }
    }

    private static void plan(HeatTown town, String when, long[] needs, long cost, int... levels) {
        Check.numbers(town, 3, 3, needs);
        CHECK.due(when, town.plan(3), cost);
        for (int k = 0; k < levels.length; k++) {
            CHECK.due(when + ": planned(" + k + ")", town.planned(k), levels[k]);
        }
        CHECK.due(when + ": behind", town.planned(levels.length), -1);
    }

    private static void leastCost() {
        HeatTown town = new HeatTown();
        town.store(1700, 400);
        town.boiler(1000, 10);
        town.boiler(1000, 100);
        plan(town, "the cheap boiler makes what is needed later", new long[] {200, 1400}, 6 + 10, 400, 0);
        plan(town, "no more than the store holds", new long[] {0, 0, 3600}, 10 + 6 + 10 + 100,
            800, 1600, 0);
        plan(town, "all that there is", new long[] {2000, 2000}, 220, 0, 0);
        Check.numbers(town, 0, 2, 600, 0, 600);
        town.mill(0, 1000);
        plan(town, "the mill first, dear as it is", new long[] {100, 100}, 100 + 1, 0, 0);
        // 400 from a boiler in hour 0 spare 400 of the mill in hour 2.
        plan(town, "kept for the hour after next", new long[] {600, 1000, 600}, 600 + 4 + 10 + 200, 400, 400, 0);
        HeatTown none = new HeatTown();
        plan(none, "nothing is needed", new long[] {0, 0}, 0, 0, 0);
        Check.numbers(none, 0, 0, 0, 1);
        CHECK.due("nothing can be made", none.plan(0), -1);
    }

    private static void firstByLevels() {
        HeatTown town = new HeatTown();
        town.store(2000, 500);
        town.boiler(1000, 100);
        plan(town, "as late as can be", new long[] {0, 0, 500}, 50, 0, 0, 0);
        plan(town, "as late as can be", new long[] {0, 0, 2500}, 250, 500, 1500, 0);
        HeatTown cut = new HeatTown();
        cut.store(2000, 500);
        cut.boiler(1000, 1);
        plan(cut, "costs are cut each hour", new long[] {0, 0, 1500}, 0, 500, 1000, 0);
        plan(cut, "the least level first", new long[] {0, 0, 0, 1500}, 0, 0, 500, 1000, 0);
        plan(cut, "a cost of one, as late as can be", new long[] {0, 0, 2000}, 1, 500, 1000, 0);
    }

    private static HeatTown running(int boiler, int cost) {
        HeatTown town = new HeatTown();
        town.node();
        town.pipe(0, 1, 60, 60, 0, false, false);
        town.house(1, 3, 0);
        town.boiler(boiler, cost);
        Check.rules(town, "send 40");
        return town;
    }

    /** In each hour two units go out: 8000 less 6000 that came back is needed. */
    private static void theStoreFollows() {
        HeatTown town = running(10000, 10);
        town.store(4000, 500);
        plan(town, "two hours", new long[] {5000, 13000}, 80 + 100, 3000, 0);
        town.go(1);
        CHECK.due("3000 went in", town.sum(7), 3000);
        CHECK.due("made", town.sum(0), 5000);
        CHECK.due("sent", town.count(10), 4000);
        town.go(1);
        CHECK.due("2000 of it came out, the rest stays", town.sum(7), 1000);
        CHECK.due("nothing was made", town.sum(0), 5000);
        CHECK.due("sent", town.count(10), 4000);
        town.go(1);
        CHECK.due("behind the plan it stays", town.sum(7), 1000);
        CHECK.due("made again", town.sum(0), 7000);
    }

    private static void tooLittle() {
        HeatTown town = running(2200, 10);
        town.store(500, 500);
        plan(town, "two hours", new long[] {0, 2700}, 5 + 22, 500, 0);
        town.go(1);
        CHECK.due("the water comes first", town.count(10), 4000);
        CHECK.due("200 were left for the store", town.sum(7), 200);
        CHECK.due("all was made", town.sum(0), 2200);
        town.go(1);
        CHECK.due("200 come out", town.sum(7), 0);
        CHECK.due("1800 are made", town.sum(0), 4000);
        HeatTown less = running(1000, 10);
        less.store(500, 500);
        plan(less, "two hours", new long[] {0, 1500}, 5 + 10, 500, 0);
        less.go(1);
        CHECK.due("the water is colder", less.count(10), 3500);
        CHECK.due("nothing is left", less.sum(7), 0);
        plan(less, "from a part of a step on", new long[] {0}, 0, 0);
        HeatTown one = running(1999, 0);
        one.store(1, 1);
        plan(one, "a store of one", new long[] {0, 2000}, 0, 1, 0);
        one.go(1);
        CHECK.due("one lacks at the store, one in the water", one.sum(7), 0);
        CHECK.due("two units", one.count(10), 7999 / 2);
    }

    private static void tooMuch() {
        HeatTown town = new HeatTown();
        town.store(1000, 500);
        town.boiler(1000, 100);
        plan(town, "two hours", new long[] {0, 1500}, 50 + 100, 500, 0);
        town.go(1);
        CHECK.due("it is filled though nothing goes", town.sum(7), 500);
        CHECK.due("cost", town.sum(4), 50);
        town.go(1);
        CHECK.due("nobody needs it: it stays", town.sum(7), 500);
        CHECK.due("cost", town.sum(4), 50);
        plan(town, "from 500 on", new long[] {0, 1500}, 100, 500, 0);
        plan(town, "down at once", new long[] {500, 0}, 0, 0, 0);
        plan(town, "at most what is needed comes out", new long[] {499, 0}, 49, 500, 500);
    }

    private static void whoMakes() {
        HeatTown town = running(300, 20);
        town.boiler(500, 10);
        town.boiler(500, 20);
        Check.numbers(town, 0, 2, 1000, 0, 3000);
        CHECK.due("mill(0, 7)", town.mill(0, 7), 3);
        town.go(1);
        CHECK.due("the mill gave", town.sum(1), 1000);
        CHECK.due("boilers made", town.sum(0), 1000);
        // 1000 by 7, 500 by 10, 300 by 20, 200 by 20.
        CHECK.due("cost", town.sum(4), 7 + 5 + 6 + 4);
        town.go(1);
        CHECK.due("no mill", town.sum(1), 1000);
        CHECK.due("all boilers", town.sum(0), 2300);
        CHECK.due("cost", town.sum(4), 22 + 5 + 6 + 10);
        CHECK.due("colder", town.count(10), (6000 + 1300) / 2);
        town.go(1);
        CHECK.due("as much as is needed", town.sum(1), 3000);
        CHECK.due("no boiler", town.sum(0), 2300);
        CHECK.due("cost", town.sum(4), 43 + 14);
    }

    /** The least cost first, of two alike the least number; each one's cost is cut. */
    private static void orderOfBoilers() {
        HeatTown town = new HeatTown();
        town.boiler(1000, 40);
        town.boiler(1000, 30);
        town.boiler(1000, 20);
        town.boiler(1000, 10);
        plan(town, "one", new long[] {1000}, 10, 0);
        plan(town, "two", new long[] {2000}, 30, 0);
        plan(town, "three", new long[] {3000}, 60, 0);
        plan(town, "four", new long[] {4000}, 100, 0);
        HeatTown alike = new HeatTown();
        alike.boiler(333, 20);
        alike.boiler(500, 20);
        plan(alike, "333 and 167", new long[] {500}, 6 + 3, 0);
    }

    private static void fortySteps() {
        HeatTown town = new HeatTown();
        town.store(40, 1);
        town.boiler(50, 1000);
        plan(town, "all at once", new long[] {10, 90, 0}, 100, 40, 0, 0);
        plan(town, "one too many", new long[] {0, 91}, -1, 40, 0, 0);
        long[] needs = new long[24];
        needs[23] = 90;
        Check.numbers(town, 0, 1, needs);
        CHECK.due("in the last hour", town.plan(0), 90);
        CHECK.due("planned(21)", town.planned(21), 0);
        CHECK.due("planned(22)", town.planned(22), 40);
        CHECK.due("planned(23)", town.planned(23), 0);
        plan(town, "now", new long[] {0, 51}, 51, 1, 0);
        town.go(1);
        CHECK.due("a step of 1", town.sum(7), 1);
        plan(town, "from 1 on", new long[] {51}, 50, 0);
    }

    private static void plansEnd() {
        HeatTown town = running(10000, 10);
        town.store(4000, 1000);
        plan(town, "two hours", new long[] {0, 11000}, 10 + 100, 1000, 0);
        Check.numbers(town, 0, 2, 800000);
        CHECK.due("it can't be", town.plan(0), -1);
        CHECK.due("the latest that told a cost", town.planned(0), 1000);
        town.go(1);
        CHECK.due("there is no plan", town.sum(7), 0);
        plan(town, "later", new long[] {0, 11000}, 10 + 100, 1000, 0);
        town.go(1);
        CHECK.due("from that hour on", town.sum(7), 1000);
    }
}
