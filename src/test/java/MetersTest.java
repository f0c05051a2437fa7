/** Promises 26 and 27, and Terms VI: what meters read, and how much leaks. */
public final class MetersTest {
    private static final Check CHECK = new Check();

    public static void main(String[] args) {
        facts();
        spans();
        manyPipes();
        edges();
        CHECK.finish();
    }

    private static HeatTown town() {
        HeatTown town = new HeatTown();
        town.node();
        town.pipe(0, 1, 4, 4, 0, false, false);
        town.pipe(0, 1, 4, 4, 0, false, false);
        return town;
    }

    private static void facts() {
        HeatTown town = town();
        town.go(2);
        int[][] wrong = {{-1, 0, 0, 0}, {2, 0, 0, 0}, {0, -1, 0, 0}, {0, 2, 0, 0}, {0, 0, -1, 0}, {0, 0, 3, 0}, {0, 0, 0, -1}, {0, 0, 0, 1001}};
        for (int[] w : wrong) {
            CHECK.due("meter", town.meter(w[0], w[1], w[2], w[3]), -2);
        }
        CHECK.due("count(8)", town.count(8), 0);
        for (int i = 0; i < 200; i++) {
            CHECK.due("meter", town.meter(i % 2, i / 2 % 2, i % 3, i % 2 == 0 ? 0 : 1000), i);
        }
        CHECK.due("a 201st", town.meter(0, 0, 0, 0), -3);
        CHECK.due("a wrong 201st", town.meter(0, 0, 3, 0), -2);
        CHECK.due("count(8)", town.count(8), 200);
    }

    private static void spans() {
        HeatTown town = town();
        town.go(3);
        CHECK.due("no facts", town.leak(0, 0, 5, 0), -1);
        town.meter(0, 0, 0, 30);
        town.meter(0, 1, 1, 10);
        CHECK.due("no hour of both", town.leak(0, 2, 5, 0), -1);
        town.meter(0, 1, 0, 50);
        CHECK.due("without a sign", town.leak(0, 3, 0, 0), 20);
        CHECK.due("without a sign", town.leak(0, 3, 0, 1), 20);
        CHECK.due("twice the drift", town.leak(0, 3, 3, 0), 14);
        CHECK.due("twice the drift", town.leak(0, 3, 3, 1), 26);
        CHECK.due("not below 0", town.leak(0, 3, 11, 0), 0);
        town.meter(0, 0, 1, 25);
        CHECK.due("both hours", town.leak(0, 4, 3, 0), 14);
        CHECK.due("both hours", town.leak(0, 4, 3, 1), 21);
        CHECK.due("no leak goes with both", town.leak(0, 4, 1, 0), -7);
        CHECK.due("no leak goes with both", town.leak(0, 4, 1, 1), -7);
        CHECK.due("they touch", town.leak(0, 4, 2, 0), 16);
        CHECK.due("they touch", town.leak(0, 4, 2, 1), 19);
        town.meter(0, 1, 0, 45);
        CHECK.due("the latest counts", town.leak(0, 5, 0, 0), 15);
        CHECK.due("by the first four alone", town.leak(0, 4, 0, 0), -7);
        int[][] wrong = {{-1, 0, 0, 0}, {2, 0, 0, 0}, {0, -1, 0, 0}, {0, 6, 0, 0}, {0, 0, -1, 0}, {0, 0, 51, 0}, {0, 0, 0, -1}, {0, 0, 0, 2}};
        for (int[] w : wrong) {
            CHECK.due("leak", town.leak(w[0], w[1], w[2], w[3]), -2);
        }
    }

    private static void manyPipes() {
        HeatTown town = town();
        town.meter(0, 0, 0, 9);
        town.meter(1, 1, 0, 4);
        CHECK.due("ends of two pipes", town.leak(0, 2, 0, 0), -1);
        town.meter(1, 0, 0, 6);
        CHECK.due("leak(1)", town.leak(1, 3, 0, 0), 2);
        CHECK.due("leak(0)", town.leak(0, 3, 0, 0), -1);
    }

    private static void edges() {
        HeatTown town = town();
        town.meter(0, 0, 0, 1000);
        town.meter(0, 1, 0, 0);
        CHECK.due("not above 1000", town.leak(0, 2, 50, 1), 1000);
        CHECK.due("leak(0, 2, 50, 0)", town.leak(0, 2, 50, 0), 900);
    }
}
