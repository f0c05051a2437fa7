/** Promises 8, 11 and 34 to 37: rows, and the air and the mill that are told by them. */
public final class RowsTest {
    private static final Check CHECK = new Check();

    public static void main(String[] args) {
        rowsComeAndGo();
        numbersAreCut();
        pastes();
        air();
        mill();
        CHECK.finish();
    }

    private static void rowsComeAndGo() {
        HeatTown town = new HeatTown();
        int[][] wrong = {{-1, 0, 1}, {4, 0, 1}, {0, -1, 1}, {0, 4, 1}, {0, 0, 61}, {4, 0, -1}, {0, 4, -1}};
        for (int[] w : wrong) {
            CHECK.due("a wrong row", town.row(w[0], w[1], w[2]), -2);
        }
        CHECK.due("row(0, 0, -1)", town.row(0, 0, -1), -3);
        CHECK.due("count(9)", town.count(9), 0);
        CHECK.due("row(0, 3, 60)", town.row(0, 3, 60), 0);
        CHECK.due("row(3, 0, 0)", town.row(3, 0, 0), 0);
        CHECK.due("count(9)", town.count(9), 2);
        CHECK.due("write(0, 59, 7)", town.write(0, 59, 7), 0);
        CHECK.due("the row stays", town.row(0, 0, -1), -3);
        CHECK.due("write(0, 59, 7)", town.write(0, 59, 7), 0);
        CHECK.due("write(0, 60, 7)", town.write(0, 60, 7), -6);
        CHECK.due("write(0, -1, 7)", town.write(0, -1, 7), -6);
        CHECK.due("write(3, 0, 7)", town.write(3, 0, 7), -6);
        CHECK.due("write(1, 0, 7)", town.write(1, 0, 7), -5);
        CHECK.due("write(4, 0, 7)", town.write(4, 0, 7), -2);
        CHECK.due("write(-1, 0, 7)", town.write(-1, 0, 7), -2);
        CHECK.due("tear(3)", town.tear(3), true);
        CHECK.due("tear(3)", town.tear(3), false);
        CHECK.due("tear(4)", town.tear(4), false);
        CHECK.due("tear(-1)", town.tear(-1), false);
        CHECK.due("count(9)", town.count(9), 1);
        Check.numbers(town, 1, 0, 9, 9);
        town.row(1, 0, 2);
        CHECK.due("air of a new row", town.air(1), 2);
        CHECK.due("all its numbers are 0", town.count(7), 0);
    }

    /** A number is seen by the air that it tells. */
    private static void numbersAreCut() {
        long[] cut = {1L << 8, 1L << 16, 1L << 32};
        for (int width = 0; width < 3; width++) {
            HeatTown town = new HeatTown();
            Check.numbers(town, 0, width, cut[width] - 5);
            CHECK.due("air(0)", town.air(0), 1);
            CHECK.due("the highest bit is the sign", town.count(7), -5);
            Check.numbers(town, 0, width + 1, cut[width] - 5);
            CHECK.due("not cut in a wider one", town.air(0), -4);
            Check.numbers(town, 0, width, cut[width] * 3 + 5);
            CHECK.due("air(0)", town.air(0), 1);
            CHECK.due("what is above goes", town.count(7), 5);
        }
    }

    private static void pastes() {
        HeatTown town = new HeatTown();
        Check.numbers(town, 0, 0, 1, 2, 3, 4, 5);
        CHECK.due("paste(0, 0, 1, 0, 1)", town.paste(0, 0, 1, 0, 1), -5);
        CHECK.due("paste(1, 0, 0, 0, 1)", town.paste(1, 0, 0, 0, 1), -5);
        CHECK.due("paste(4, 0, 0, 0, 1)", town.paste(4, 0, 0, 0, 1), -2);
        CHECK.due("paste(0, 0, -1, 0, 1)", town.paste(0, 0, -1, 0, 1), -2);
        town.row(1, 1, 5);
        CHECK.due("another width", town.paste(0, 0, 1, 0, 1), -7);
        CHECK.due("another width, beyond", town.paste(0, 9, 1, 0, 1), -7);
        town.row(1, 0, 3);
        int[][] beyond = {{0, 0, 4}, {2, 0, 4}, {0, 1, 3}, {4, 0, 2}, {-1, 0, 1}, {0, -1, 1}, {0, 0, -1},
            {Integer.MAX_VALUE, 0, 2}, {0, Integer.MAX_VALUE, 2}, {1, 1, Integer.MAX_VALUE}};
        for (int[] b : beyond) {
            CHECK.due("paste beyond", town.paste(0, b[0], 1, b[1], b[2]), -6);
        }
        CHECK.due("paste(0, 2, 1, 0, 3)", town.paste(0, 2, 1, 0, 3), 0);
        expectAirs(town, 1, 3, 4, 5);
        CHECK.due("paste(0, 5, 1, 3, 0)", town.paste(0, 5, 1, 3, 0), 0);
        Check.numbers(town, 2, 2, 11, 12);
        Check.numbers(town, 3, 2, 13, 14);
        CHECK.due("paste(3, 1, 2, 0, 1)", town.paste(3, 1, 2, 0, 1), 0);
        expectAirs(town, 2, 14, 12);
        expectAirs(town, 3, 13, 14);
        CHECK.due("its own, upwards", town.paste(0, 0, 0, 1, 4), 0);
        expectAirs(town, 0, 1, 1, 2, 3, 4);
        CHECK.due("its own, downwards", town.paste(0, 2, 0, 0, 3), 0);
        expectAirs(town, 0, 2, 3, 4, 3, 4);
    }

    private static void expectAirs(HeatTown town, int place, int... airs) {
        CHECK.due("air(" + place + ")", town.air(place), airs.length);
        for (int air : airs) {
            CHECK.due("count(7)", town.count(7), air);
            town.go(1);
        }
    }

    private static void air() {
        HeatTown town = new HeatTown();
        CHECK.due("air(-1)", town.air(-1), -2);
        CHECK.due("air(4)", town.air(4), -2);
        CHECK.due("air(0)", town.air(0), -5);
        town.row(0, 3, 0);
        CHECK.due("air of no numbers", town.air(0), -8);
        Check.numbers(town, 0, 3, -40, 40, 0);
        CHECK.due("air(0)", town.air(0), 3);
        Check.numbers(town, 1, 1, 3, 41);
        CHECK.due("41", town.air(1), -4);
        Check.numbers(town, 1, 1, 3, -41);
        CHECK.due("-41", town.air(1), -4);
        CHECK.due("count(7)", town.count(7), -40);
        town.tear(0);
        town.go(1);
        CHECK.due("the row was taken as it was", town.count(7), 40);
        town.go(1);
        Check.numbers(town, 0, 0, 7, 8);
        town.air(0);
        CHECK.due("from this hour on", town.count(7), 7);
        town.go(1);
        CHECK.due("count(7)", town.count(7), 8);
        town.go(48);
        CHECK.due("the last one stays", town.count(7), 8);
    }

    private static void mill() {
        HeatTown town = new HeatTown();
        town.store(1000000, 200000);
        CHECK.due("mill(4, 0)", town.mill(4, 0), -2);
        CHECK.due("mill(-1, 0)", town.mill(-1, 0), -2);
        CHECK.due("mill(0, 0)", town.mill(0, 0), -5);
        CHECK.due("mill(0, 1001), nothing there", town.mill(0, 1001), -2);
        CHECK.due("mill(0, -1)", town.mill(0, -1), -2);
        Check.numbers(town, 0, 2, 0, 200000, 5);
        CHECK.due("mill(0, 1000)", town.mill(0, 1000), 3);
        Check.numbers(town, 1, 2, 200001);
        CHECK.due("200001", town.mill(1, 3), -4);
        Check.numbers(town, 1, 2, -1);
        CHECK.due("-1", town.mill(1, 3), -4);
        // Nothing happened: it offers 0, 200000, 5 for 1000, so 0 and 200000 can be met.
        Check.numbers(town, 1, 2, 0, 200000);
        CHECK.due("plan(1)", town.plan(1), 200000);
        Check.numbers(town, 1, 2, 0, 0, 5, 0);
        CHECK.due("plan(1)", town.plan(1), 5);
        Check.numbers(town, 1, 2, 0, 0, 5, 1);
        CHECK.due("behind the last one 0", town.plan(1), -1);
        town.go(1);
        Check.numbers(town, 1, 2, 200000, 5);
        CHECK.due("an hour later", town.plan(1), 200005);
        town.row(0, 0, 0);
        CHECK.due("an offer of nothing", town.mill(0, 0), 0);
        CHECK.due("plan(1)", town.plan(1), -1);
    }
}
