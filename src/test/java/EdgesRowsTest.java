/** The edges of promises 8, 11 and 34 to 37: rows, and the air and the mill that are told by them. */
public final class EdgesRowsTest {
    private static final Check CHECK = new Check();
    private static final Twin LIVELY = new Twin(CHECK, Twin::lively);
    private static final int[] NO_PLACES = {-1, 4, Integer.MIN_VALUE, Integer.MAX_VALUE};

    public static void main(String[] args) {
        airRefusals();
        airNumbers();
        airHours();
        millRefusals();
        millNumbers();
        millHours();
        rows();
        rowRefusals();
        tears();
        writes();
        widths();
        pasteRefusals();
        pasteEdges();
        pastesOfItsOwn();
        CHECK.finish();
    }

    private static void airRefusals() {
        CHECK.promise(8, "-2: there is no such PLACE");
        for (int place : NO_PLACES) {
            LIVELY.refused("air(" + place + ")", t -> t.air(place), -2);
        }
        CHECK.promise(8, "-5: it has nothing");
        LIVELY.refused("air(3)", t -> t.air(3), -5);
        CHECK.promise(8, "-8: its row has no numbers");
        LIVELY.refused("air(2)", t -> t.air(2), -8);
        CHECK.promise(8, "-4, and nothing happens: one is not as told");
        long[][] wrong = {{-41}, {41}, {Long.MIN_VALUE}, {Long.MAX_VALUE}, {41, 1, 1}, {1, -41, 1}, {1, 1, 41}, {1L << 32}};
        for (long[] w : wrong) {
            Twin twin = new Twin(CHECK, () -> {
                HeatTown town = Twin.lively();
                Check.numbers(town, 3, 3, w);
                return town;
            });
            twin.refused("air of " + w[0] + " ..", t -> t.air(3), -4);
        }
    }

    private static void airNumbers() {
        CHECK.promise(8, "(-40 .. 40 ..): how many");
        long[] taken = {-40, 40, 0, -39, 39};
        for (int width = 0; width < 4; width++) {
            HeatTown town = new HeatTown();
            Check.numbers(town, width, width, taken);
            CHECK.due("air(" + width + ")", town.air(width), 5);
            for (long t : taken) {
                CHECK.due("count(7)", town.count(7), t);
                town.go(1);
            }
        }
        HeatTown most = new HeatTown();
        most.row(0, 0, 60);
        most.write(0, 58, 11);
        most.write(0, 59, 12);
        CHECK.due("a row of 60", most.air(0), 60);
        most.go(48);
        most.go(9);
        CHECK.due("number 57", most.count(7), 0);
        most.go(1);
        CHECK.due("number 58", most.count(7), 11);
        most.go(1);
        CHECK.due("number 59", most.count(7), 12);
        most.go(1);
        CHECK.due("behind it", most.count(7), 12);
    }

    private static void airHours() {
        CHECK.promise(8, "from this HOUR on, one number an HOUR; behind the last one that of it");
        HeatTown town = new HeatTown();
        town.go(3);
        CHECK.due("0 ahead of any", town.count(7), 0);
        Check.numbers(town, 0, 0, 7);
        CHECK.due("a row of one", town.air(0), 1);
        CHECK.due("this hour", town.count(7), 7);
        town.go(48);
        CHECK.due("long behind it", town.count(7), 7);
        Check.numbers(town, 1, 0, -3, 4);
        CHECK.due("another row", town.air(1), 2);
        CHECK.due("its first number in this hour", town.count(7), -3);
        town.write(1, 1, 9);
        town.tear(0);
        town.go(1);
        CHECK.due("as the row was", town.count(7), 4);
        CHECK.due("once more, from this hour on", town.air(1), 2);
        CHECK.due("its first number again", town.count(7), -3);
        town.go(1);
        CHECK.due("as the row is now", town.count(7), 9);
    }

    private static void millRefusals() {
        CHECK.promise(11, "-2: there is no such PLACE, another price");
        for (int place : NO_PLACES) {
            LIVELY.refused("mill(" + place + ", 5)", t -> t.mill(place, 5), -2);
        }
        int[] prices = {-1, 1001, Integer.MIN_VALUE, Integer.MAX_VALUE};
        for (int price : prices) {
            LIVELY.refused("mill(1, " + price + ")", t -> t.mill(1, price), -2);
            CHECK.promise(11, "-2 is told ahead of -5");
            LIVELY.refused("mill(3, " + price + ")", t -> t.mill(3, price), -2);
            CHECK.promise(11, "-2 is told ahead of -4");
            LIVELY.refused("mill(0, " + price + ")", t -> t.mill(0, price), -2);
        }
        CHECK.promise(11, "-5 as air(): it has nothing");
        LIVELY.refused("mill(3, 5)", t -> t.mill(3, 5), -5);
        CHECK.promise(11, "-4 as air(): one is not as told, and nothing happens");
        LIVELY.refused("mill(0, 5)", t -> t.mill(0, 5), -4);
        long[][] wrong = {{-1}, {200001}, {Long.MIN_VALUE}, {Long.MAX_VALUE}, {200001, 1, 1}, {1, -1, 1}, {1, 1, 200001}, {1L << 32}};
        for (long[] w : wrong) {
            HeatTown town = mill(40, 7);
            Check.numbers(town, 3, 3, w);
            CHECK.due("mill of " + w[0] + " ..", town.mill(3, 500), -4);
            CHECK.due("it offers 40 still, for 7", need(town, 40), 0);
            CHECK.due("no more than 40", need(town, 41), -1);
            CHECK.due("mill for 1000", town.mill(0, 1000), 1);
            CHECK.due("40 cost 40 now", need(town, 40), 40);
        }
    }

    /** A mill that offers this in this hour alone, by a row at place 0. */
    private static HeatTown mill(long offer, int price) {
        HeatTown town = new HeatTown();
        Check.numbers(town, 0, 3, offer);
        town.mill(0, price);
        return town;
    }

    /** What it costs if this is needed in this hour. */
    private static long need(HeatTown town, long need) {
        Check.numbers(town, 2, 3, need);
        return town.plan(2);
    }

    private static void millNumbers() {
        CHECK.promise(11, "what the row of a PLACE tells (0 .. 200000), for so much (0 .. 1000): how many");
        HeatTown town = new HeatTown();
        Check.numbers(town, 0, 2, 200000, 0, 199999);
        CHECK.due("mill(0, 1000)", town.mill(0, 1000), 3);
        CHECK.due("200000 for 1000", need(town, 200000), 200000);
        CHECK.due("200001", need(town, 200001), -1);
        CHECK.due("mill(0, 0)", town.mill(0, 0), 3);
        CHECK.due("200000 for 0", need(town, 200000), 0);
        CHECK.due("mill(0, 1)", town.mill(0, 1), 3);
        CHECK.due("1999 for 1, cut", need(town, 1999), 1);
        town.row(3, 0, 0);
        CHECK.due("a row of no numbers", town.mill(3, 3), 0);
        CHECK.due("it offers nothing", need(town, 1), -1);
        CHECK.due("nothing is needed", need(town, 0), 0);
        town.row(3, 0, 60);
        CHECK.due("a row of 60", town.mill(3, 3), 60);
    }

    private static void millHours() {
        CHECK.promise(11, "from this HOUR on, one number an HOUR, behind the last one 0");
        HeatTown town = new HeatTown();
        town.go(2);
        Check.numbers(town, 0, 1, 50, 0, 70);
        CHECK.due("mill(0, 1000)", town.mill(0, 1000), 3);
        int[] offers = {50, 0, 70, 0};
        for (int offer : offers) {
            CHECK.due("it offers " + offer, need(town, offer), offer);
            CHECK.due("and no more", need(town, offer + 1), -1);
            town.go(1);
        }
        Check.numbers(town, 1, 1, 30);
        CHECK.due("another row", town.mill(1, 1000), 1);
        town.write(1, 0, 99);
        town.tear(0);
        CHECK.due("as the row was", need(town, 30), 30);
        CHECK.due("as the row was", need(town, 31), -1);
        Check.numbers(town, 2, 1, 30, 1);
        CHECK.due("nothing in the next hour", town.plan(2), -1);
    }

    private static void rows() {
        CHECK.promise(34, "A PLACE has a row of n numbers of a WIDTH, all 0 (in place of another one): 0");
        HeatTown town = new HeatTown();
        for (int place = 0; place < 4; place++) {
            CHECK.due("row(" + place + ", 3, 60)", town.row(place, 3, 60), 0);
            CHECK.due("count(9)", town.count(9), place + 1);
            CHECK.due("its last number", town.write(place, 59, 7), 0);
            CHECK.due("none behind it", town.write(place, 60, 7), -6);
        }
        CHECK.due("row(0, 0, 0)", town.row(0, 0, 0), 0);
        CHECK.due("no number", town.write(0, 0, 7), -6);
        CHECK.due("an empty row is a row", town.count(9), 4);
        CHECK.due("row(0, 1, 1)", town.row(0, 1, 1), 0);
        CHECK.due("one number", town.write(0, 0, 7), 0);
        CHECK.due("no second one", town.write(0, 1, 7), -6);
        Check.numbers(town, 0, 0, 5, 6, 7);
        CHECK.due("row(0, 0, 3)", town.row(0, 0, 3), 0);
        airs(town, 0, 0, 0, 0);
        town.row(1, 3, 2);
        town.write(1, 1, 9);
        town.row(1, 3, 1);
        town.row(1, 3, 2);
        airs(town, 1, 0, 0);
    }

    /** A row is these numbers, seen by the air that it tells. */
    private static void airs(HeatTown town, int place, int... airs) {
        CHECK.due("air(" + place + ")", town.air(place), airs.length);
        for (int air : airs) {
            CHECK.due("count(7)", town.count(7), air);
            town.go(1);
        }
    }

    private static void rowRefusals() {
        CHECK.promise(34, "-2: there is no such PLACE or WIDTH (0 .. 3), or n is above 60");
        for (int place : NO_PLACES) {
            LIVELY.refused("row(" + place + ", 0, 1)", t -> t.row(place, 0, 1), -2);
        }
        int[] widths = {-1, 4, Integer.MIN_VALUE, Integer.MAX_VALUE};
        for (int width : widths) {
            LIVELY.refused("row(0, " + width + ", 1)", t -> t.row(0, width, 1), -2);
        }
        LIVELY.refused("row(0, 0, 61)", t -> t.row(0, 0, 61), -2);
        LIVELY.refused("row(0, 0, greatest)", t -> t.row(0, 0, Integer.MAX_VALUE), -2);
        CHECK.promise(34, "-3, and the PLACE stays: n is below 0");
        for (int place = 0; place < 4; place++) {
            int p = place;
            LIVELY.refused("row(" + p + ", 3, -1)", t -> t.row(p, 3, -1), -3);
            LIVELY.refused("row(" + p + ", 3, least)", t -> t.row(p, 3, Integer.MIN_VALUE), -3);
        }
        CHECK.promise(34, "-2 is told ahead of -3");
        LIVELY.refused("row(4, 0, -1)", t -> t.row(4, 0, -1), -2);
        LIVELY.refused("row(-1, 0, -1)", t -> t.row(-1, 0, -1), -2);
        LIVELY.refused("row(0, 4, -1)", t -> t.row(0, 4, -1), -2);
        LIVELY.refused("row(0, -1, -1)", t -> t.row(0, -1, -1), -2);
        LIVELY.taken("row(0, 1, 3)", t -> t.row(0, 1, 3), 0);
        LIVELY.taken("row(2, 2, 0)", t -> t.row(2, 2, 0), 0);
    }

    private static void tears() {
        CHECK.promise(35, "The PLACE has nothing: true");
        for (int place = 0; place < 4; place++) {
            HeatTown town = new HeatTown();
            for (int other = 0; other < 4; other++) {
                town.row(other, 0, other == 2 ? 0 : 1);
            }
            CHECK.due("tear(" + place + ")", town.tear(place), true);
            CHECK.due("count(9)", town.count(9), 3);
            CHECK.due("air(" + place + ")", town.air(place), -5);
            CHECK.due("another one has its row", town.air(place == 0 ? 1 : 0), 1);
            CHECK.promise(35, "false, if it had nothing");
            CHECK.due("tear(" + place + ") again", town.tear(place), false);
            CHECK.promise(35, "The PLACE has nothing: true");
            CHECK.due("a new row there", town.row(place, 0, 1), 0);
            CHECK.due("tear(" + place + ") of it", town.tear(place), true);
        }
        CHECK.promise(35, "false, if it had nothing, or there is none such");
        LIVELY.refused("tear(3)", t -> t.tear(3) ? 1 : 0, 0);
        for (int place : NO_PLACES) {
            LIVELY.refused("tear(" + place + ")", t -> t.tear(place) ? 1 : 0, 0);
        }
    }

    private static void writes() {
        CHECK.promise(36, "-2: there is no such PLACE");
        for (int place : NO_PLACES) {
            LIVELY.refused("write(" + place + ", 0, 1)", t -> t.write(place, 0, 1), -2);
            LIVELY.refused("write(" + place + ", -1, 1)", t -> t.write(place, -1, 1), -2);
        }
        CHECK.promise(36, "-5: it has nothing");
        LIVELY.refused("write(3, 0, 1)", t -> t.write(3, 0, 1), -5);
        CHECK.promise(36, "-5 is told ahead of -6");
        LIVELY.refused("write(3, -1, 1)", t -> t.write(3, -1, 1), -5);
        LIVELY.refused("write(3, 60, 1)", t -> t.write(3, 60, 1), -5);
        CHECK.promise(36, "-6: there is no such number");
        int[] beyond = {-1, 3, 59, 60, Integer.MIN_VALUE, Integer.MAX_VALUE};
        for (int i : beyond) {
            LIVELY.refused("write(0, " + i + ", 1)", t -> t.write(0, i, 1), -6);
        }
        LIVELY.refused("write(2, 0, 1)", t -> t.write(2, 0, 1), -6);
        CHECK.promise(36, "Number i of the PLACE's row is v: 0");
        HeatTown town = new HeatTown();
        Check.numbers(town, 0, 0, 1, 2, 3);
        CHECK.due("write(0, 0, 11)", town.write(0, 0, 11), 0);
        CHECK.due("write(0, 2, 13)", town.write(0, 2, 13), 0);
        airs(town, 0, 11, 2, 13);
    }

    /** A number of 0 .. 800000 is what it costs to make so much by boilers of COST 1000; -4 is any other one. */
    private static void width(int width, long written, long due) {
        HeatTown town = new HeatTown();
        for (int b = 0; b < 4; b++) {
            town.boiler(200000, 1000);
        }
        town.row(0, width, 2);
        CHECK.due("write(0, 1, " + written + ")", town.write(0, 1, written), 0);
        CHECK.due(written + " in WIDTH " + width, town.plan(0), due);
        CHECK.due("the number beside it", town.write(0, 1, 0), 0);
        CHECK.due("is 0", town.plan(0), 0);
    }

    private static void widths() {
        CHECK.promise(36, "cut to its WIDTH");
        for (int width = 0; width < 3; width++) {
            long all = 1L << (8 << width);
            long top = Math.min(800000, all / 2 - 1);
            width(width, top, top);
            width(width, all / 2, -4);
            width(width, all - 1, -4);
            width(width, all, 0);
            width(width, all + 1, 1);
            width(width, -1, -4);
            width(width, -all / 2, -4);
            width(width, -all + 1, 1);
            width(width, -all, 0);
            width(width, -all + top, top);
            width(width, all * 5 + 77, 77);
            width(width, Long.MIN_VALUE, 0);
            width(width, Long.MAX_VALUE, -4);
            width(width + 1, all, width == 2 ? -4 : all);
            width(width + 1, -all, -4);
        }
        // In bytes and words what is cut off leaves the highest number of the row's WIDTH.
        width(0, -129, 127);
        width(1, -32769, 32767);
        width(3, 800000, 800000);
        width(3, 800001, -4);
        width(3, Long.MIN_VALUE, -4);
        width(3, Long.MAX_VALUE, -4);
        width(3, 1L << 32, -4);
        width(3, -1, -4);
    }

    /** Rows of 5 and of 3 bytes at places 0 and 1, of 5 words at 2; nothing at 3. */
    private static HeatTown pasteRows() {
        HeatTown town = new HeatTown();
        Check.numbers(town, 0, 0, 1, 2, 3, 4, 5);
        Check.numbers(town, 1, 0, 11, 12, 13);
        Check.numbers(town, 2, 1, 21, 22, 23, 24, 25);
        return town;
    }

    private static void refusedPaste(int place, int i, int to, int k, int n, int due) {
        new Twin(CHECK, EdgesRowsTest::pasteRows).refused(
            "paste(" + place + ", " + i + ", " + to + ", " + k + ", " + n + ")", t -> t.paste(place, i, to, k, n), due);
    }

    private static void pasteRefusals() {
        CHECK.promise(37, "-2: there is no such PLACE");
        for (int place : NO_PLACES) {
            refusedPaste(place, 0, 0, 0, 1, -2);
            refusedPaste(0, 0, place, 0, 1, -2);
            refusedPaste(place, 0, place, 0, 1, -2);
        }
        CHECK.promise(37, "-2 is told ahead of -5, -6");
        refusedPaste(4, 0, 3, 0, 1, -2);
        refusedPaste(3, 0, 4, 0, 1, -2);
        refusedPaste(-1, -1, 0, 0, 1, -2);
        refusedPaste(0, 0, 4, 0, -1, -2);
        CHECK.promise(37, "-5: one has nothing");
        refusedPaste(3, 0, 0, 0, 1, -5);
        refusedPaste(0, 0, 3, 0, 1, -5);
        refusedPaste(3, 0, 3, 0, 0, -5);
        CHECK.promise(37, "-5 is told ahead of -6");
        refusedPaste(3, -1, 0, 0, 1, -5);
        refusedPaste(0, 0, 3, 0, -1, -5);
        CHECK.promise(37, "-7: they are not of one WIDTH");
        refusedPaste(0, 0, 2, 0, 1, -7);
        refusedPaste(2, 0, 0, 0, 1, -7);
        refusedPaste(0, 0, 2, 0, 0, -7);
        CHECK.promise(37, "-7 is told ahead of -6");
        refusedPaste(0, 5, 2, 0, 1, -7);
        refusedPaste(0, 0, 2, -1, 1, -7);
        refusedPaste(0, 0, 2, 0, -1, -7);
        CHECK.promise(37, "-6, and nothing happens: some are beyond their rows");
        int[][] beyond = {{0, 0, 4}, {3, 0, 3}, {5, 0, 1}, {0, 1, 3}, {0, 3, 1}, {0, 0, 6}, {4, 2, 2},
            {Integer.MAX_VALUE, 0, 1}, {0, Integer.MAX_VALUE, 1}, {0, 0, Integer.MAX_VALUE},
            {Integer.MAX_VALUE, Integer.MAX_VALUE, Integer.MAX_VALUE}, {6, 0, 0}, {0, 4, 0}};
        for (int[] b : beyond) {
            refusedPaste(0, b[0], 1, b[1], b[2], -6);
        }
        CHECK.promise(37, "-6: a place or n is below 0");
        int[][] below = {{-1, 0, 1}, {0, -1, 1}, {0, 0, -1}, {-1, 0, 0}, {0, -1, 0}, {Integer.MIN_VALUE, 0, 1},
            {0, Integer.MIN_VALUE, 1}, {0, 0, Integer.MIN_VALUE}, {1, 1, -1}, {-1, -1, -1}};
        for (int[] b : below) {
            refusedPaste(0, b[0], 1, b[1], b[2], -6);
        }
    }

    private static void pasteEdges() {
        CHECK.promise(37, "So many numbers, from one on, are put to another one's, from one on: 0");
        HeatTown town = pasteRows();
        CHECK.due("up to the ends of both", town.paste(0, 2, 1, 0, 3), 0);
        airs(town, 1, 3, 4, 5);
        airs(town, 0, 1, 2, 3, 4, 5);
        CHECK.due("the last one of both", town.paste(0, 4, 1, 2, 1), 0);
        CHECK.due("the first one of both", town.paste(0, 0, 1, 0, 1), 0);
        airs(town, 1, 1, 4, 5);
        CHECK.due("none, from the end of both", town.paste(0, 5, 1, 3, 0), 0);
        CHECK.due("none, from the first", town.paste(0, 0, 1, 0, 0), 0);
        airs(town, 1, 1, 4, 5);
        CHECK.due("the other way", town.paste(1, 0, 0, 2, 3), 0);
        airs(town, 0, 1, 2, 1, 4, 5);
        town.row(3, 0, 0);
        CHECK.due("none into a row of none", town.paste(0, 0, 3, 0, 0), 0);
        CHECK.due("one into a row of none", town.paste(0, 0, 3, 0, 1), -6);
        CHECK.due("one out of a row of none", town.paste(3, 0, 0, 0, 1), -6);
    }

    private static void pastesOfItsOwn() {
        CHECK.promise(37, "(or its own) .., as they were");
        HeatTown up = pasteRows();
        CHECK.due("upwards", up.paste(0, 0, 0, 1, 4), 0);
        airs(up, 0, 1, 1, 2, 3, 4);
        CHECK.due("upwards, beyond", up.paste(0, 0, 0, 1, 5), -6);
        HeatTown down = pasteRows();
        CHECK.due("downwards", down.paste(0, 1, 0, 0, 4), 0);
        airs(down, 0, 2, 3, 4, 5, 5);
        CHECK.due("downwards, beyond", down.paste(0, 1, 0, 0, 5), -6);
        HeatTown same = pasteRows();
        CHECK.due("onto itself", same.paste(0, 0, 0, 0, 5), 0);
        airs(same, 0, 1, 2, 3, 4, 5);
        HeatTown wide = new HeatTown();
        for (int width = 0; width < 4; width++) {
            wide.row(width, width, 60);
            wide.write(width, 0, -7);
            CHECK.due("a row of 60", wide.paste(width, 0, width, 59, 1), 0);
            CHECK.due("a row of 60, beyond", wide.paste(width, 0, width, 60, 1), -6);
            CHECK.due("air(" + width + ")", wide.air(width), 60);
        }
        wide.go(48);
        wide.go(11);
        CHECK.due("number 59", wide.count(7), -7);
    }
}
