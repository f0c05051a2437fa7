import java.util.ArrayList;
import java.util.List;
import java.util.function.Supplier;
import java.util.function.ToLongFunction;

/**
 * What a refused call leaves unchanged: of two towns that were built alike one gets the call, and both then answer
 * the same questions. A town is made anew for each call, so that none comes to its 512th.
 */
final class Twin {
    private final Check check;
    private final Supplier<HeatTown> builder;

    Twin(Check check, Supplier<HeatTown> builder) {
        this.check = check;
        this.builder = builder;
    }

    /** The call is refused with this answer, and all else is as it was. */
    void refused(String call, ToLongFunction<HeatTown> made, long due) {
        HeatTown town = builder.get();
        check.due(call, made.applyAsLong(town), due);
        List<String> told = tell(town);
        List<String> before = tell(builder.get());
        check.due(call + ", and as many answers behind it", told.size(), before.size());
        for (int i = 0; i < Math.min(told.size(), before.size()); i++) {
            boolean same = told.get(i).equals(before.get(i));
            check.due(call + " changed " + before.get(i) + " to " + told.get(i), same, true);
        }
    }

    /** The call answers this, and something else is told behind it: what shows that the questions see such a change. */
    void taken(String call, ToLongFunction<HeatTown> made, long due) {
        HeatTown town = builder.get();
        check.due(call, made.applyAsLong(town), due);
        check.due(call + " changed nothing", tell(town).equals(tell(builder.get())), false);
    }

    /** A town with something of everything, in its third hour. */
    static HeatTown lively() {
        HeatTown town = Check.nodes(4);
        town.terms(6, 22);
        town.store(2000, 500);
        town.pipe(0, 1, 5, 4, 60, true, false);
        town.pipe(1, 2, 4, 2, 30, false, true);
        town.house(1, 3, 5);
        town.house(2, 2, 7);
        town.house(3, 1, 1);
        town.boiler(30000, 20);
        Check.rules(town, "drop 20;price 15+cold;lost 400;send 66+rank when back=30;send 70+store/1000");
        Check.numbers(town, 0, 0, 5, 3, -4);
        Check.numbers(town, 1, 2, 300, 0, 1200);
        town.row(2, 1, 0);
        town.air(0);
        town.mill(1, 30);
        Check.numbers(town, 1, 2, 0, 0, 0, 31500, 0);
        town.plan(1);
        Check.numbers(town, 1, 2, 7, 8);
        town.go(2);
        town.meter(0, 0, 1, 30);
        town.meter(0, 1, 1, 21);
        town.ahead(2, 0);
        Check.rules(town, "send 1 2");
        Check.tape(town, "send 99");
        return town;
    }

    private static List<String> tell(HeatTown town) {
        List<String> told = new ArrayList<>();
        tellAll(town, told);
        tellPlaces(town, told);
        told.add("ahead " + town.ahead(3, 0) + " " + town.ahead(3, 1) + " " + town.ahead(3, 2) + " " + town.ahead(3, 3));
        told.add("tape " + town.rules() + " " + town.fault());
        told.add("go " + town.go(2));
        tellAll(town, told);
        return told;
    }

    private static void tellAll(HeatTown town, List<String> told) {
        for (int what = 0; what <= 10; what++) {
            told.add("count(" + what + ") " + town.count(what));
        }
        for (int what = 0; what <= 7; what++) {
            told.add("sum(" + what + ") " + town.sum(what));
        }
        told.add("fault " + town.fault());
        told.add("planned " + town.planned(0) + " " + town.planned(2) + " " + town.planned(4));
        for (int h = 0; h < Math.min(3, town.count(3)); h++) {
            told.add("house " + h + ": " + town.houseOf(h, 0) + " " + town.houseOf(h, 1) + " " + town.houseOf(h, 2) + " "
                + town.houseOf(h, 4) + " " + town.houseOf(h, 5));
            told.add("sums " + h + ": " + town.sums(h, 0) + " " + town.sums(h, 1) + " " + town.sums(h, 2) + " " + town.sums(h, 3));
            told.add("gets " + h + ": " + town.gets(h, 0) + " " + town.gets(h, 1));
            told.add("aheadOf " + h + ": " + town.aheadOf(h, 0) + " " + town.aheadOf(h, 1));
        }
        for (int p = 0; p < Math.min(3, town.count(2)); p++) {
            told.add("pipe " + p + ": " + town.pipeOf(p, 0) + " " + town.pipeOf(p, 1) + " " + town.pipeOf(p, 2) + " "
                + town.pipeOf(p, 3) + " " + town.pipeOf(p, 4) + " " + town.pipeOf(p, 5) + " " + town.pipeOf(p, 6));
            told.add("flow " + p + ": " + town.flow(p) + " " + town.pipeOf(p, 7));
            told.add("cut " + p + ": " + town.cut(p, 0) + " " + town.cut(p, 1));
            told.add("leak " + p + ": " + town.leak(p, town.count(8), 2, 0));
            told.add("unit " + p + ": " + town.unit(p, 0, 0) + " " + town.unit(p, 3, 1));
        }
    }

    /** Rows by what air() takes of them, and their widths by what can be pasted where. */
    private static void tellPlaces(HeatTown town, List<String> told) {
        for (int place = 0; place < 4; place++) {
            StringBuilder row = new StringBuilder("row ").append(place).append(": ").append(town.air(place));
            int many = 5;
            while (many > 0 && town.paste(place, 0, place, 0, many) != 0) {
                many--;
            }
            for (int i = 0; i < many; i++) {
                row.append(' ').append(town.count(7)).append(" by ").append(town.go(1));
            }
            for (int other = 0; other < 4; other++) {
                row.append(' ').append(town.paste(place, 0, other, 0, 0));
            }
            told.add(row.toString());
        }
        for (int place = 0; place < 3; place++) {
            StringBuilder widths = new StringBuilder("width ").append(place).append(':');
            for (int width = 0; width < 4; width++) {
                town.row(3, width, 0);
                widths.append(' ').append(town.paste(place, 0, 3, 0, 0));
            }
            told.add(widths.toString());
        }
    }
}
