import java.util.Random;

/** All promises: many runs of chance, each call's answer against that of the Model. */
public final class ModelTest {
    private static final int RUNS = Integer.getInteger("runs", 400);
    private static final int FIRST = Integer.getInteger("first", 1);

    private final Random chance;
    private final HeatTown town = new HeatTown();
    private final Model model = new Model();
    private final int seed;
    private final StringBuilder calls = new StringBuilder();
    private boolean differs = false;

    private ModelTest(int seed) {
        this.seed = seed;
        this.chance = new Random(seed);
    }

    public static void main(String[] args) {
        Check check = new Check();
        for (int seed = FIRST; seed < FIRST + RUNS; seed++) {
            ModelTest run = new ModelTest(seed);
            run.build();
            for (int i = 0; i < 300 && !run.differs; i++) {
                run.call(run.chance.nextInt(64));
            }
            run.lookAtAll();
            check.due("run " + seed + " differs", run.differs, false);
        }
        check.finish();
    }

    private void same(String call, long got, long want) {
        calls.append(call).append(" = ").append(got).append('\n');
        if (got != want && !differs) {
            differs = true;
            System.out.println("seed " + seed + ": " + call + " answered " + got + ", due is " + want);
            if (Boolean.getBoolean("calls")) {
                System.out.println(calls);
            }
        }
    }

    private void same(String call, boolean got, boolean want) {
        same(call, got ? 1 : 0, want ? 1 : 0);
    }

    /** Mostly a number of a span, at times one at its edges or beyond. */
    private int pick(int low, int high) {
        int kind = chance.nextInt(60);
        if (kind == 0) return low - 1;
        if (kind == 1) return high + 1;
        if (kind == 2) return chance.nextBoolean() ? Integer.MIN_VALUE : Integer.MAX_VALUE;
        if (kind < 6) return low;
        if (kind < 9) return high;
        return high < low ? low : low + chance.nextInt(high - low + 1);
    }

    private int aPipe() {
        return pick(0, model.pipes.size() - 1);
    }

    private int aHouse() {
        return pick(0, model.houses.size() - 1);
    }

    private void build() {
        if (chance.nextInt(3) > 0) {
            int step = 1 + chance.nextInt(2000), many = 1 + chance.nextInt(12);
            same("store(" + step * many + ", " + step + ")", town.store(step * many, step), model.store(step * many, step));
        }
        int nodes = chance.nextInt(12);
        for (int i = 0; i < nodes; i++) call(0);
        int pipes = chance.nextInt(22);
        boolean tree = chance.nextBoolean();
        for (int i = 0; i < pipes; i++) {
            if (tree && i + 1 < model.nodes) {
                pipe(chance.nextInt(i + 1), i + 1);
            } else {
                call(1);
            }
        }
        int houses = chance.nextInt(18);
        for (int i = 0; i < houses; i++) call(2);
        for (int i = 0; i < 12; i++) call(pick(40, 50));
    }

    private void pipe(int a, int b) {
        int length = chance.nextInt(4) == 0 ? pick(4, 60) : pick(4, 8);
        int wide = pick(1, Math.min(length, 60));
        int loss = chance.nextInt(3) == 0 ? 0 : pick(0, 200);
        boolean va = chance.nextInt(3) == 0, vb = chance.nextInt(3) == 0;
        same("pipe(" + a + ", " + b + ", " + length + ", " + wide + ", " + loss + ", " + va + ", " + vb + ")",
            town.pipe(a, b, length, wide, loss, va, vb), model.pipe(a, b, length, wide, loss, va, vb));
    }

    private void call(int kind) {
        if (kind == 0) {
            same("node()", town.node(), model.node());
        } else if (kind == 1) {
            pipe(pick(0, model.nodes - 1), pick(0, model.nodes - 1));
        } else if (kind == 2) {
            int n = pick(1, model.nodes - 1), s = pick(1, chance.nextInt(4) == 0 ? 50 : 6), r = pick(0, chance.nextBoolean() ? 2 : 99);
            same("house(" + n + ", " + s + ", " + r + ")", town.house(n, s, r), model.house(n, s, r));
        } else if (kind < 10) {
            water(kind);
        } else if (kind < 22) {
            hours(kind);
        } else if (kind < 36) {
            looks(kind);
        } else if (kind < 44) {
            text(kind);
        } else if (kind < 52) {
            made(kind);
        } else {
            others(kind);
        }
    }

    private void water(int kind) {
        int p = aPipe(), e = pick(0, 1);
        boolean is = chance.nextBoolean();
        if (kind == 3) {
            same("valve(" + p + ", " + e + ", " + is + ")", town.valve(p, e, is), model.valve(p, e, is));
        } else if (kind == 4) {
            is = chance.nextInt(4) == 0;
            same("burst(" + p + ", " + is + ")", town.burst(p, is), model.burst(p, is));
        } else if (kind == 5 && chance.nextInt(4) == 0) {
            same("isolate(" + p + ")", town.isolate(p), model.isolate(p));
        } else if (kind == 6) {
            int g = pick(0, 20), l = pick(15, 50);
            same("terms(" + g + ", " + l + ")", town.terms(g, l), model.terms(g, l));
        } else {
            int w = pick(0, 2);
            same("cut(" + p + ", " + w + ")", town.cut(p, w), model.cut(p, w));
        }
    }

    private void hours(int kind) {
        int n = chance.nextInt(6) == 0 ? pick(1, 48) : pick(1, 4);
        int h = aHouse(), w = pick(0, 3);
        if (kind < 16) {
            same("go(" + n + ")", town.go(n), model.go(n));
        } else if (kind < 19) {
            same("ahead(" + n + ", " + w + ")", town.ahead(n, w), model.ahead(n, w));
        } else {
            w = pick(0, 1);
            same("aheadOf(" + h + ", " + w + ")", town.aheadOf(h, w), model.aheadOf(h, w));
        }
    }

    private void looks(int kind) {
        int p = aPipe(), h = aHouse(), w;
        if (kind < 24) {
            same("flow(" + p + ")", town.flow(p), model.flow(p));
        } else if (kind < 26) {
            w = pick(0, 1);
            same("gets(" + h + ", " + w + ")", town.gets(h, w), model.gets(h, w));
        } else if (kind < 28) {
            w = pick(0, 1);
            int n = pick(1, model.nodes - 1), s = pick(1, 9), r = pick(0, 99);
            same("would(" + n + ", " + s + ", " + r + ", " + w + ")", town.would(n, s, r, w), model.would(n, s, r, w));
        } else if (kind < 30) {
            int k = pick(0, model.pipes.isEmpty() ? 4 : model.pipes.get(0).length - 1);
            w = pick(0, 1);
            same("unit(" + p + ", " + k + ", " + w + ")", town.unit(p, k, w), model.unit(p, k, w));
        } else if (kind < 32) {
            w = pick(0, 5);
            same("houseOf(" + h + ", " + w + ")", town.houseOf(h, w), model.houseOf(h, w));
            w = pick(0, 3);
            same("sums(" + h + ", " + w + ")", town.sums(h, w), model.sums(h, w));
        } else if (kind < 34) {
            w = pick(0, 7);
            same("pipeOf(" + p + ", " + w + ")", town.pipeOf(p, w), model.pipeOf(p, w));
            w = pick(0, 7);
            same("sum(" + w + ")", town.sum(w), model.sum(w));
        } else {
            w = pick(0, 10);
            same("count(" + w + ")", town.count(w), model.count(w));
        }
    }

    /** All that can be asked without a change, so that no unit and no sum is left to chance. */
    private void lookAtAll() {
        for (int what = -1; what <= 11; what++) {
            same("count(" + what + ")", town.count(what), model.count(what));
            same("sum(" + what + ")", town.sum(what), model.sum(what));
        }
        for (int p = -1; p <= model.pipes.size(); p++) {
            lookAtPipe(p);
        }
        for (int h = -1; h <= model.houses.size(); h++) {
            lookAtHouse(h);
        }
        for (int k = -1; k <= 24; k++) {
            same("planned(" + k + ")", town.planned(k), model.planned(k));
        }
        same("fault()", town.fault(), model.fault());
    }

    private void lookAtPipe(int p) {
        same("flow(" + p + ")", town.flow(p), model.flow(p));
        for (int what = -1; what <= 8; what++) {
            same("pipeOf(" + p + ", " + what + ")", town.pipeOf(p, what), model.pipeOf(p, what));
        }
        for (int what = 0; what <= 2; what++) {
            same("cut(" + p + ", " + what + ")", town.cut(p, what), model.cut(p, what));
            for (int k = -1; k <= 60; k++) {
                same("unit(" + p + ", " + k + ", " + what + ")", town.unit(p, k, what), model.unit(p, k, what));
            }
        }
    }

    private void lookAtHouse(int h) {
        for (int what = -1; what <= 6; what++) {
            same("houseOf(" + h + ", " + what + ")", town.houseOf(h, what), model.houseOf(h, what));
            same("sums(" + h + ", " + what + ")", town.sums(h, what), model.sums(h, what));
            same("gets(" + h + ", " + what + ")", town.gets(h, what), model.gets(h, what));
            same("aheadOf(" + h + ", " + what + ")", town.aheadOf(h, what), model.aheadOf(h, what));
        }
    }

    private void text(int kind) {
        if (kind == 36) {
            int a = chance.nextInt(), b = chance.nextInt();
            same("feed", town.feed(a, b, a, b, a), model.feed(a, b, a, b, a));
        } else if (kind == 37) {
            int n = pick(0, model.tape.length());
            same("end(" + n + ")", town.end(n), model.end(n));
        } else if (kind == 38) {
            same("fault()", town.fault(), model.fault());
        } else if (kind < 42) {
            town.end(0);
            model.end(0);
            feedText(ruleText());
            same("rules()", town.rules(), model.rules());
            same("fault()", town.fault(), model.fault());
        } else {
            same("count(5)", town.count(5), model.count(5));
        }
    }

    private void feedText(String text) {
        String cut = text.length() > 300 ? text.substring(0, 300) : text;
        calls.append("text ").append(cut).append('\n');
        StringBuilder padded = new StringBuilder(cut);
        while (padded.length() % 20 != 0) padded.append(' ');
        for (int i = 0; i < padded.length(); i += 20) {
            int[] n = new int[5];
            for (int j = 0; j < 20; j++) n[j / 4] = n[j / 4] << 8 | padded.charAt(i + j);
            same("feed", town.feed(n[0], n[1], n[2], n[3], n[4]), model.feed(n));
        }
        same("end(" + cut.length() + ")", town.end(cut.length()), model.end(cut.length()));
    }

    private String ruleText() {
        StringBuilder s = new StringBuilder();
        int many = chance.nextInt(5) == 0 ? chance.nextInt(15) : 1 + chance.nextInt(5);
        for (int i = 0; i < many; i++) {
            if (i > 0) s.append(';');
            s.append(of("send", "drop", "price", "lost")).append(blank()).append(sum(0));
            if (many < 8 && chance.nextBoolean()) {
                s.append(" when ").append(condition());
                while (chance.nextInt(3) == 0) s.append(of(" and ", " or ")).append(condition());
            }
        }
        while (chance.nextInt(3) == 0 && s.length() > 0) {
            int at = chance.nextInt(s.length());
            int change = chance.nextInt(4);
            if (change == 0) s.deleteCharAt(at);
            else if (change == 1) s.setCharAt(at, (char) chance.nextInt(256));
            else if (change == 2) s.insert(at, of("(", ")", ";", " when ", " or ", "10000", "00009999", "x", "\n", "\t", "<", "7"));
            else s.setLength(at);
        }
        return s.toString();
    }

    private String of(String... all) {
        return all[chance.nextInt(all.length)];
    }

    private String blank() {
        return of(" ", " ", "\n", "  ");
    }

    private String condition() {
        return sum(0) + of("<", ">", "=", " = ") + sum(0);
    }

    private String sum(int depth) {
        StringBuilder s = new StringBuilder(factor(depth));
        while (chance.nextInt(3) == 0) s.append(of("+", "-", "*", "/", " - ", " * ")).append(factor(depth));
        return s.toString();
    }

    private String factor(int depth) {
        int kind = chance.nextInt(8);
        if (kind == 0 && depth < 10) return "(" + sum(depth + 1) + ")";
        if (kind == 1 && depth == 0 && chance.nextInt(4) == 0) return "((((((((" + sum(8) + "))))))))";
        if (kind < 5) return String.valueOf(chance.nextInt(chance.nextBoolean() ? 10 : 130));
        if (kind == 5) return of("9999", "00", "0", "9998*9999*9999*9999*9999");
        return of("air", "hour", "store", "back", "size", "rank", "cold");
    }

    private void made(int kind) {
        int place = pick(0, 3);
        if (kind == 44) {
            int m = chance.nextBoolean() ? pick(1, 200000) : pick(1, 5000), c = pick(0, 1000);
            same("boiler(" + m + ", " + c + ")", town.boiler(m, c), model.boiler(m, c));
        } else if (kind == 45) {
            int s = chance.nextBoolean() ? pick(1, 200000) : pick(1, 3000);
            int m = chance.nextBoolean() ? pick(0, 1000000) : (int) Math.min(1000000L, (long) Math.max(0, s) * pick(0, 8));
            same("store(" + m + ", " + s + ")", town.store(m, s), model.store(m, s));
        } else if (kind == 46) {
            fill(place, chance.nextInt(4), pick(0, 9), 0, 5000);
            int c = pick(0, 1000);
            same("mill(" + place + ", " + c + ")", town.mill(place, c), model.mill(place, c));
        } else if (kind < 49) {
            int can = 5000 * chance.nextInt(4);
            for (int[] b : model.boilers) can = Math.min(800000, can + b[1]);
            fill(place, chance.nextInt(3) + 1, chance.nextInt(4) == 0 ? pick(1, 24) : pick(1, 6), 0, can * (1 + chance.nextInt(4)) / 2);
            same("plan(" + place + ")", town.plan(place), model.plan(place));
            for (int k = 0; k < 6; k++) same("planned(" + k + ")", town.planned(k), model.planned(k));
        } else if (kind < 51) {
            int k = pick(0, 23);
            same("planned(" + k + ")", town.planned(k), model.planned(k));
        } else {
            fill(place, chance.nextInt(4), pick(1, 8), -15, 15);
            same("air(" + place + ")", town.air(place), model.air(place));
        }
    }

    private void fill(int place, int width, int n, int low, int high) {
        same("row(" + place + ", " + width + ", " + n + ")", town.row(place, width, n), model.row(place, width, n));
        for (int i = 0; i < n && i < 60; i++) {
            long v = chance.nextInt(300) == 0 ? chance.nextLong() : low + chance.nextInt(high - low + 1);
            if (width == 0 && high > 127) v = Math.floorMod(v, 128);
            same("write(" + place + ", " + i + ", " + v + ")", town.write(place, i, v), model.write(place, i, v));
        }
    }

    private void others(int kind) {
        int place = pick(0, 3), to = pick(0, 3), i = pick(0, 8), k = pick(0, 8), n = pick(0, 6), w = pick(0, 3);
        if (kind == 52) {
            same("tear(" + place + ")", town.tear(place), model.tear(place));
        } else if (kind == 53) {
            same("row(" + place + ", " + w + ", " + i + ")", town.row(place, w, i), model.row(place, w, i));
        } else if (kind == 54) {
            long v = chance.nextLong() >> chance.nextInt(64);
            same("write(" + place + ", " + i + ", " + v + ")", town.write(place, i, v), model.write(place, i, v));
        } else if (kind < 57) {
            same("paste(" + place + ", " + i + ", " + to + ", " + k + ", " + n + ")",
                town.paste(place, i, to, k, n), model.paste(place, i, to, k, n));
        } else if (kind == 57) {
            same("air(" + place + ")", town.air(place), model.air(place));
            same("mill(" + place + ", 5)", town.mill(place, 5), model.mill(place, 5));
            same("plan(" + place + ")", town.plan(place), model.plan(place));
        } else if (kind < 61) {
            int p = pick(0, 1), e = pick(0, 1), h = pick(0, Math.min(3, model.hour)), u = pick(0, chance.nextInt(9) == 0 ? 1000 : 30);
            same("meter(" + p + ", " + e + ", " + h + ", " + u + ")", town.meter(p, e, h, u), model.meter(p, e, h, u));
        } else {
            int p = pick(0, 1), m = pick(0, model.facts.size()), d = pick(0, chance.nextBoolean() ? 50 : 6);
            same("leak(" + p + ", " + m + ", " + d + ", 0)", town.leak(p, m, d, 0), model.leak(p, m, d, 0));
            w = pick(0, 1);
            same("leak(" + p + ", " + m + ", " + d + ", " + w + ")", town.leak(p, m, d, w), model.leak(p, m, d, w));
        }
    }
}
