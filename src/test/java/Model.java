import java.util.ArrayList;
import java.util.Arrays;
import java.util.HashMap;
import java.util.LinkedList;
import java.util.List;
import java.util.Map;
import java.util.TreeMap;
import java.util.TreeSet;

/**
 * The document once more, as slowly and literally as can be, for ModelTest to compare with: every way is listed,
 * every unit is an entry of a list, every leak from 0 to 1000 is tried.
 */
final class Model {
    static final class Pipe {
        int a, b, length, wide, loss, lastFlow;
        boolean[] valved = new boolean[2];
        boolean[] shut = new boolean[2];
        boolean burst;
        LinkedList<Integer> out = new LinkedList<>();
        LinkedList<Integer> back = new LinkedList<>();

        boolean open() {
            return !burst && !shut[0] && !shut[1];
        }

        int at(int end) {
            return end == 0 ? a : b;
        }

        Pipe copy() {
            Pipe p = new Pipe();
            p.a = a; p.b = b; p.length = length; p.wide = wide; p.loss = loss; p.lastFlow = lastFlow;
            p.valved = valved.clone(); p.shut = shut.clone(); p.burst = burst;
            p.out = new LinkedList<>(out); p.back = new LinkedList<>(back);
            return p;
        }
    }

    static final class House {
        int node, size, rank, units, coldHours;
        long warm = -1, used, cold, billed, billedLost;

        House copy() {
            House h = new House();
            h.node = node; h.size = size; h.rank = rank; h.units = units; h.coldHours = coldHours;
            h.warm = warm; h.used = used; h.cold = cold; h.billed = billed; h.billedLost = billedLost;
            return h;
        }
    }

    static final class Flow {
        int[] inPipe;
        int[] wants;
        int[] gets;
        Map<Integer, Map<Integer, Integer>> through = new HashMap<>();
    }

    int hour = 0, nodes = 1, ground = 8, least = 25;
    List<Pipe> pipes = new ArrayList<>();
    List<House> houses = new ArrayList<>();
    List<int[]> boilers = new ArrayList<>();
    long holds = 0, step = 1, stored = 0;
    TreeMap<Integer, Long> airs = new TreeMap<>();
    TreeMap<Integer, Long> offers = new TreeMap<>();
    int millPrice = 0;
    TreeMap<Integer, Long> plan = null;
    List<Long> planned = new ArrayList<>();
    long[][] rows = new long[4][];
    int[] widths = new int[4];
    StringBuilder tape = new StringBuilder();
    List<List<String>> rules = new ArrayList<>();
    int fault = -1;
    int back = 30, sendWas = -1;
    long[] sums = new long[6];
    List<int[]> facts = new ArrayList<>();
    List<long[]> aheadHouses = null;

    int terms(int g, int l) {
        if (g < 0 || g > 20 || l < 15 || l > 50) return -2;
        ground = g;
        least = l;
        return 0;
    }

    int node() {
        return nodes == 12 ? -3 : nodes++;
    }

    int pipe(int a, int b, int length, int wide, int loss, boolean valveA, boolean valveB) {
        if (a < 0 || b < 0 || a >= nodes || b >= nodes || a == b) return -2;
        if (length < 4 || length > 60 || wide < 1 || wide > length || loss < 0 || loss > 200) return -2;
        if (pipes.size() == 20) return -3;
        Pipe p = new Pipe();
        p.a = a; p.b = b; p.length = length; p.wide = wide; p.loss = loss;
        p.valved = new boolean[] {valveA, valveB};
        for (int i = 0; i < length; i++) {
            p.out.add(6000);
            p.back.add(3000);
        }
        pipes.add(p);
        return pipes.size() - 1;
    }

    int house(int node, int size, int rank) {
        if (badHouse(node, size, rank)) return -2;
        if (houses.size() == 16) return -3;
        addHouse(node, size, rank);
        return houses.size() - 1;
    }

    private boolean badHouse(int node, int size, int rank) {
        return node < 1 || node >= nodes || size < 1 || size > 50 || rank < 0 || rank > 99;
    }

    private void addHouse(int node, int size, int rank) {
        House h = new House();
        h.node = node; h.size = size; h.rank = rank;
        houses.add(h);
    }

    private boolean noPipe(int p) {
        return p < 0 || p >= pipes.size();
    }

    boolean valve(int p, int end, boolean shut) {
        if (noPipe(p) || end < 0 || end > 1 || !pipes.get(p).valved[end]) return false;
        boolean was = pipes.get(p).shut[end];
        pipes.get(p).shut[end] = shut;
        return was != shut;
    }

    boolean burst(int p, boolean is) {
        if (noPipe(p)) return false;
        boolean was = pipes.get(p).burst;
        pipes.get(p).burst = is;
        return was != is;
    }

    private int badRow(int place, int shortest, int longest, long low, long high) {
        if (place < 0 || place > 3) return -2;
        if (rows[place] == null) return -5;
        if (rows[place].length < shortest || rows[place].length > longest) return -8;
        return Arrays.stream(rows[place]).allMatch(v -> v >= low && v <= high) ? 0 : -4;
    }

    int air(int place) {
        int bad = badRow(place, 1, 60, -40, 40);
        if (bad != 0) return bad;
        airs.clear();
        for (int i = 0; i < rows[place].length; i++) airs.put(hour + i, rows[place][i]);
        return airs.size();
    }

    private long airNow() {
        Map.Entry<Integer, Long> e = airs.floorEntry(hour);
        return e == null ? 0 : e.getValue();
    }

    int boiler(int most, int cost) {
        if (most < 1 || most > 200000 || cost < 0 || cost > 1000) return -2;
        if (boilers.size() == 4) return -3;
        boilers.add(new int[] {boilers.size(), most, cost});
        return boilers.size() - 1;
    }

    int store(int most, int s) {
        if (most < 0 || most > 1000000 || s < 1 || s > 200000) return -2;
        if (hour > 0 || plan != null || most / s > 40) return -9;
        holds = most;
        step = s;
        return 0;
    }

    int mill(int place, int price) {
        if (price < 0 || price > 1000) return -2;
        int bad = badRow(place, 0, 60, 0, 200000);
        if (bad != 0) return bad;
        millPrice = price;
        offers.clear();
        for (int i = 0; i < rows[place].length; i++) offers.put(hour + i, rows[place][i]);
        return offers.size();
    }

    int feed(int... five) {
        if (tape.length() + 20 > 300) return -1;
        for (int v : five) {
            tape.append((char) (v >>> 24)).append((char) (v >>> 16 & 255));
            tape.append((char) (v >>> 8 & 255)).append((char) (v & 255));
        }
        return tape.length();
    }

    int end(int n) {
        if (n < 0 || n > tape.length()) return -1;
        tape.setLength(n);
        return n;
    }

    int rules() {
        String text = tape.toString();
        tape.setLength(0);
        Text parsed = new Text(text);
        fault = parsed.fault;
        if (fault != -1) return -4;
        rules = parsed.rules;
        return rules.size();
    }

    int fault() {
        return fault;
    }

    /** A text by an automaton over its tokens: where we are (0 head, 1 left, 2 right), how deep, and what is due. */
    static final class Text {
        int fault = -1;
        List<List<String>> rules = new ArrayList<>();

        Text(String text) {
            List<String> tokens = new ArrayList<>();
            List<Integer> places = new ArrayList<>();
            java.util.regex.Matcher m =
                java.util.regex.Pattern.compile("[a-z]+|[0-9]+|[^ \n]", java.util.regex.Pattern.DOTALL).matcher(text);
            while (m.find()) {
                tokens.add(m.group());
                places.add(m.start());
            }
            if (tokens.isEmpty()) return;
            tokens.add("");
            places.add(text.length());
            String due = "rule";
            int where = 0;
            int depth = 0;
            List<String> rule = null;
            for (int i = 0; i < tokens.size(); i++) {
                String t = tokens.get(i);
                boolean ok = false;
                if (due.equals("rule")) {
                    ok = List.of("send", "drop", "price", "lost").contains(t) && rules.size() < 12;
                    rule = new ArrayList<>();
                    rules.add(rule);
                    due = "operand";
                    where = 0;
                } else if (due.equals("operand")) {
                    if (t.equals("(")) {
                        ok = ++depth <= 8;
                    } else {
                        ok = t.matches("0*[0-9]{1,4}") || List.of("air", "hour", "store", "back", "size", "rank", "cold").contains(t);
                        due = "operator";
                    }
                } else if (t.matches("[-+*/]")) {
                    ok = true;
                    due = "operand";
                } else if (t.equals(")")) {
                    ok = --depth >= 0;
                } else if (depth == 0) {
                    if (t.equals("when")) {
                        ok = where == 0;
                        where = 1;
                        due = "operand";
                    } else if (t.matches("[<>=]")) {
                        ok = where == 1;
                        where = 2;
                        due = "operand";
                    } else if (t.equals("and") || t.equals("or")) {
                        ok = where == 2;
                        where = 1;
                        due = "operand";
                    } else if (t.equals(";")) {
                        ok = where != 1;
                        due = "rule";
                    } else if (t.isEmpty()) {
                        ok = where != 1;
                    }
                }
                if (!ok) {
                    fault = places.get(i);
                    return;
                }
                if (!t.equals(";") && !t.isEmpty()) rule.add(t);
            }
        }
    }

    /** Values by cutting a run of tokens at its last operator that binds the least. */
    private long value(List<String> t, House h) {
        for (String ops : new String[] {"or", "and", "<>=", "+-", "*/"}) {
            int depth = 0;
            for (int i = t.size() - 1; i > 0; i--) {
                if (t.get(i).equals(")")) depth++;
                if (t.get(i).equals("(")) depth--;
                boolean here = ops.equals(t.get(i)) || t.get(i).length() == 1 && ops.contains(t.get(i)) && !ops.matches("[a-z]+");
                if (depth == 0 && here) {
                    return join(t.get(i), value(t.subList(0, i), h), value(t.subList(i + 1, t.size()), h));
                }
            }
        }
        if (t.get(0).equals("(")) return value(t.subList(1, t.size() - 1), h);
        switch (t.get(0)) {
            case "air": return airNow();
            case "hour": return hour % 24;
            case "store": return stored;
            case "back": return back;
            case "size": return h == null ? 0 : h.size;
            case "rank": return h == null ? 0 : h.rank;
            case "cold": return h == null ? 0 : h.coldHours;
            default: return Long.parseLong(t.get(0));
        }
    }

    private static long join(String op, long a, long b) {
        switch (op) {
            case "or": return a + b > 0 ? 1 : 0;
            case "and": return a * b;
            case "<": return a < b ? 1 : 0;
            case ">": return a > b ? 1 : 0;
            case "=": return a == b ? 1 : 0;
            case "+": return a + b;
            case "-": return a - b;
            case "*": return a * b;
            default: return b == 0 ? 0 : java.math.BigInteger.valueOf(a).divide(java.math.BigInteger.valueOf(b)).longValue();
        }
    }

    private long told(String kind, House h, long low, long high, long without) {
        for (List<String> rule : rules) {
            if (!rule.get(0).equals(kind)) continue;
            int when = rule.indexOf("when");
            if (when >= 0 && value(rule.subList(when + 1, rule.size()), h) == 0) continue;
            long v = value(rule.subList(1, when < 0 ? rule.size() : when), h);
            return v < low ? low : v > high ? high : v;
        }
        return without;
    }

    private Flow flows() {
        long drop = told("drop", null, 5, 60, 30);
        Flow f = new Flow();
        f.inPipe = new int[pipes.size()];
        f.wants = new int[houses.size()];
        f.gets = new int[houses.size()];
        List<Integer> order = new ArrayList<>();
        for (int h = 0; h < houses.size(); h++) {
            order.add(h);
            long need = need(houses.get(h));
            while (f.wants[h] * drop < need) f.wants[h]++;
        }
        order.sort((x, y) -> houses.get(x).rank != houses.get(y).rank
            ? houses.get(y).rank - houses.get(x).rank : x - y);
        for (int h : order) {
            while (f.gets[h] < f.wants[h]) {
                List<Integer> best = shortest(f, houses.get(h).node);
                if (best == null) break;
                int units = f.wants[h] - f.gets[h];
                for (int p : best) units = Math.min(units, pipes.get(p).wide - Math.abs(f.inPipe[p]));
                int at = 0;
                for (int p : best) {
                    boolean fromA = pipes.get(p).a == at;
                    f.inPipe[p] += fromA ? units : -units;
                    at = fromA ? pipes.get(p).b : pipes.get(p).a;
                    f.through.computeIfAbsent(p, k -> new TreeMap<>()).merge(h, units, Integer::sum);
                }
                f.gets[h] += units;
            }
        }
        return f;
    }

    private long need(House h) {
        return Math.max(0, h.size * (20 - airNow()));
    }

    private List<Integer> bestWay;
    private int bestLength;

    private List<Integer> shortest(Flow f, int target) {
        bestWay = null;
        bestLength = Integer.MAX_VALUE;
        walk(f, 0, target, new ArrayList<>(), 0, 1);
        return bestWay;
    }

    /** Ways are met in the order of their pipes' numbers, so the first of one length stays. */
    private void walk(Flow f, int at, int target, List<Integer> way, int length, int been) {
        if (length >= bestLength) return;
        if (at == target) {
            bestWay = new ArrayList<>(way);
            bestLength = length;
            return;
        }
        for (int p = 0; p < pipes.size(); p++) {
            Pipe q = pipes.get(p);
            if (!q.open() || q.wide <= Math.abs(f.inPipe[p])) continue;
            for (int e = 0; e < 2; e++) {
                int next = q.at(1 - e);
                boolean against = e == 0 ? f.inPipe[p] < 0 : f.inPipe[p] > 0;
                if (q.at(e) != at || against || (been >> next & 1) == 1) continue;
                way.add(p);
                walk(f, next, target, way, length + q.length, been | 1 << next);
                way.remove(way.size() - 1);
            }
        }
    }

    private static List<Long> mixed(long warm, long units) {
        List<Long> all = new ArrayList<>();
        for (long k = 0; k < units; k++) all.add(warm * (k + 1) / units - warm * k / units);
        return all;
    }

    void anHour() {
        long send = told("send", null, 40, 120, 70);
        long[] price = new long[houses.size()];
        long[] lost = new long[houses.size()];
        for (int h = 0; h < houses.size(); h++) {
            price[h] = told("price", houses.get(h), 0, 1000, 10);
            lost[h] = told("lost", houses.get(h), 0, 1000, 0);
        }
        Flow f = flows();
        long[] needs = houses.stream().mapToLong(h -> 100 * need(h)).toArray();
        long[] outWarm = new long[nodes], outUnits = new long[nodes], backWarm = new long[nodes], backUnits = new long[nodes];
        for (int p = 0; p < pipes.size(); p++) {
            Pipe q = pipes.get(p);
            q.lastFlow = f.inPipe[p];
            int far = q.lastFlow > 0 ? q.b : q.a;
            int near = q.lastFlow > 0 ? q.a : q.b;
            for (int i = 0; i < Math.abs(q.lastFlow); i++) {
                outWarm[far] += q.lastFlow > 0 ? q.out.removeLast() : q.out.removeFirst();
                outUnits[far]++;
                backWarm[near] += q.lastFlow > 0 ? q.back.removeFirst() : q.back.removeLast();
                backUnits[near]++;
            }
        }
        outUnits[0] = backUnits[0];
        back = backUnits[0] == 0 ? 30 : (int) (backWarm[0] / backUnits[0] / 100);
        outWarm[0] = backWarm[0] + made(Math.max(0, send * 100 * outUnits[0] - backWarm[0]));
        sendWas = outUnits[0] == 0 ? -1 : (int) (outWarm[0] / outUnits[0]);
        for (int n = 0; n < nodes; n++) {
            LinkedList<Long> units = new LinkedList<>(mixed(outWarm[n], outUnits[n]));
            for (int p = 0; p < pipes.size(); p++) {
                Pipe q = pipes.get(p);
                if ((q.lastFlow > 0 ? q.a : q.b) != n) continue;
                for (int i = 0; i < Math.abs(q.lastFlow); i++) {
                    int w = (int) (long) units.removeFirst();
                    if (q.lastFlow > 0) q.out.addFirst(w); else q.out.addLast(w);
                }
            }
            for (int h = 0; h < houses.size(); h++) {
                House o = houses.get(h);
                if (o.node != n) continue;
                long warm = 0;
                for (int i = 0; i < f.gets[h]; i++) warm += units.removeFirst();
                long use = Math.min(needs[h], Math.max(0, warm - 100L * least * f.gets[h]));
                o.units = f.gets[h];
                o.warm = f.gets[h] == 0 ? -1 : warm;
                o.used += use;
                o.cold += needs[h] - use;
                o.coldHours += needs[h] > use ? 1 : 0;
                o.billed += price[h] * use / 1000;
                sums[2] += use;
                sums[5] += needs[h] - use;
                backWarm[n] += warm - use;
                backUnits[n] += f.gets[h];
            }
            if (!units.isEmpty()) throw new IllegalStateException("units are left at a node");
        }
        for (int n = 1; n < nodes; n++) {
            LinkedList<Long> units = new LinkedList<>(mixed(backWarm[n], backUnits[n]));
            for (Pipe q : pipes) {
                if ((q.lastFlow > 0 ? q.b : q.a) != n) continue;
                for (int i = 0; i < Math.abs(q.lastFlow); i++) {
                    int w = (int) (long) units.removeFirst();
                    if (q.lastFlow > 0) q.back.addLast(w); else q.back.addFirst(w);
                }
            }
            if (!units.isEmpty()) throw new IllegalStateException("units are left at a node");
        }
        for (int p = 0; p < pipes.size(); p++) {
            Pipe q = pipes.get(p);
            long gone = cool(q.out, q.loss) + cool(q.back, q.loss);
            sums[3] += gone;
            for (Map.Entry<Integer, Integer> e : f.through.getOrDefault(p, Map.of()).entrySet()) {
                long part = gone * e.getValue() / Math.abs(q.lastFlow);
                houses.get(e.getKey()).billedLost += part * lost[e.getKey()] / 1000;
            }
        }
        hour++;
    }

    private long cool(LinkedList<Integer> units, int loss) {
        long gone = 0;
        List<Integer> cooler = new ArrayList<>();
        for (int w : units) {
            long part = Math.max(0, (w - ground * 100L) * loss / 1000);
            gone += part;
            cooler.add((int) (w - part));
        }
        units.clear();
        units.addAll(cooler);
        return gone;
    }

    private long made(long needed) {
        long level = plan == null ? stored : plan.getOrDefault(hour, stored);
        long in = Math.max(0, level - stored);
        long out = Math.min(needed, Math.max(0, stored - level));
        long[] r = raise(needed + in - out);
        sums[0] += r[1];
        sums[1] += r[0];
        sums[4] += r[2];
        long tooLittle = needed + in - out - r[0] - r[1];
        long notStored = Math.min(in, tooLittle);
        stored += in - notStored - out;
        return needed - (tooLittle - notStored);
    }

    private long[] raise(long needed) {
        long m = Math.min(needed, offers.getOrDefault(hour, 0L));
        long rest = needed - m;
        long cost = m * millPrice / 1000;
        List<int[]> byCost = new ArrayList<>(boilers);
        byCost.sort((x, y) -> x[2] != y[2] ? x[2] - y[2] : x[0] - y[0]);
        for (int[] b : byCost) {
            long part = Math.min(rest, b[1]);
            rest -= part;
            cost += part * b[2] / 1000;
        }
        return new long[] {m, needed - m - rest, cost};
    }

    int go(int hours) {
        if (hours < 1 || hours > 48) return -2;
        if (hour + hours > 5000) return -3;
        for (int i = 0; i < hours; i++) anHour();
        return hour;
    }

    private Model copy() {
        Model m = new Model();
        m.hour = hour; m.nodes = nodes; m.ground = ground; m.least = least;
        for (Pipe p : pipes) m.pipes.add(p.copy());
        for (House h : houses) m.houses.add(h.copy());
        m.boilers = boilers; m.holds = holds; m.step = step; m.stored = stored;
        m.airs = airs; m.offers = offers; m.millPrice = millPrice; m.plan = plan;
        m.rules = rules; m.back = back; m.sums = sums.clone();
        return m;
    }

    long ahead(int hours, int what) {
        if (hours < 1 || hours > 48 || what < 0 || what > 3) return -2;
        Model m = copy();
        long first = -1;
        aheadHouses = new ArrayList<>();
        for (House h : houses) aheadHouses.add(new long[] {0, -1});
        for (int i = 0; i < hours; i++) {
            long[] before = m.houses.stream().mapToLong(h -> h.cold).toArray();
            m.anHour();
            for (int h = 0; h < before.length; h++) {
                long cold = m.houses.get(h).cold - before[h];
                aheadHouses.get(h)[0] += cold;
                if (cold > 0 && aheadHouses.get(h)[1] == -1) aheadHouses.get(h)[1] = m.hour - 1;
                if (cold > 0 && first == -1) first = m.hour - 1;
            }
        }
        return new long[] {m.sums[5] - sums[5], first, m.sums[3] - sums[3], m.sums[4] - sums[4]}[what];
    }

    long aheadOf(int house, int what) {
        if (aheadHouses == null || house < 0 || house >= aheadHouses.size() || what < 0 || what > 1) return -2;
        return aheadHouses.get(house)[what];
    }

    int flow(int p) {
        return noPipe(p) ? -1000 : flows().inPipe[p];
    }

    int gets(int h, int what) {
        if (h < 0 || h >= houses.size() || what < 0 || what > 1) return -2;
        return what == 0 ? flows().wants[h] : flows().gets[h];
    }

    int would(int node, int size, int rank, int what) {
        if (badHouse(node, size, rank) || what < 0 || what > 1) return -2;
        if (houses.size() == 16) return -3;
        int[] before = flows().gets;
        addHouse(node, size, rank);
        int[] after = flows().gets;
        houses.remove(houses.size() - 1);
        int fewer = 0;
        for (int h = 0; h < before.length; h++) fewer += after[h] < before[h] ? 1 : 0;
        return what == 0 ? fewer : after[before.length];
    }

    private void runPipe(int p, TreeSet<Integer> valves, TreeSet<Integer> wetPipes, TreeSet<Integer> wetNodes) {
        if (!wetPipes.add(p)) return;
        for (int e = 0; e < 2; e++) {
            if (pipes.get(p).valved[e]) valves.add(2 * p + e);
            else runNode(pipes.get(p).at(e), valves, wetPipes, wetNodes);
        }
    }

    private void runNode(int n, TreeSet<Integer> valves, TreeSet<Integer> wetPipes, TreeSet<Integer> wetNodes) {
        if (!wetNodes.add(n)) return;
        for (int p = 0; p < pipes.size(); p++) {
            for (int e = 0; e < 2; e++) {
                if (pipes.get(p).at(e) != n) continue;
                if (pipes.get(p).valved[e]) valves.add(2 * p + e);
                else runPipe(p, valves, wetPipes, wetNodes);
            }
        }
    }

    long cut(int p, int what) {
        if (noPipe(p) || what < 0 || what > 2) return -2;
        TreeSet<Integer> valves = new TreeSet<>(), wetPipes = new TreeSet<>(), wetNodes = new TreeSet<>();
        runPipe(p, valves, wetPipes, wetNodes);
        TreeSet<Integer> reached = new TreeSet<>();
        LinkedList<Integer> next = new LinkedList<>(List.of(0));
        while (!next.isEmpty()) {
            int n = next.removeFirst();
            if (!reached.add(n)) continue;
            for (int q = 0; q < pipes.size(); q++) {
                Pipe r = pipes.get(q);
                if (!r.open() || wetPipes.contains(q) || valves.contains(2 * q) || valves.contains(2 * q + 1)) continue;
                if (r.a == n) next.add(r.b);
                if (r.b == n) next.add(r.a);
            }
        }
        long set = 0;
        if (what == 0) {
            for (int v : valves) set += 1L << v;
        } else if (what == 1) {
            for (int n = 0; n < nodes; n++) set += wetNodes.contains(n) || !reached.contains(n) ? 1L << n : 0;
        } else {
            for (int h = 0; h < houses.size(); h++) {
                int n = houses.get(h).node;
                set += wetNodes.contains(n) || !reached.contains(n) ? 1L << h : 0;
            }
        }
        return set;
    }

    int isolate(int p) {
        if (noPipe(p)) return -2;
        if (pipes.get(p).burst) return -7;
        long valves = cut(p, 0);
        pipes.get(p).burst = true;
        int changed = 0;
        for (int i = 0; i < 40; i++) {
            if ((valves >> i & 1) == 1 && valve(i / 2, i % 2, true)) changed++;
        }
        return changed;
    }

    /** The least cost from hour k on with its levels behind; null: it can't be. */
    private List<Long> bestPlan(long[] needs, int k, long level, Map<Long, List<Long>> known) {
        if (k == needs.length) return List.of(0L);
        long key = k * 10000000L + level;
        if (known.containsKey(key)) return known.get(key);
        List<Long> best = null;
        for (long to = 0; to <= holds; to += step) {
            long x = needs[k] + to - level;
            if (x < 0) continue;
            hour += k;
            long[] r = raise(x);
            hour -= k;
            if (r[0] + r[1] != x) continue;
            List<Long> rest = bestPlan(needs, k + 1, to, known);
            if (rest == null || best != null && best.get(0) <= r[2] + rest.get(0)) continue;
            best = new ArrayList<>();
            best.add(r[2] + rest.get(0));
            best.add(to);
            best.addAll(rest.subList(1, rest.size()));
        }
        known.put(key, best);
        return best;
    }

    long plan(int place) {
        int bad = badRow(place, 1, 24, 0, 800000);
        if (bad != 0) return bad;
        List<Long> best = bestPlan(rows[place], 0, stored / step * step, new HashMap<>());
        plan = null;
        if (best == null) return -1;
        planned = best.subList(1, best.size());
        plan = new TreeMap<>();
        for (int i = 0; i < planned.size(); i++) plan.put(hour + i, planned.get(i));
        return best.get(0);
    }

    int planned(int k) {
        return k < 0 || k >= planned.size() ? -1 : (int) (long) planned.get(k);
    }

    int meter(int p, int end, int h, int units) {
        if (noPipe(p) || end < 0 || end > 1 || h < 0 || h > hour || units < 0 || units > 1000) return -2;
        if (facts.size() == 200) return -3;
        facts.add(new int[] {p, end, h, units});
        return facts.size() - 1;
    }

    int leak(int p, int n, int drift, int what) {
        if (noPipe(p) || n < 0 || n > facts.size() || drift < 0 || drift > 50 || what < 0 || what > 1) return -2;
        Map<Integer, Integer> a = new TreeMap<>(), b = new TreeMap<>();
        for (int[] f : facts.subList(0, n)) {
            if (f[0] == p) (f[1] == 0 ? a : b).put(f[2], f[3]);
        }
        a.keySet().retainAll(b.keySet());
        if (a.isEmpty()) return -1;
        int low = -7, high = -7;
        for (int x = 0; x <= 1000; x++) {
            boolean fits = true;
            for (int h : a.keySet()) fits &= Math.abs(Math.abs(a.get(h) - b.get(h)) - x) <= 2 * drift;
            if (fits && low == -7) low = x;
            if (fits) high = x;
        }
        return what == 0 ? low : high;
    }

    int unit(int p, int k, int what) {
        if (noPipe(p) || k < 0 || k >= pipes.get(p).length || what < 0 || what > 1) return -1;
        return what == 0 ? pipes.get(p).out.get(k) : pipes.get(p).back.get(k);
    }

    int houseOf(int i, int what) {
        if (i < 0 || i >= houses.size() || what < 0 || what > 5) return -2;
        House h = houses.get(i);
        return new int[] {h.node, h.size, h.rank, h.units, (int) h.warm, h.coldHours}[what];
    }

    long sums(int i, int what) {
        if (i < 0 || i >= houses.size() || what < 0 || what > 3) return -2;
        House h = houses.get(i);
        return new long[] {h.used, h.cold, h.billed, h.billedLost}[what];
    }

    int pipeOf(int i, int what) {
        if (noPipe(i) || what < 0 || what > 7) return -1000;
        Pipe p = pipes.get(i);
        return new int[] {p.a, p.b, p.length, p.wide, p.loss, p.open() ? 1 : 0, p.burst ? 1 : 0, p.lastFlow}[what];
    }

    long sum(int what) {
        if (what < 0 || what > 7) return 0;
        if (what < 6) return sums[what];
        if (what == 7) return stored;
        long all = 0;
        for (Pipe p : pipes) {
            for (int w : p.out) all += w;
            for (int w : p.back) all += w;
        }
        return all;
    }

    int count(int what) {
        if (what < 0 || what > 10) return -1;
        int held = 0;
        for (long[] r : rows) held += r == null ? 0 : 1;
        return new int[] {hour, nodes, pipes.size(), houses.size(), boilers.size(), rules.size(), tape.length(),
            (int) airNow(), facts.size(), held, sendWas}[what];
    }

    int row(int place, int width, int n) {
        if (place < 0 || place > 3 || width < 0 || width > 3 || n > 60) return -2;
        if (n < 0) return -3;
        rows[place] = new long[n];
        widths[place] = width;
        return 0;
    }

    boolean tear(int place) {
        if (place < 0 || place > 3 || rows[place] == null) return false;
        rows[place] = null;
        return true;
    }

    int write(int place, int i, long v) {
        if (place < 0 || place > 3) return -2;
        if (rows[place] == null) return -5;
        if (i < 0 || i >= rows[place].length) return -6;
        int unused = 64 - (8 << widths[place]);
        rows[place][i] = v << unused >> unused;
        return 0;
    }

    int paste(int place, int i, int to, int k, int n) {
        if (place < 0 || place > 3 || to < 0 || to > 3) return -2;
        if (rows[place] == null || rows[to] == null) return -5;
        if (widths[place] != widths[to]) return -7;
        if (i < 0 || k < 0 || n < 0 || (long) i + n > rows[place].length || (long) k + n > rows[to].length) return -6;
        long[] were = rows[place].clone();
        for (int x = 0; x < n; x++) rows[to][k + x] = were[i + x];
        return 0;
    }
}
