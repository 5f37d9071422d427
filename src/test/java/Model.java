import java.util.ArrayList;
import java.util.Arrays;
import java.util.Comparator;
import java.util.List;
import java.util.Map;
import java.util.NoSuchElementException;
import java.util.HashMap;

/** The document once more, as slow and as plain as can be, to be run beside LakeBreath. */
final class Model {
    static final int NONE = -1;
    static final int NO_NUMBER = Integer.MIN_VALUE;

    /** A call is refused. */
    static final class Refused extends RuntimeException {
        private static final long serialVersionUID = 1;
        final int trouble;

        Refused(int trouble) {
            this.trouble = trouble;
        }
    }

    static final class MPipe {
        int number;
        int lake;
        int layer;
        int flow;
        int lift;
        boolean runs;
        int off;
        int times;

        MPipe copy() {
            MPipe c = new MPipe();
            c.number = number;
            c.lake = lake;
            c.layer = layer;
            c.flow = flow;
            c.lift = lift;
            c.runs = runs;
            return c;
        }
    }

    static final class MLake {
        int[][] water = new int[10][3];
        Map<Integer, Integer> told = new HashMap<>();
        List<MPipe> pipes = new ArrayList<>();
        int[] led = new int[4];
        int cloud;

        int weight(int i) {
            return 4 * water[i][2] - water[i][1] + water[i][0] / 50;
        }

        int holds(int i) {
            int h = told.get(0) * (i + 1) - told.get(1);
            return h < 0 ? 0 : h;
        }

        int share(int i, int gas) {
            if (gas == 0) {
                return 0;
            }
            if (holds(i) == 0) {
                return 999;
            }
            long share = gas * 100L / holds(i);
            return share > 999 ? 999 : (int) share;
        }

        int full() {
            int most = 0;
            for (int i = 0; i < 10; i++) {
                most = Math.max(most, share(i, water[i][0]));
            }
            return most;
        }

        MLake copy() {
            MLake c = new MLake();
            for (int i = 0; i < 10; i++) {
                c.water[i] = water[i].clone();
            }
            c.told.putAll(told);
            for (MPipe p : pipes) {
                c.pipes.add(p.copy());
            }
            return c;
        }

        void mix(int upper) {
            for (int k = 0; k < 3; k++) {
                int sum = water[upper][k] + water[upper + 1][k];
                water[upper][k] = sum / 2;
                water[upper + 1][k] = sum - sum / 2;
            }
        }

        boolean day() {
            water[9][0] += told.get(2);
            led[0] += told.get(2);
            if (water[9][0] > 100000) {
                led[2] += water[9][0] - 100000;
                water[9][0] = 100000;
            }
            for (MPipe p : pipes) {
                if (p.runs && water[p.layer][0] < p.lift) {
                    p.runs = false;
                }
                if (p.runs) {
                    int off = (int) (water[p.layer][0] * (long) p.flow / 1000);
                    water[p.layer][0] -= off;
                    p.off += off;
                    led[1] += off;
                }
            }
            int by = told.get(3);
            for (int i = 9; i >= 1; i--) {
                if (water[i][0] > water[i - 1][0]) {
                    int up = (water[i][0] - water[i - 1][0]) / by;
                    water[i][0] -= up;
                    water[i - 1][0] += up;
                }
            }
            int away = water[0][0] / by;
            water[0][0] -= away;
            led[2] += away;
            for (int times = 0; times < 200; times++) {
                int at = 0;
                while (at < 9 && weight(at + 1) >= weight(at)) {
                    at++;
                }
                if (at == 9) {
                    break;
                }
                mix(at);
            }
            for (int k = 9; k >= 0; k--) {
                if (water[k][0] > holds(k)) {
                    int gone = 0;
                    for (int i = 0; i <= k; i++) {
                        gone += water[i][0];
                        water[i][0] = 0;
                    }
                    cloud = gone;
                    led[3] += gone;
                    return true;
                }
            }
            return false;
        }
    }

    static final class Note {
        final int lake;
        final int layer;
        final int day;
        final int gas;

        Note(int lake, int layer, int day, int gas) {
            this.lake = lake;
            this.layer = layer;
            this.day = day;
            this.gas = gas;
        }
    }

    static final class MVillage {
        int cell;
        int folk;
        boolean away;
    }

    final MLake[] lakes = {new MLake(), new MLake()};
    final List<MPipe> pipes = new ArrayList<>();
    final List<Note> readings = new ArrayList<>();
    final List<Note> soundings = new ArrayList<>();
    final StringBuilder tape = new StringBuilder();
    final List<ModelRule> rules = new ArrayList<>();
    final int[] heights = new int[400];
    final int[] landNumbers = {20, 100, 5};
    int[] arrival;
    final List<MVillage> villages = new ArrayList<>();
    int[] planned = {};
    int today;
    int crew = -2;
    int bursts;
    int wind;
    int trouble;
    int fault;
    int where = NONE;

    Model() {
        for (int l = 0; l < 2; l++) {
            lakes[l].told.putAll(Map.of(0, 1000, 1, 0, 2, 0, 3, 10, 4, l == 0 ? 0 : 399));
        }
    }

    // ---- refusals

    private static void need(boolean so, int trouble) {
        if (!so) {
            throw new Refused(trouble);
        }
    }

    private static boolean in(int v, int low, int high) {
        return low <= v && v <= high;
    }

    private static boolean isLayer(int lake, int layer) {
        return in(lake, 0, 1) && in(layer, 0, 9);
    }

    /** Answers a call: those that tell numbers of trouble have their names here. */
    long call(String name, int[] a) {
        boolean tells = Arrays.asList("layer", "set", "until", "pipe", "move", "start", "plan", "check", "rule",
                "repeal", "wind", "reading", "sounding", "height", "land", "runOut", "village", "climb", "lost",
                "moved", "pass").contains(name);
        if (!tells) {
            return ask(name, a);
        }
        try {
            long answer = tell(name, a);
            trouble = 0;
            return answer;
        } catch (Refused r) {
            trouble = r.trouble;
            switch (name) {
                case "sounding":
                    return NO_NUMBER;
                case "layer":
                case "set":
                case "move":
                case "start":
                case "repeal":
                case "wind":
                case "reading":
                case "height":
                case "land":
                case "moved":
                    return 0;
                default:
                    return NONE;
            }
        }
    }

    private long tell(String name, int[] a) {
        switch (name) {
            case "layer":
                need(isLayer(a[0], a[1]), 1);
                need(in(a[2], 0, 100000) && in(a[3], 0, 400) && in(a[4], 0, 1000), 2);
                lakes[a[0]].led[0] += a[2] - lakes[a[0]].water[a[1]][0];
                lakes[a[0]].water[a[1]] = new int[] {a[2], a[3], a[4]};
                return 1;
            case "set": {
                need(in(a[0], 0, 1) && in(a[1], 0, 4), 1);
                int[][] bounds = {{1, 10000}, {0, 20000}, {0, 10000}, {2, 1000}, {0, 399}};
                need(in(a[2], bounds[a[1]][0], bounds[a[1]][1]), 2);
                lakes[a[0]].told.put(a[1], a[2]);
                return 1;
            }
            case "until":
                return until(a[0], a[1]);
            case "pipe":
                return pipe(a);
            case "move":
                return move(a[0], a[1]);
            case "start": {
                need(in(a[0], 0, pipes.size() - 1), 1);
                MPipe p = pipes.get(a[0]);
                need(!p.runs, 5);
                need((crew == -2 || crew == p.lake) && says(p.lake, 2), 6);
                crew = p.lake;
                p.runs = true;
                return 1;
            }
            case "plan":
                return plan(a[0], a[1]);
            case "check":
                return check(a);
            case "rule":
                return rule(a[0]);
            case "repeal":
                need(in(a[0], 0, rules.size() - 1), 1);
                rules.remove(a[0]);
                return 1;
            case "wind":
                need(in(a[0], 0, 99), 2);
                wind = a[0];
                return 1;
            case "reading":
                need(isLayer(a[0], a[1]), 1);
                need(in(a[2], 0, 100000), 2);
                need(readings.size() < 300, 3);
                readings.add(new Note(a[0], a[1], today, a[2]));
                return 1;
            case "sounding":
                need(isLayer(a[0], a[1]), 1);
                need(in(a[2], 0, 100000), 2);
                need(latest(readings, a[0], a[1], today, today) != null, 5);
                need(soundings.size() < 60, 3);
                soundings.add(new Note(a[0], a[1], today, a[2]));
                return a[2] - latest(readings, a[0], a[1], today, today).gas;
            default:
                return tellLand(name, a);
        }
    }

    private long tellLand(String name, int[] a) {
        switch (name) {
            case "height":
                need(in(a[0], 0, 399), 1);
                need(in(a[1], 0, 999), 2);
                heights[a[0]] = a[1];
                return 1;
            case "land": {
                int[][] bounds = {{0, 200}, {1, 10000}, {1, 50}};
                need(in(a[0], 0, 2), 1);
                need(in(a[1], bounds[a[0]][0], bounds[a[0]][1]), 2);
                landNumbers[a[0]] = a[1];
                return 1;
            }
            case "runOut":
                need(in(a[0], 0, 1), 1);
                need(in(a[1], 0, 1000000), 2);
                return runOut(lakes[a[0]].told.get(4), a[1]);
            case "village": {
                need(in(a[0], 0, 399), 1);
                need(in(a[1], 1, 9999), 2);
                need(villages.size() < 20, 3);
                MVillage v = new MVillage();
                v.cell = a[0];
                v.folk = a[1];
                villages.add(v);
                return villages.size() - 1;
            }
            case "climb":
                need(in(a[0], 0, villages.size() - 1) && arrival != null, 1);
                need(in(a[1], 0, 500), 2);
                return climb(villages.get(a[0]).cell, a[1]);
            case "lost": {
                need(arrival != null, 1);
                need(in(a[0], 0, 500), 2);
                int folk = 0;
                for (MVillage v : villages) {
                    folk += !v.away && climb(v.cell, a[0]) == -2 ? v.folk : 0;
                }
                return folk;
            }
            case "moved": {
                need(in(a[0], 0, villages.size() - 1), 1);
                MVillage v = villages.get(a[0]);
                need(v.away != (a[1] == 1), 5);
                need(a[1] == 1 || may(v.cell), 6);
                v.away = a[1] == 1;
                return 1;
            }
            case "pass": {
                need(in(a[0], 1, 60) && today + a[0] <= 2999, 2);
                int count = 0;
                for (int d = 0; d < a[0]; d++) {
                    for (MLake l : lakes) {
                        count += l.day() ? 1 : 0;
                    }
                }
                today += a[0];
                bursts += count;
                crew = -2;
                return count;
            }
            default:
                throw new IllegalStateException(name);
        }
    }

    private long ask(String name, int[] a) {
        switch (name) {
            case "of":
                return of(a[0], a[1], a[2]);
            case "full":
                return !in(a[0], 0, 1) ? NONE : a[1] == 1 ? fullTold(a[0]) : lakes[a[0]].full();
            case "led":
                if (!in(a[0], 0, 1) || !in(a[1], 0, 5)) {
                    return NO_NUMBER;
                }
                if (a[1] == 4) {
                    int sum = 0;
                    for (int[] w : lakes[a[0]].water) {
                        sum += w[0];
                    }
                    return sum;
                }
                return a[1] == 5 ? lakes[a[0]].cloud : lakes[a[0]].led[a[1]];
            case "burst":
                return in(a[0], 0, 1) ? burst(a[0]) : NONE;
            case "pipeOf": {
                if (!in(a[0], 0, pipes.size() - 1) || !in(a[1], 0, 4)) {
                    return NONE;
                }
                MPipe p = pipes.get(a[0]);
                return new int[] {p.lake, p.layer, p.runs ? 1 : 0, p.off, p.times}[a[1]];
            }
            case "planned":
                if (!in(a[0], 0, planned.length - 1)) {
                    throw new NoSuchElementException();
                }
                return planned[a[0]];
            case "feed":
                if (tape.length() > 280) {
                    return NONE;
                }
                for (int v : a) {
                    tape.append((char) (v >> 24 & 255)).append((char) (v >> 16 & 255));
                    tape.append((char) (v >> 8 & 255)).append((char) (v & 255));
                }
                return tape.length();
            case "fault":
                return fault;
            case "where":
                return trouble == 4 ? where : NONE;
            case "says":
                return !in(a[0], 0, 1) || !in(a[1], 0, 2) ? NONE : says(a[0], a[1]) ? 1 : 0;
            case "may":
                return !in(a[0], 0, 399) ? NONE : may(a[0]) ? 1 : 0;
            case "known":
                return isLayer(a[0], a[1]) && in(a[2], 0, today) ? toldGas(a[0], a[1], a[2]) : NO_NUMBER;
            case "right": {
                Note r = isLayer(a[0], a[1]) ? latest(readings, a[0], a[1], a[2], a[2]) : null;
                return r == null ? NO_NUMBER : putRight(r, today);
            }
            case "arrives":
                return !in(a[0], 0, 399) || arrival == null ? NONE : arrival[a[0]];
            case "count": {
                int away = 0;
                for (MVillage v : villages) {
                    away += v.away ? 1 : 0;
                }
                int[] all = {pipes.size(), rules.size(), readings.size(), soundings.size(), villages.size(), away,
                    today, bursts, crew, tape.length()};
                return in(a[0], 0, 9) ? all[a[0]] : NONE;
            }
            case "trouble":
                return trouble;
            default:
                throw new IllegalStateException(name);
        }
    }

    // ---- lakes and pipes

    private long of(int lake, int layer, int what) {
        if (!isLayer(lake, layer) || !in(what, 0, 6)) {
            return NO_NUMBER;
        }
        MLake l = lakes[lake];
        if (what < 3) {
            return l.water[layer][what];
        }
        if (what == 3) {
            return l.weight(layer);
        }
        if (what == 4) {
            return l.holds(layer);
        }
        return what == 5 ? toldGas(lake, layer, today) : dead(lake, layer, today) ? 1 : 0;
    }

    private int burst(int lake) {
        MLake l = lakes[lake].copy();
        for (int d = 1; d <= 365; d++) {
            if (l.day()) {
                return d;
            }
        }
        return -2;
    }

    private int until(int lake, int full) {
        need(in(lake, 0, 1), 1);
        need(in(full, 1, 999), 2);
        MLake l = lakes[lake].copy();
        boolean burst = false;
        for (int d = 0; d <= 365 && !burst; d++) {
            if (l.full() >= full) {
                return d;
            }
            burst = l.day();
        }
        return -2;
    }

    private int pipe(int[] a) {
        need(isLayer(a[0], a[1]), 1);
        need(in(a[2], 1, 500) && in(a[3], 0, 100000), 2);
        need(lakes[a[0]].pipes.size() < 3, 3);
        MPipe p = new MPipe();
        p.number = pipes.size();
        p.lake = a[0];
        p.layer = a[1];
        p.flow = a[2];
        p.lift = a[3];
        pipes.add(p);
        lakes[a[0]].pipes.add(p);
        return p.number;
    }

    private int move(int pipe, int layer) {
        need(in(pipe, 0, pipes.size() - 1) && in(layer, 0, 9), 1);
        MPipe p = pipes.get(pipe);
        need(p.layer != layer, 5);
        need((crew == -2 || crew == p.lake) && says(p.lake, 2), 6);
        crew = p.lake;
        p.layer = layer;
        p.runs = false;
        p.times++;
        lakes[p.lake].mix(layer == 0 ? 0 : layer - 1);
        return 1;
    }

    private int daysOf(int lake, int share, int[] layers) {
        MLake l = lakes[lake].copy();
        for (int i = 0; i < layers.length; i++) {
            if (l.pipes.get(i).layer != layers[i]) {
                l.pipes.get(i).layer = layers[i];
                l.pipes.get(i).runs = true;
            }
        }
        for (int d = 1; d <= 60; d++) {
            if (l.day()) {
                return -2;
            }
            if (l.full() < share) {
                return d;
            }
        }
        return -2;
    }

    private int plan(int lake, int share) {
        need(in(lake, 0, 1), 1);
        need(in(share, 1, 200), 2);
        int n = lakes[lake].pipes.size();
        List<int[]> ways = new ArrayList<>();
        ways.add(new int[0]);
        for (int i = 0; i < n; i++) {
            List<int[]> longer = new ArrayList<>();
            for (int[] w : ways) {
                for (int layer = 0; layer < 10; layer++) {
                    int[] more = Arrays.copyOf(w, w.length + 1);
                    more[w.length] = layer;
                    longer.add(more);
                }
            }
            ways = longer;
        }
        List<int[]> good = new ArrayList<>();
        for (int[] w : ways) {
            int days = daysOf(lake, share, w);
            if (days != -2) {
                int moved = 0;
                for (int i = 0; i < n; i++) {
                    moved += lakes[lake].pipes.get(i).layer != w[i] ? 1 : 0;
                }
                int[] row = new int[n + 2];
                row[0] = days;
                row[1] = moved;
                System.arraycopy(w, 0, row, 2, n);
                good.add(row);
            }
        }
        if (good.isEmpty()) {
            return -2;
        }
        good.sort(Comparator.comparing((int[] r) -> r, Arrays::compare));
        planned = Arrays.copyOfRange(good.get(0), 2, n + 2);
        return good.get(0)[0];
    }

    private int check(int[] a) {
        need(in(a[0], 0, 1), 1);
        need(in(a[1], 1, 200), 2);
        int n = lakes[a[0]].pipes.size();
        for (int i = 0; i < n; i++) {
            need(in(a[2 + i], 0, 9), 2);
        }
        return daysOf(a[0], a[1], Arrays.copyOfRange(a, 2, 2 + n));
    }

    // ---- rules

    private int rule(int n) {
        need(in(n, 0, tape.length()), 2);
        String text = tape.substring(0, n);
        tape.setLength(0);
        ModelRule r = new ModelRule(text);
        fault = r.fault;
        where = r.place;
        need(fault == 0, 4);
        need(rules.size() < 16, 3);
        rules.add(r);
        return rules.size() - 1;
    }

    private Map<String, Integer> names(int lake, int height) {
        int running = 0;
        for (MPipe p : lakes[lake].pipes) {
            running += p.runs ? 1 : 0;
        }
        int dead = 0;
        for (int i = 0; i < 10; i++) {
            dead += dead(lake, i, today) ? 1 : 0;
        }
        int burst = burst(lake);
        return Map.of("full", fullTold(lake), "burst", burst == -2 ? 999 : burst, "run", running, "drop",
                lakes[lake].told.get(1), "dead", dead, "wind", wind, "lake", lake, "day", today, "height", height);
    }

    private boolean says(int lake, int what) {
        Map<String, Integer> names = names(lake, 0);
        boolean siren = false;
        boolean shut = false;
        boolean work = true;
        for (ModelRule r : rules) {
            boolean holds = r.holds(names);
            siren |= r.act.equals("siren") && holds;
            shut |= r.act.equals("shut") && holds;
            work &= !r.act.equals("work") || holds;
        }
        return what == 0 ? siren : what == 1 ? shut : work && !shut;
    }

    private boolean may(int cell) {
        for (int lake = 0; lake < 2; lake++) {
            Map<String, Integer> names = names(lake, heights[cell]);
            for (ModelRule r : rules) {
                if (r.act.equals("live") && !r.holds(names)) {
                    return false;
                }
            }
        }
        return true;
    }

    // ---- strings

    private static Note latest(List<Note> notes, int lake, int layer, int first, int last) {
        Note found = null;
        for (Note n : notes) {
            if (n.lake == lake && n.layer == layer && n.day >= first && n.day <= last) {
                found = n;
            }
        }
        return found;
    }

    private boolean dead(int lake, int layer, int day) {
        return latest(readings, lake, layer, day - 6, day) == null;
    }

    /** The DRIFT of a DAY, or null. */
    private Integer driftOf(int lake, int layer, int day) {
        Note s = latest(soundings, lake, layer, day, day);
        return s == null ? null : s.gas - latest(readings, lake, layer, day, day).gas;
    }

    private int putRight(Note r, int last) {
        Integer before = null;
        Integer behind = null;
        for (int d = 0; d <= last; d++) {
            if (driftOf(r.lake, r.layer, d) != null) {
                if (d <= r.day) {
                    before = d;
                } else if (behind == null) {
                    behind = d;
                }
            }
        }
        double drift = 0;
        if (before != null && behind != null) {
            long b = driftOf(r.lake, r.layer, before);
            long e = driftOf(r.lake, r.layer, behind);
            long top = b * (behind - r.day) + e * (r.day - before);
            long days = behind - before;
            drift = Math.floorDiv(top, days);
        } else if (before != null) {
            drift = driftOf(r.lake, r.layer, before);
        } else if (behind != null) {
            drift = driftOf(r.lake, r.layer, behind);
        }
        return (int) Math.max(0, Math.min(100000, r.gas + drift));
    }

    private int toldGas(int lake, int layer, int day) {
        return dead(lake, layer, day) ? lakes[lake].holds(layer)
                : putRight(latest(readings, lake, layer, 0, day), day);
    }

    private int fullTold(int lake) {
        int most = 0;
        for (int i = 0; i < 10; i++) {
            most = Math.max(most, lakes[lake].share(i, toldGas(lake, i, today)));
        }
        return most;
    }

    // ---- land

    private static boolean beside(int a, int b) {
        return Math.abs(a % 20 - b % 20) + Math.abs(a / 20 - b / 20) == 1;
    }

    private int runOut(int from, int amount) {
        int cells = (amount + landNumbers[1] - 1) / landNumbers[1];
        List<Integer> reached = new ArrayList<>();
        if (cells > 0) {
            reached.add(from);
        }
        while (reached.size() < cells) {
            int next = -1;
            for (int c = 0; c < 400; c++) {
                boolean can = !reached.contains(c) && heights[c] <= heights[from] + landNumbers[0]
                        && (next == -1 || heights[c] < heights[next]);
                if (can) {
                    boolean touches = false;
                    for (int r : reached) {
                        touches |= beside(r, c);
                    }
                    next = touches ? c : next;
                }
            }
            if (next == -1) {
                break;
            }
            reached.add(next);
        }
        arrival = new int[400];
        Arrays.fill(arrival, -2);
        for (int i = 0; i < reached.size(); i++) {
            arrival[reached.get(i)] = i / landNumbers[2];
        }
        return reached.size();
    }

    private int climb(int from, int minutes) {
        if (arrival[from] == -2) {
            return 0;
        }
        int[] at = new int[400];
        Arrays.fill(at, Integer.MAX_VALUE);
        at[from] = minutes;
        boolean changed = true;
        while (changed) {
            changed = false;
            for (int c = 0; c < 400; c++) {
                if (at[c] == Integer.MAX_VALUE || arrival[c] == -2 || at[c] >= arrival[c]) {
                    continue;
                }
                for (int o : new int[] {c - 20, c - 1, c + 1, c + 20}) {
                    if (o >= 0 && o < 400 && beside(c, o)) {
                        int up = heights[o] > heights[c] ? heights[o] - heights[c] : 0;
                        int t = at[c] + 2 + up / 10;
                        if (t < at[o]) {
                            at[o] = t;
                            changed = true;
                        }
                    }
                }
            }
        }
        int best = Integer.MAX_VALUE;
        for (int c = 0; c < 400; c++) {
            if (arrival[c] == -2) {
                best = Math.min(best, at[c]);
            }
        }
        return best == Integer.MAX_VALUE ? -2 : best - minutes;
    }
}
