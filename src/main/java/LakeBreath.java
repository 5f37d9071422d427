import java.util.Arrays;
import java.util.NoSuchElementException;

/** The watch of two lakes whose deep water holds gas; ../shared/DOC.md tells what each call promises. */
public final class LakeBreath {
    public static final int NONE = -1;

    private static final int NEVER = -2;
    private static final int NO_NUMBER = -2147483648;

    private static final int LAKES = 2;
    private static final int LAYERS = 10;
    private static final int PIPES = 6;
    private static final int PIPES_A_LAKE = 3;
    private static final int READINGS = 300;
    private static final int SOUNDINGS = 60;
    private static final int RULES = 16;
    private static final int TAPE = 300;
    private static final int BYTES_A_FEED = 20;
    private static final int SIDE = 20;
    private static final int CELLS = 400;
    private static final int VILLAGES = 20;
    private static final int LAST_DAY = 2999;

    private static final int MOST_GAS = 100000;
    private static final int MOST_WARMTH = 400;
    private static final int MOST_SALT = 1000;
    private static final int MOST_FULL = 999;
    private static final int MOST_FLOW = 500;
    private static final int MOST_SHARE = 200;
    private static final int MOST_AMOUNT = 1000000;
    private static final int MOST_HEIGHT = 999;
    private static final int MOST_FOLK = 9999;
    private static final int MOST_MINUTES = 500;
    private static final int MOST_WIND = 99;
    private static final int MOST_TERMS = 30;
    private static final int TURNS_A_DAY = 200;
    private static final int DAYS_AHEAD = 365;
    private static final int DAYS_OF_PLAN = 60;
    private static final int DAYS_A_PASS = 60;
    private static final int DAYS_ALIVE = 7;

    private static final int NO_SUCH = 1;
    private static final int BAD_NUMBER = 2;
    private static final int NO_ROOM = 3;
    private static final int FAULTY = 4;
    private static final int NOT_SO = 5;
    private static final int NOT_LET = 6;

    private static final int SIREN = 0;
    private static final int WORK = 1;
    private static final int SHUT = 2;
    private static final int LIVE = 3;

    private static final int NAME_FULL = 0;
    private static final int NAME_BURST = 1;
    private static final int NAME_RUN = 2;
    private static final int NAME_DROP = 3;
    private static final int NAME_DEAD = 4;
    private static final int NAME_WIND = 5;
    private static final int NAME_LAKE = 6;
    private static final int NAME_DAY = 7;
    private static final int NAME_HEIGHT = 8;
    private static final int NAMES = 9;

    // A RULE's code: below NAMES_FROM a WHOLE, below SIGNS_FROM a NAME, else a sign.
    private static final int NAMES_FROM = 10000;
    private static final int SIGNS_FROM = 20000;

    private static final int[] LAKE_LEAST = {1, 0, 0, 2, 0};
    private static final int[] LAKE_MOST = {10000, 20000, 10000, 1000, 399};
    private static final int[] LAND_LEAST = {0, 1, 1};
    private static final int[] LAND_MOST = {200, 10000, 50};

    private final Lake[] lakes = new Lake[LAKES];
    private final Lake spare = new Lake(0);
    private final Pipe[] pipes = new Pipe[PIPES];
    private int pipeCount;
    private final int[] trialLayers = new int[PIPES_A_LAKE];
    private final int[] plannedLayers = new int[PIPES_A_LAKE];
    private int plannedCount;
    private final RuleBook book = new RuleBook();
    private int windNow;
    private final Strings strings = new Strings();
    private final Country country = new Country();
    private final Village[] villages = new Village[VILLAGES];
    private int villageCount;
    private int today;
    private int crewLake = NEVER;
    private int burstsInAll;
    private int troubleNow;

    public LakeBreath() {
        for (int i = 0; i < lakes.length; i++) {
            lakes[i] = new Lake(i == 0 ? 0 : CELLS - 1);
        }
    }

    // ---- lakes

    public boolean layer(int lake, int layer, int gas, int warmth, int salt) {
        Lake water = lakeAt(lake);
        if (water == null || !isLayer(layer)) {
            return denied(NO_SUCH);
        }
        if (!isWithin(gas, 0, MOST_GAS) || !isWithin(warmth, 0, MOST_WARMTH)
                || !isWithin(salt, 0, MOST_SALT)) {
            return denied(BAD_NUMBER);
        }
        water.tellLayer(layer, gas, warmth, salt);
        return granted();
    }

    public boolean set(int lake, int what, int v) {
        Lake water = lakeAt(lake);
        if (water == null || what < 0 || what >= LAKE_LEAST.length || what >= LAKE_MOST.length) {
            return denied(NO_SUCH);
        }
        if (!isWithin(v, LAKE_LEAST[what], LAKE_MOST[what])) {
            return denied(BAD_NUMBER);
        }
        water.tellNumber(what, v);
        return granted();
    }

    public int of(int lake, int layer, int what) {
        Lake water = lakeAt(lake);
        if (water == null || !isLayer(layer)) {
            return NO_NUMBER;
        }
        switch (what) {
            case 0:
                return water.gas[layer];
            case 1:
                return water.warmth[layer];
            case 2:
                return water.salt[layer];
            case 3:
                return water.weightOf(layer);
            case 4:
                return water.holdsOf(layer);
            case 5:
                return strings.toldGas(stringOf(lake, layer), today, water.holdsOf(layer));
            case 6:
                return strings.isDead(stringOf(lake, layer), today) ? 1 : 0;
            default:
                return NO_NUMBER;
        }
    }

    public int full(int lake, boolean told) {
        Lake water = lakeAt(lake);
        if (water == null) {
            return NONE;
        }
        return told ? fullTold(lake, water) : water.fullest();
    }

    public int led(int lake, int what) {
        Lake water = lakeAt(lake);
        if (water == null) {
            return NO_NUMBER;
        }
        switch (what) {
            case 0:
                return water.sources;
            case 1:
                return water.piped;
            case 2:
                return water.air;
            case 3:
                return water.clouds;
            case 4:
                return water.gasInAll();
            case 5:
                return water.latestCloud;
            default:
                return NO_NUMBER;
        }
    }

    public int burst(int lake) {
        Lake water = lakeAt(lake);
        return water == null ? NONE : daysToBurst(water);
    }

    public int until(int lake, int full) {
        Lake water = lakeAt(lake);
        if (water == null) {
            return refused(NO_SUCH);
        }
        if (!isWithin(full, 1, MOST_FULL)) {
            return refused(BAD_NUMBER);
        }
        return answered(daysToFull(water, full));
    }

    // ---- pipes

    public int pipe(int lake, int layer, int flow, int lift) {
        Lake water = lakeAt(lake);
        if (water == null || !isLayer(layer)) {
            return refused(NO_SUCH);
        }
        if (!isWithin(flow, 1, MOST_FLOW) || !isWithin(lift, 0, MOST_GAS)) {
            return refused(BAD_NUMBER);
        }
        if (pipeCount >= pipes.length || !water.hasRoomForPipe()) {
            return refused(NO_ROOM);
        }
        Pipe made = new Pipe(lake, layer, flow, lift);
        water.addPipe(made);
        pipes[pipeCount] = made;
        pipeCount++;
        return answered(pipeCount - 1);
    }

    public int pipeOf(int pipe, int what) {
        Pipe asked = pipeAt(pipe);
        if (asked == null) {
            return NONE;
        }
        switch (what) {
            case 0:
                return asked.lake;
            case 1:
                return asked.layer;
            case 2:
                return asked.runs ? 1 : 0;
            case 3:
                return asked.letOff;
            case 4:
                return asked.moves;
            default:
                return NONE;
        }
    }

    public boolean move(int pipe, int layer) {
        Pipe told = pipeAt(pipe);
        if (told == null || !isLayer(layer)) {
            return denied(NO_SUCH);
        }
        Lake water = lakeAt(told.lake);
        if (water == null) {
            return denied(NO_SUCH);
        }
        if (told.layer == layer) {
            return denied(NOT_SO);
        }
        if (!crewMayGo(told.lake, water)) {
            return denied(NOT_LET);
        }
        crewLake = told.lake;
        told.moveTo(layer);
        water.mixPair(layer == 0 ? 1 : layer);
        return granted();
    }

    public boolean start(int pipe) {
        Pipe told = pipeAt(pipe);
        if (told == null) {
            return denied(NO_SUCH);
        }
        Lake water = lakeAt(told.lake);
        if (water == null) {
            return denied(NO_SUCH);
        }
        if (told.runs) {
            return denied(NOT_SO);
        }
        if (!crewMayGo(told.lake, water)) {
            return denied(NOT_LET);
        }
        crewLake = told.lake;
        told.runs = true;
        return granted();
    }

    public int plan(int lake, int share) {
        Lake water = lakeAt(lake);
        if (water == null) {
            return refused(NO_SUCH);
        }
        if (!isWithin(share, 1, MOST_SHARE)) {
            return refused(BAD_NUMBER);
        }
        // Fewer moves come first, so a later try must be sooner to be better.
        int best = DAYS_OF_PLAN + 1;
        for (int moves = 0; moves <= PIPES_A_LAKE && best > 1; moves++) {
            best = bestByMoves(water, share, moves, best);
        }
        return answered(best > DAYS_OF_PLAN ? NEVER : best);
    }

    public int planned(int i) throws NoSuchElementException {
        if (i < 0 || i >= plannedCount || i >= plannedLayers.length) {
            throw new NoSuchElementException();
        }
        return plannedLayers[i];
    }

    public int check(int lake, int share, int first, int second, int third) {
        Lake water = lakeAt(lake);
        if (water == null) {
            return refused(NO_SUCH);
        }
        int count = water.pipeCount;
        if (!isWithin(share, 1, MOST_SHARE) || (count > 0 && !isLayer(first))
                || (count > 1 && !isLayer(second)) || (count > 2 && !isLayer(third))) {
            return refused(BAD_NUMBER);
        }
        spare.become(water);
        spare.tryPipe(0, first);
        spare.tryPipe(1, second);
        spare.tryPipe(2, third);
        return answered(spare.daysToBelow(share, DAYS_OF_PLAN));
    }

    // ---- rules

    public int feed(int a, int b, int c, int d, int e) {
        if (!book.hasRoomOnTape()) {
            return NONE;
        }
        book.addBytes(a);
        book.addBytes(b);
        book.addBytes(c);
        book.addBytes(d);
        book.addBytes(e);
        return book.tapeLength;
    }

    public int rule(int n) {
        if (!isWithin(n, 0, book.tapeLength)) {
            return refused(BAD_NUMBER);
        }
        Rule read = book.readTape(n);
        if (read == null) {
            return refused(FAULTY);
        }
        if (!book.addRule(read)) {
            return refused(NO_ROOM);
        }
        return answered(book.ruleCount - 1);
    }

    public int fault() {
        return book.fault;
    }

    public int where() {
        return troubleNow == FAULTY ? book.faultPlace : NONE;
    }

    public boolean repeal(int rule) {
        if (!book.removeRule(rule)) {
            return denied(NO_SUCH);
        }
        return granted();
    }

    public boolean wind(int v) {
        if (!isWithin(v, 0, MOST_WIND)) {
            return denied(BAD_NUMBER);
        }
        windNow = v;
        return granted();
    }

    public int says(int lake, int what) {
        Lake water = lakeAt(lake);
        if (water == null || !isWithin(what, 0, 2)) {
            return NONE;
        }
        tellNames(lake, water, 0);
        if (what == 2) {
            return book.letsWork() ? 1 : 0;
        }
        return book.someHolds(what == 0 ? SIREN : SHUT) ? 1 : 0;
    }

    public int may(int cell) {
        if (!isCell(cell)) {
            return NONE;
        }
        return folkMayLive(cell) ? 1 : 0;
    }

    // ---- strings

    public boolean reading(int lake, int layer, int gas) {
        if (lakeAt(lake) == null || !isLayer(layer)) {
            return denied(NO_SUCH);
        }
        if (!isWithin(gas, 0, MOST_GAS)) {
            return denied(BAD_NUMBER);
        }
        if (!strings.addReading(stringOf(lake, layer), today, gas)) {
            return denied(NO_ROOM);
        }
        return granted();
    }

    public int sounding(int lake, int layer, int gas) {
        troubleNow = troubleOfSounding(lake, layer, gas);
        if (troubleNow != 0) {
            return NO_NUMBER;
        }
        return strings.addSounding(stringOf(lake, layer), today, gas);
    }

    public int known(int lake, int layer, int day) {
        Lake water = lakeAt(lake);
        if (water == null || !isLayer(layer) || !isWithin(day, 0, today)) {
            return NO_NUMBER;
        }
        return strings.toldGas(stringOf(lake, layer), day, water.holdsOf(layer));
    }

    public int right(int lake, int layer, int day) {
        if (lakeAt(lake) == null || !isLayer(layer)) {
            return NO_NUMBER;
        }
        int latest = strings.latestReading(stringOf(lake, layer), day, day);
        return latest == NONE ? NO_NUMBER : strings.putRight(latest, today);
    }

    // ---- land

    public boolean height(int cell, int v) {
        if (!isCell(cell)) {
            return denied(NO_SUCH);
        }
        if (!isWithin(v, 0, MOST_HEIGHT)) {
            return denied(BAD_NUMBER);
        }
        country.heights[cell] = v;
        return granted();
    }

    public boolean land(int what, int v) {
        if (what < 0 || what >= LAND_LEAST.length || what >= LAND_MOST.length) {
            return denied(NO_SUCH);
        }
        if (!isWithin(v, LAND_LEAST[what], LAND_MOST[what])) {
            return denied(BAD_NUMBER);
        }
        country.tellNumber(what, v);
        return granted();
    }

    public int runOut(int lake, int amount) {
        Lake water = lakeAt(lake);
        if (water == null) {
            return refused(NO_SUCH);
        }
        if (!isWithin(amount, 0, MOST_AMOUNT)) {
            return refused(BAD_NUMBER);
        }
        return answered(country.letRun(water.cell, amount));
    }

    public int arrives(int cell) {
        if (!isCell(cell) || !country.ranOut) {
            return NONE;
        }
        return country.arrival[cell];
    }

    public int village(int cell, int folk) {
        if (!isCell(cell)) {
            return refused(NO_SUCH);
        }
        if (!isWithin(folk, 1, MOST_FOLK)) {
            return refused(BAD_NUMBER);
        }
        if (villageCount >= villages.length) {
            return refused(NO_ROOM);
        }
        villages[villageCount] = new Village(cell, folk);
        villageCount++;
        return answered(villageCount - 1);
    }

    public int climb(int village, int minutes) {
        Village asked = villageAt(village);
        if (asked == null || !country.ranOut) {
            return refused(NO_SUCH);
        }
        if (!isWithin(minutes, 0, MOST_MINUTES)) {
            return refused(BAD_NUMBER);
        }
        return answered(country.minutesToSafety(asked.cell, minutes));
    }

    public int lost(int minutes) {
        if (!country.ranOut) {
            return refused(NO_SUCH);
        }
        if (!isWithin(minutes, 0, MOST_MINUTES)) {
            return refused(BAD_NUMBER);
        }
        int folk = 0;
        for (int i = 0; i < villageCount; i++) {
            Village one = villageAt(i);
            if (one != null && !one.away && country.minutesToSafety(one.cell, minutes) == NEVER) {
                folk += one.folk;
            }
        }
        return answered(folk);
    }

    public boolean moved(int village, boolean away) {
        Village told = villageAt(village);
        if (told == null) {
            return denied(NO_SUCH);
        }
        if (told.away == away) {
            return denied(NOT_SO);
        }
        if (!away && !folkMayLive(told.cell)) {
            return denied(NOT_LET);
        }
        told.away = away;
        return granted();
    }

    // ---- days

    public int pass(int days) {
        if (!isWithin(days, 1, DAYS_A_PASS) || today + days > LAST_DAY) {
            return refused(BAD_NUMBER);
        }
        int bursts = 0;
        for (int day = 0; day < days; day++) {
            bursts += goOnADay();
        }
        today += days;
        crewLake = NEVER;
        burstsInAll += bursts;
        return answered(bursts);
    }

    public int count(int what) {
        switch (what) {
            case 0:
                return pipeCount;
            case 1:
                return book.ruleCount;
            case 2:
                return strings.readings;
            case 3:
                return strings.soundings;
            case 4:
                return villageCount;
            case 5:
                return villagesAway();
            case 6:
                return today;
            case 7:
                return burstsInAll;
            case 8:
                return crewLake;
            case 9:
                return book.tapeLength;
            default:
                return NONE;
        }
    }

    public int trouble() {
        return troubleNow;
    }

    // ---- what the calls share

    private boolean denied(int number) {
        troubleNow = number;
        return false;
    }

    private boolean granted() {
        troubleNow = 0;
        return true;
    }

    private int refused(int number) {
        troubleNow = number;
        return NONE;
    }

    private int answered(int answer) {
        troubleNow = 0;
        return answer;
    }

    private static boolean isWithin(int v, int least, int most) {
        return v >= least && v <= most;
    }

    private static boolean isLayer(int layer) {
        return layer >= 0 && layer < LAYERS;
    }

    private static boolean isCell(int cell) {
        return cell >= 0 && cell < CELLS;
    }

    private static int stringOf(int lake, int layer) {
        return lake * LAYERS + layer;
    }

    private Lake lakeAt(int lake) {
        return lake >= 0 && lake < lakes.length ? lakes[lake] : null;
    }

    private Pipe pipeAt(int pipe) {
        return pipe >= 0 && pipe < pipeCount && pipe < pipes.length ? pipes[pipe] : null;
    }

    private Village villageAt(int village) {
        return village >= 0 && village < villageCount && village < villages.length ? villages[village] : null;
    }

    private int villagesAway() {
        int away = 0;
        for (int i = 0; i < villageCount; i++) {
            Village one = villageAt(i);
            if (one != null && one.away) {
                away++;
            }
        }
        return away;
    }

    private int goOnADay() {
        int bursts = 0;
        for (int i = 0; i < lakes.length; i++) {
            Lake water = lakes[i];
            if (water != null && water.goOn()) {
                bursts++;
            }
        }
        return bursts;
    }

    private int fullTold(int lake, Lake water) {
        int most = 0;
        for (int i = 0; i < LAYERS; i++) {
            int holds = water.holdsOf(i);
            most = Math.max(most, fullBy(strings.toldGas(stringOf(lake, i), today, holds), holds));
        }
        return most;
    }

    private static int fullBy(int gas, int holds) {
        if (gas <= 0) {
            return 0;
        }
        return holds <= 0 ? MOST_FULL : Math.min(MOST_FULL, gas * 100 / holds);
    }

    private int daysToBurst(Lake water) {
        spare.become(water);
        for (int day = 1; day <= DAYS_AHEAD; day++) {
            if (spare.goOn()) {
                return day;
            }
        }
        return NEVER;
    }

    private int daysToFull(Lake water, int share) {
        spare.become(water);
        for (int day = 0; day <= DAYS_AHEAD; day++) {
            if (spare.fullest() >= share) {
                return day;
            }
            if (spare.goOn()) {
                return NEVER;
            }
        }
        return NEVER;
    }

    /** The fewest DAYS by so many moves, if fewer than best, with the LAYERS of the first such try kept. */
    private int bestByMoves(Lake water, int share, int moves, int best) {
        int tries = 1;
        for (int i = 0; i < water.pipeCount; i++) {
            tries *= LAYERS;
        }
        int least = best;
        for (int trial = 0; trial < tries && least > 1; trial++) {
            spreadTrial(trial, water.pipeCount);
            if (water.movesTo(trialLayers) == moves) {
                spare.become(water);
                for (int i = 0; i < water.pipeCount && i < trialLayers.length; i++) {
                    spare.tryPipe(i, trialLayers[i]);
                }
                int days = spare.daysToBelow(share, least - 1);
                if (days != NEVER) {
                    least = days;
                    keepTrial(water.pipeCount);
                }
            }
        }
        return least;
    }

    /** The trial's digits, the first PIPE's the highest, so that tries come by the lesser LAYER of the lesser PIPE. */
    private void spreadTrial(int trial, int count) {
        int rest = trial;
        for (int i = Math.min(count, trialLayers.length) - 1; i >= 0; i--) {
            trialLayers[i] = rest % LAYERS;
            rest = rest / LAYERS;
        }
    }

    private void keepTrial(int count) {
        for (int i = 0; i < plannedLayers.length && i < trialLayers.length; i++) {
            plannedLayers[i] = trialLayers[i];
        }
        plannedCount = count;
    }

    private boolean crewMayGo(int lake, Lake water) {
        if (crewLake != NEVER && crewLake != lake) {
            return false;
        }
        tellNames(lake, water, 0);
        return book.letsWork();
    }

    private boolean folkMayLive(int cell) {
        if (!isCell(cell)) {
            return false;
        }
        for (int i = 0; i < lakes.length; i++) {
            Lake water = lakes[i];
            if (water != null) {
                tellNames(i, water, country.heights[cell]);
                if (!book.allHold(LIVE)) {
                    return false;
                }
            }
        }
        return true;
    }

    private void tellNames(int lake, Lake water, int height) {
        book.tellName(NAME_FULL, fullTold(lake, water));
        // AHEAD is dear, so it is asked only for a RULE that names it.
        if (book.names(NAME_BURST)) {
            int days = daysToBurst(water);
            book.tellName(NAME_BURST, days == NEVER ? MOST_FULL : days);
        }
        book.tellName(NAME_RUN, water.pipesRunning());
        book.tellName(NAME_DROP, water.drop);
        book.tellName(NAME_DEAD, deadStrings(lake));
        book.tellName(NAME_WIND, windNow);
        book.tellName(NAME_LAKE, lake);
        book.tellName(NAME_DAY, today);
        book.tellName(NAME_HEIGHT, height);
    }

    private int deadStrings(int lake) {
        int dead = 0;
        for (int i = 0; i < LAYERS; i++) {
            if (strings.isDead(stringOf(lake, i), today)) {
                dead++;
            }
        }
        return dead;
    }

    private int troubleOfSounding(int lake, int layer, int gas) {
        if (lakeAt(lake) == null || !isLayer(layer)) {
            return NO_SUCH;
        }
        if (!isWithin(gas, 0, MOST_GAS)) {
            return BAD_NUMBER;
        }
        if (strings.latestReading(stringOf(lake, layer), today, today) == NONE) {
            return NOT_SO;
        }
        return strings.soundings >= SOUNDINGS ? NO_ROOM : 0;
    }

    // ---- classes inside

    /** A LAKE's water and PIPES, and what was led; one more of these serves AHEAD and PLAN as a copy. */
    private static final class Lake {
        final int[] gas = new int[LAYERS];
        final int[] warmth = new int[LAYERS];
        final int[] salt = new int[LAYERS];
        final Pipe[] pipes = new Pipe[PIPES_A_LAKE];
        int pipeCount;
        int step = 1000;
        int drop;
        int source;
        int mix = 10;
        int cell;
        int sources;
        int piped;
        int air;
        int clouds;
        int latestCloud;

        Lake(int cell) {
            this.cell = cell;
        }

        void tellLayer(int layer, int newGas, int newWarmth, int newSalt) {
            if (!isLayer(layer)) {
                return;
            }
            sources += newGas - gas[layer];
            gas[layer] = newGas;
            warmth[layer] = newWarmth;
            salt[layer] = newSalt;
        }

        void tellNumber(int what, int v) {
            switch (what) {
                case 0:
                    step = v;
                    break;
                case 1:
                    drop = v;
                    break;
                case 2:
                    source = v;
                    break;
                case 3:
                    mix = v;
                    break;
                case 4:
                    cell = v;
                    break;
                default:
                    break;
            }
        }

        int weightOf(int layer) {
            if (layer < 0 || layer >= LAYERS) {
                return 0;
            }
            return 4 * salt[layer] - warmth[layer] + gas[layer] / 50;
        }

        int holdsOf(int layer) {
            return Math.max(0, step * (layer + 1) - drop);
        }

        int fullest() {
            int most = 0;
            for (int i = 0; i < LAYERS; i++) {
                most = Math.max(most, fullBy(gas[i], holdsOf(i)));
            }
            return most;
        }

        int gasInAll() {
            int sum = 0;
            for (int i = 0; i < LAYERS; i++) {
                sum += gas[i];
            }
            return sum;
        }

        boolean hasRoomForPipe() {
            return pipeCount < pipes.length;
        }

        void addPipe(Pipe made) {
            if (pipeCount >= 0 && pipeCount < pipes.length) {
                pipes[pipeCount] = made;
                pipeCount++;
            }
        }

        int pipesRunning() {
            int running = 0;
            for (int i = 0; i < pipeCount && i < pipes.length; i++) {
                Pipe one = pipes[i];
                if (one != null && one.runs) {
                    running++;
                }
            }
            return running;
        }

        int movesTo(int[] layers) {
            int moves = 0;
            for (int i = 0; i < pipeCount && i < pipes.length && i < layers.length; i++) {
                Pipe one = pipes[i];
                if (one != null && one.layer != layers[i]) {
                    moves++;
                }
            }
            return moves;
        }

        /** What is needed to go on from where another LAKE stands; its LED sums are of no matter AHEAD. */
        void become(Lake other) {
            for (int i = 0; i < LAYERS; i++) {
                gas[i] = other.gas[i];
                warmth[i] = other.warmth[i];
                salt[i] = other.salt[i];
            }
            step = other.step;
            drop = other.drop;
            source = other.source;
            mix = other.mix;
            pipeCount = other.pipeCount;
            for (int i = 0; i < pipeCount && i < pipes.length && i < other.pipes.length; i++) {
                Pipe from = other.pipes[i];
                Pipe copy = pipes[i];
                if (copy == null) {
                    copy = new Pipe(0, 0, 0, 0);
                    pipes[i] = copy;
                }
                if (from != null) {
                    copy.become(from);
                }
            }
        }

        /** Moved and started at once without stirring; one that stays goes on as it is. */
        void tryPipe(int i, int layer) {
            if (i < 0 || i >= pipeCount || i >= pipes.length) {
                return;
            }
            Pipe one = pipes[i];
            if (one != null && one.layer != layer) {
                one.layer = layer;
                one.runs = true;
            }
        }

        int daysToBelow(int share, int most) {
            for (int day = 1; day <= most; day++) {
                if (goOn()) {
                    return NEVER;
                }
                if (fullest() < share) {
                    return day;
                }
            }
            return NEVER;
        }

        /** A DAY goes by: whether there was a BURST. */
        boolean goOn() {
            takeSource();
            runPipes();
            rise();
            turnOver();
            return burstIfTooFull();
        }

        private void takeSource() {
            int there = gas[LAYERS - 1] + source;
            int over = Math.max(0, there - MOST_GAS);
            gas[LAYERS - 1] = there - over;
            sources += source;
            air += over;
        }

        private void runPipes() {
            for (int i = 0; i < pipeCount && i < pipes.length; i++) {
                Pipe one = pipes[i];
                if (one != null) {
                    piped += one.letOffFrom(gas);
                }
            }
        }

        private void rise() {
            if (mix <= 0) {
                return;
            }
            for (int i = LAYERS - 1; i >= 1; i--) {
                int up = Math.max(0, gas[i] - gas[i - 1]) / mix;
                gas[i] -= up;
                gas[i - 1] += up;
            }
            int out = gas[0] / mix;
            gas[0] -= out;
            air += out;
        }

        private void turnOver() {
            int from = 1;
            int mixed = NONE;
            for (int turn = 0; turn < TURNS_A_DAY; turn++) {
                int lighter = firstLighter(from);
                // A pair that is lighter still as soon as it is mixed stays as it is, whatever turns are left.
                if (lighter == NONE || lighter == mixed) {
                    return;
                }
                mixPair(lighter);
                mixed = lighter;
                // Of the pairs above only the next one has changed.
                from = Math.max(1, lighter - 1);
            }
        }

        private int firstLighter(int from) {
            for (int i = Math.max(1, from); i < LAYERS; i++) {
                if (weightOf(i) < weightOf(i - 1)) {
                    return i;
                }
            }
            return NONE;
        }

        void mixPair(int lower) {
            halve(gas, lower);
            halve(warmth, lower);
            halve(salt, lower);
        }

        private static void halve(int[] row, int lower) {
            if (lower < 1 || lower >= row.length) {
                return;
            }
            int both = row[lower - 1] + row[lower];
            row[lower - 1] = both / 2;
            row[lower] = both - both / 2;
        }

        private boolean burstIfTooFull() {
            int lowest = NONE;
            for (int i = 0; i < LAYERS; i++) {
                if (gas[i] > holdsOf(i)) {
                    lowest = i;
                }
            }
            if (lowest == NONE) {
                return false;
            }
            int cloud = 0;
            for (int i = 0; i <= lowest && i < LAYERS; i++) {
                cloud += gas[i];
                gas[i] = 0;
            }
            clouds += cloud;
            latestCloud = cloud;
            return true;
        }
    }

    private static final class Pipe {
        int lake;
        int layer;
        int flow;
        int lift;
        boolean runs;
        int letOff;
        int moves;

        Pipe(int lake, int layer, int flow, int lift) {
            this.lake = lake;
            this.layer = layer;
            this.flow = flow;
            this.lift = lift;
        }

        void become(Pipe other) {
            lake = other.lake;
            layer = other.layer;
            flow = other.flow;
            lift = other.lift;
            runs = other.runs;
        }

        void moveTo(int newLayer) {
            layer = newLayer;
            runs = false;
            moves++;
        }

        int letOffFrom(int[] gas) {
            if (!runs || layer < 0 || layer >= gas.length) {
                return 0;
            }
            if (gas[layer] < lift) {
                runs = false;
                return 0;
            }
            int off = gas[layer] * flow / 1000;
            gas[layer] -= off;
            letOff += off;
            return off;
        }
    }

    /** THE TAPE, the RULES, and what their NAMES are worth as they are asked. */
    private static final class RuleBook {
        private final int[] tape = new int[TAPE];
        int tapeLength;
        private final Rule[] rules = new Rule[RULES];
        int ruleCount;
        private final RuleReader reader = new RuleReader(tape);
        int fault;
        int faultPlace;
        private final int[] named = new int[NAMES];
        private final int[] stack = new int[MOST_TERMS + 1];

        boolean hasRoomOnTape() {
            return tapeLength + BYTES_A_FEED <= tape.length;
        }

        void addBytes(int four) {
            for (int shift = 24; shift >= 0; shift -= 8) {
                if (tapeLength >= 0 && tapeLength < tape.length) {
                    tape[tapeLength] = (four >>> shift) & 255;
                    tapeLength++;
                }
            }
        }

        /** The RULE that the first n bytes are, or null for a FAULT; THE TAPE is empty then. */
        Rule readTape(int n) {
            Rule read = reader.readRule(n);
            tapeLength = 0;
            fault = read == null ? reader.fault : 0;
            faultPlace = read == null ? reader.place : NONE;
            return read;
        }

        boolean addRule(Rule made) {
            if (ruleCount < 0 || ruleCount >= rules.length) {
                return false;
            }
            rules[ruleCount] = made;
            ruleCount++;
            return true;
        }

        boolean removeRule(int rule) {
            if (rule < 0 || rule >= ruleCount || ruleCount > rules.length) {
                return false;
            }
            for (int i = rule; i + 1 < ruleCount; i++) {
                rules[i] = rules[i + 1];
            }
            ruleCount--;
            rules[ruleCount] = null;
            return true;
        }

        void tellName(int name, int v) {
            if (name >= 0 && name < named.length) {
                named[name] = v;
            }
        }

        boolean names(int name) {
            for (int i = 0; i < ruleCount && i < rules.length; i++) {
                Rule one = rules[i];
                if (one != null && one.hasName(name)) {
                    return true;
                }
            }
            return false;
        }

        boolean someHolds(int act) {
            for (int i = 0; i < ruleCount && i < rules.length; i++) {
                Rule one = rules[i];
                if (one != null && one.act == act && one.holds(named, stack)) {
                    return true;
                }
            }
            return false;
        }

        boolean allHold(int act) {
            for (int i = 0; i < ruleCount && i < rules.length; i++) {
                Rule one = rules[i];
                if (one != null && one.act == act && !one.holds(named, stack)) {
                    return false;
                }
            }
            return true;
        }

        boolean letsWork() {
            return allHold(WORK) && !someHolds(SHUT);
        }
    }

    /** A RULE as a row of steps: what a step works on stands ahead of it. */
    private static final class Rule {
        final int act;
        private final int[] code;

        Rule(int act, int[] code) {
            this.act = act;
            this.code = code;
        }

        boolean hasName(int name) {
            for (int i = 0; i < code.length; i++) {
                if (code[i] == NAMES_FROM + name) {
                    return true;
                }
            }
            return false;
        }

        boolean holds(int[] named, int[] stack) {
            int top = 0;
            for (int i = 0; i < code.length; i++) {
                if (code[i] >= SIGNS_FROM) {
                    top = join(code[i] - SIGNS_FROM, stack, top);
                } else if (top < stack.length) {
                    stack[top] = worth(code[i], named);
                    top++;
                }
            }
            return top == 1 && stack.length > 0 && stack[0] != 0;
        }

        private static int worth(int step, int[] named) {
            if (step < NAMES_FROM) {
                return step;
            }
            int name = step - NAMES_FROM;
            return name < named.length ? named[name] : 0;
        }

        /** Puts a sign's answer in the place of what it works on: how many there are then. */
        private static int join(int sign, int[] stack, int top) {
            if (top > stack.length || top < 1) {
                return top;
            }
            if (sign == '!') {
                stack[top - 1] = 1 - stack[top - 1];
                return top;
            }
            if (top < 2) {
                return top;
            }
            stack[top - 2] = joined(sign, stack[top - 2], stack[top - 1]);
            return top - 1;
        }

        private static int joined(int sign, int a, int b) {
            switch (sign) {
                case '+':
                    return a + b;
                case '-':
                    return a - b;
                case '<':
                    return a < b ? 1 : 0;
                case '>':
                    return a > b ? 1 : 0;
                case '=':
                    return a == b ? 1 : 0;
                case '&':
                    return a & b;
                default:
                    return a | b;
            }
        }
    }

    /** Reads a text as a RULE, TOKEN by TOKEN, and knows the first FAULT and its place. */
    private static final class RuleReader {
        private static final int MOST_LETTERS = 8;
        private static final int MOST_DIGITS = 4;
        private static final int MOST_DEEP = 8;

        private static final int FORM = 1;
        private static final int NO_WORD = 2;
        private static final int MANY = 3;

        // Kinds of TOKENS.
        private static final int END = 0;
        private static final int NO_TOKEN = 1;
        private static final int WHOLE = 2;
        private static final int SIGN = 3;
        private static final int ACT = 4;
        private static final int NAME = 5;
        private static final int JOINT = 6;
        private static final int OTHER_WORD = 7;

        // What may come next.
        private static final int AT_ACT = 0;
        private static final int AT_IF = 1;
        private static final int AT_ONE = 2;
        private static final int AT_TERM = 3;
        private static final int BEHIND_TERM = 4;
        private static final int BEHIND_ONE = 5;
        private static final int DONE = 6;

        private final int[] text;
        private int length;
        int place;
        private int next;
        private int kind;
        private int value;
        int fault;

        private int state;
        private boolean compared;
        private int nots;
        private int open;
        private int terms;
        private int act;
        private final int[] code = new int[TAPE];
        private int codeLength;
        private final int[] waiting = new int[TAPE];
        private int waitingLength;

        RuleReader(int[] text) {
            this.text = text;
        }

        /** The RULE that the text's first n bytes are; null for a FAULT. */
        Rule readRule(int n) {
            length = Math.min(n, text.length);
            next = 0;
            fault = 0;
            state = AT_ACT;
            compared = false;
            nots = 0;
            open = 0;
            terms = 0;
            codeLength = 0;
            waitingLength = 0;
            for (int i = 0; i <= TAPE && state != DONE; i++) {
                readToken();
                if (!takeToken()) {
                    return null;
                }
            }
            return codeLength < 0 ? null : new Rule(act, Arrays.copyOf(code, codeLength));
        }

        private void readToken() {
            int at = next;
            while (at < length && byteAt(at) == ' ') {
                at++;
            }
            place = at;
            next = at + 1;
            value = byteAt(at);
            if (at >= length) {
                kind = END;
            } else if (isLetter(value)) {
                readWord();
            } else if (isDigit(value)) {
                readWhole();
            } else {
                kind = isSign(value) ? SIGN : NO_TOKEN;
            }
        }

        private int byteAt(int at) {
            return at >= 0 && at < length && at < text.length ? text[at] : 0;
        }

        private static boolean isLetter(int c) {
            return c >= 'a' && c <= 'z';
        }

        private static boolean isDigit(int c) {
            return c >= '0' && c <= '9';
        }

        private static boolean isSign(int c) {
            return isSumSign(c) || isCompareSign(c) || c == '(' || c == ')';
        }

        private static boolean isSumSign(int c) {
            return c == '+' || c == '-';
        }

        private static boolean isCompareSign(int c) {
            return c == '<' || c == '>' || c == '=';
        }

        private void readWhole() {
            value = 0;
            int at = place;
            while (at < length && isDigit(byteAt(at))) {
                if (at - place < MOST_DIGITS) {
                    value = value * 10 + byteAt(at) - '0';
                }
                at++;
            }
            next = at;
            kind = at - place > MOST_DIGITS ? NO_TOKEN : WHOLE;
        }

        private void readWord() {
            int at = place;
            while (at < length && isLetter(byteAt(at))) {
                at++;
            }
            next = at;
            if (at - place > MOST_LETTERS) {
                kind = NO_TOKEN;
                return;
            }
            kind = ACT;
            value = actSpelled();
            if (value == NONE) {
                kind = NAME;
                value = nameSpelled();
            }
            if (value == NONE) {
                kind = JOINT;
                value = jointSpelled();
            }
            if (value == NONE) {
                kind = OTHER_WORD;
            }
        }

        private int actSpelled() {
            if (spells("siren")) {
                return SIREN;
            }
            if (spells("work")) {
                return WORK;
            }
            if (spells("shut")) {
                return SHUT;
            }
            return spells("live") ? LIVE : NONE;
        }

        private int nameSpelled() {
            if (spells("full")) {
                return NAME_FULL;
            }
            if (spells("burst")) {
                return NAME_BURST;
            }
            if (spells("run")) {
                return NAME_RUN;
            }
            if (spells("drop")) {
                return NAME_DROP;
            }
            if (spells("dead")) {
                return NAME_DEAD;
            }
            if (spells("wind")) {
                return NAME_WIND;
            }
            if (spells("lake")) {
                return NAME_LAKE;
            }
            if (spells("day")) {
                return NAME_DAY;
            }
            return spells("height") ? NAME_HEIGHT : NONE;
        }

        private int jointSpelled() {
            if (spells("if")) {
                return 'i';
            }
            if (spells("and")) {
                return '&';
            }
            if (spells("or")) {
                return '|';
            }
            return spells("not") ? '!' : NONE;
        }

        private boolean spells(String word) {
            if (next - place != word.length()) {
                return false;
            }
            for (int i = 0; i < word.length(); i++) {
                if (byteAt(place + i) != word.charAt(i)) {
                    return false;
                }
            }
            return true;
        }

        private boolean is(int wantedKind, int wantedValue) {
            return kind == wantedKind && value == wantedValue;
        }

        private boolean faulty(int number) {
            fault = number;
            return false;
        }

        private boolean takeToken() {
            switch (state) {
                case AT_ACT:
                    return takeAct();
                case AT_IF:
                    return takeIf();
                case AT_ONE:
                    return takeOne();
                case AT_TERM:
                    return takeTerm();
                case BEHIND_TERM:
                    if (goesOnComparing()) {
                        return takeComparing();
                    }
                    return compared ? takeBehindOne() : faulty(FORM);
                default:
                    return takeBehindOne();
            }
        }

        private boolean takeAct() {
            if (kind == ACT) {
                act = value;
                state = AT_IF;
                return true;
            }
            return faulty(kind == NAME || kind == OTHER_WORD ? NO_WORD : FORM);
        }

        private boolean takeIf() {
            if (!is(JOINT, 'i')) {
                return faulty(FORM);
            }
            state = AT_ONE;
            return true;
        }

        private boolean takeOne() {
            compared = false;
            if (is(JOINT, '!')) {
                nots++;
                if (nots > MOST_DEEP) {
                    return faulty(MANY);
                }
                setAside('!');
                return true;
            }
            nots = 0;
            if (is(SIGN, '(')) {
                open++;
                if (open > MOST_DEEP) {
                    return faulty(MANY);
                }
                setAside('(');
                return true;
            }
            return takeTerm();
        }

        private boolean takeTerm() {
            if (kind == ACT || kind == OTHER_WORD) {
                return faulty(NO_WORD);
            }
            if (kind != WHOLE && kind != NAME) {
                return faulty(FORM);
            }
            terms++;
            if (terms > MOST_TERMS) {
                return faulty(MANY);
            }
            put(kind == NAME ? NAMES_FROM + value : value);
            state = BEHIND_TERM;
            return true;
        }

        private boolean goesOnComparing() {
            return kind == SIGN && (isSumSign(value) || (!compared && isCompareSign(value)));
        }

        private boolean takeComparing() {
            if (isCompareSign(value)) {
                compared = true;
            }
            takeJoining(AT_TERM);
            return true;
        }

        private boolean takeBehindOne() {
            if (is(JOINT, '&') || is(JOINT, '|')) {
                takeJoining(AT_ONE);
                return true;
            }
            if (is(SIGN, ')') && open > 0) {
                open--;
                putWaiting(1);
                dropWaiting();
                state = BEHIND_ONE;
                return true;
            }
            if (kind == END && open == 0) {
                putWaiting(0);
                state = DONE;
                return true;
            }
            return faulty(FORM);
        }

        private void takeJoining(int newState) {
            putWaiting(bindingOf(value));
            setAside(value);
            state = newState;
        }

        /** How closely a sign binds: one that waits is put ahead of one that binds no closer. */
        private static int bindingOf(int sign) {
            switch (sign) {
                case '(':
                    return 0;
                case '|':
                    return 1;
                case '&':
                    return 2;
                case '!':
                    return 3;
                case '<':
                case '>':
                case '=':
                    return 4;
                default:
                    return 5;
            }
        }

        private void setAside(int sign) {
            if (waitingLength >= 0 && waitingLength < waiting.length) {
                waiting[waitingLength] = sign;
                waitingLength++;
            }
        }

        private void dropWaiting() {
            if (waitingLength > 0) {
                waitingLength--;
            }
        }

        private void putWaiting(int binding) {
            while (waitingLength > 0 && waitingLength <= waiting.length
                    && bindingOf(waiting[waitingLength - 1]) >= binding) {
                put(SIGNS_FROM + waiting[waitingLength - 1]);
                waitingLength--;
            }
        }

        private void put(int step) {
            if (codeLength >= 0 && codeLength < code.length) {
                code[codeLength] = step;
                codeLength++;
            }
        }
    }

    /** READINGS and SOUNDINGS in the order in which they came, which is that of their DAYS. */
    private static final class Strings {
        private final int[] readingString = new int[READINGS];
        private final int[] readingDay = new int[READINGS];
        private final int[] readingGas = new int[READINGS];
        int readings;
        private final int[] soundingString = new int[SOUNDINGS];
        private final int[] soundingDay = new int[SOUNDINGS];
        private final int[] soundingGas = new int[SOUNDINGS];
        private final int[] soundingDrift = new int[SOUNDINGS];
        int soundings;

        boolean addReading(int string, int day, int gas) {
            if (readings < 0 || readings >= READINGS) {
                return false;
            }
            readingString[readings] = string;
            readingDay[readings] = day;
            readingGas[readings] = gas;
            readings++;
            // DRIFT is by the latest of both of a DAY, so a SOUNDING of TODAY is weighed anew.
            for (int i = 0; i < soundings && i < SOUNDINGS; i++) {
                if (soundingString[i] == string && soundingDay[i] == day) {
                    soundingDrift[i] = soundingGas[i] - gas;
                }
            }
            return true;
        }

        /** The DRIFT that the SOUNDING shows. */
        int addSounding(int string, int day, int gas) {
            int drift = gas - gasOfReading(latestReading(string, day, day));
            if (soundings >= 0 && soundings < SOUNDINGS) {
                soundingString[soundings] = string;
                soundingDay[soundings] = day;
                soundingGas[soundings] = gas;
                soundingDrift[soundings] = drift;
                soundings++;
            }
            return drift;
        }

        private int gasOfReading(int reading) {
            return reading >= 0 && reading < READINGS ? readingGas[reading] : 0;
        }

        /** The latest READING of some DAYS, by its place; NONE if there is none. */
        int latestReading(int string, int firstDay, int lastDay) {
            for (int i = Math.min(readings, READINGS) - 1; i >= 0; i--) {
                if (readingString[i] == string && readingDay[i] >= firstDay && readingDay[i] <= lastDay) {
                    return i;
                }
            }
            return NONE;
        }

        private int latestAlive(int string, int day) {
            return latestReading(string, day - DAYS_ALIVE + 1, day);
        }

        boolean isDead(int string, int day) {
            return latestAlive(string, day) == NONE;
        }

        int toldGas(int string, int day, int holds) {
            int latest = latestAlive(string, day);
            return latest == NONE ? holds : putRight(latest, day);
        }

        /** A READING PUT RIGHT by SOUNDINGS of DAYS up to one. */
        int putRight(int reading, int lastDay) {
            if (reading < 0 || reading >= READINGS) {
                return 0;
            }
            int drift = driftOn(readingString[reading], readingDay[reading], lastDay);
            return Math.max(0, Math.min(MOST_GAS, readingGas[reading] + drift));
        }

        private int driftOn(int string, int day, int lastDay) {
            int before = NONE;
            int behind = NONE;
            for (int i = 0; i < soundings && i < SOUNDINGS; i++) {
                if (soundingString[i] == string && soundingDay[i] <= lastDay) {
                    if (soundingDay[i] <= day) {
                        before = i;
                    } else if (behind == NONE || soundingDay[i] == soundingDay[behind]) {
                        behind = i;
                    }
                }
            }
            if (before == NONE) {
                return behind == NONE ? 0 : soundingDrift[behind];
            }
            int days = behind == NONE ? 0 : soundingDay[behind] - soundingDay[before];
            if (days <= 0) {
                return soundingDrift[before];
            }
            int more = soundingDrift[behind] - soundingDrift[before];
            return soundingDrift[before] + Math.floorDiv(more * (day - soundingDay[before]), days);
        }
    }

    /** The LAND: its heights, the latest RUN-OUT over it, and the ways out of that. */
    private static final class Country {
        private static final int FAR = 1000000;

        final int[] heights = new int[CELLS];
        private int rise = 20;
        private int thick = 100;
        private int speed = 5;
        final int[] arrival = new int[CELLS];
        boolean ranOut;
        private final int[] times = new int[CELLS];
        private final Heap heap = new Heap(4 * CELLS + 1);

        void tellNumber(int what, int v) {
            switch (what) {
                case 0:
                    rise = v;
                    break;
                case 1:
                    thick = v;
                    break;
                case 2:
                    speed = v;
                    break;
                default:
                    break;
            }
        }

        int letRun(int from, int amount) {
            if (!isCell(from) || thick <= 0 || speed <= 0) {
                return 0;
            }
            ranOut = true;
            int most = amount / thick + (amount % thick > 0 ? 1 : 0);
            int highest = heights[from] + rise;
            Arrays.fill(arrival, NEVER);
            Arrays.fill(times, FAR);
            heap.clear();
            offer(from, highest);
            int reached = 0;
            while (reached < most && reached < CELLS && heap.size > 0) {
                int cell = heap.takeLeast() % CELLS;
                if (isCell(cell)) {
                    arrival[cell] = reached / speed;
                }
                reached++;
                for (int side = 0; side < 4; side++) {
                    offer(beside(cell, side), highest);
                }
            }
            return reached;
        }

        /** A CELL that the gas may come to next; the lowest is taken first, of as low ones the least number. */
        private void offer(int cell, int highest) {
            if (isCell(cell) && times[cell] == FAR && heights[cell] <= highest) {
                times[cell] = 0;
                heap.add(heights[cell] * CELLS + cell);
            }
        }

        private static int beside(int cell, int side) {
            int x = cell % SIDE;
            switch (side) {
                case 0:
                    return cell - SIDE;
                case 1:
                    return x > 0 ? cell - 1 : NONE;
                case 2:
                    return x < SIDE - 1 ? cell + 1 : NONE;
                default:
                    return cell + SIDE;
            }
        }

        /** The fewest minutes to a CELL that isn't reached, for folk who start in that minute. */
        int minutesToSafety(int from, int start) {
            if (!isCell(from) || arrival[from] == NEVER) {
                return 0;
            }
            Arrays.fill(times, FAR);
            heap.clear();
            comeTo(from, start);
            for (int i = 0; i <= 4 * CELLS && heap.size > 0; i++) {
                int soonest = heap.takeLeast();
                int cell = soonest % CELLS;
                int minute = soonest / CELLS;
                if (isCell(cell) && arrival[cell] == NEVER) {
                    return minute - start;
                }
                if (isCell(cell) && minute == times[cell] && minute < arrival[cell]) {
                    leave(cell, minute);
                }
            }
            return NEVER;
        }

        private void leave(int cell, int minute) {
            for (int side = 0; side < 4; side++) {
                int other = beside(cell, side);
                if (isCell(cell) && isCell(other)) {
                    int up = Math.max(0, heights[other] - heights[cell]);
                    comeTo(other, minute + 2 + up / 10);
                }
            }
        }

        private void comeTo(int cell, int minute) {
            if (isCell(cell) && minute < times[cell]) {
                times[cell] = minute;
                heap.add(minute * CELLS + cell);
            }
        }
    }

    /** Numbers of which the least is taken first. */
    private static final class Heap {
        private static final int LEVELS = 31;

        private final int[] items;
        int size;

        Heap(int room) {
            items = new int[Math.max(1, room)];
        }

        void clear() {
            size = 0;
        }

        void add(int item) {
            if (size < 0 || size >= items.length) {
                return;
            }
            int at = size;
            size++;
            for (int level = 0; level < LEVELS && at > 0 && items[(at - 1) / 2] > item; level++) {
                items[at] = items[(at - 1) / 2];
                at = (at - 1) / 2;
            }
            items[at] = item;
        }

        int takeLeast() {
            if (size <= 0 || size > items.length) {
                return 0;
            }
            int least = items[0];
            size--;
            sink(items[size]);
            return least;
        }

        private void sink(int item) {
            int at = 0;
            int child = lesserChild(0);
            for (int level = 0; level < LEVELS && child != NONE && items[child] < item; level++) {
                items[at] = items[child];
                at = child;
                child = lesserChild(at);
            }
            items[at] = item;
        }

        private int lesserChild(int at) {
            int left = 2 * at + 1;
            if (left >= size || left + 1 > items.length) {
                return NONE;
            }
            return left + 1 < size && left + 1 < items.length && items[left + 1] < items[left] ? left + 1 : left;
        }
    }

    private static final class Village {
        final int cell;
        final int folk;
        boolean away;

        Village(int cell, int folk) {
            this.cell = cell;
            this.folk = folk;
        }
    }
}
