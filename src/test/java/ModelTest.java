import java.util.ArrayList;
import java.util.Arrays;
import java.util.TreeSet;

/**
 * Long mixed runs of calls, each answer compared with the one of a plain model that keeps no sums
 * and finds rings by comparing all of them. After a call the model and the register are compared
 * as a whole now and then, so that a call that should change nothing is seen to change nothing. An
 * object is used for at most 512 calls: the questions of such a comparison go to other objects, on
 * which the run so far is done again.
 */
public final class ModelTest {
    private static final int RUNS = 2500;
    private static final int CALLS = 512;
    private static final int WHOLE_RUNS = 150;
    private static final int WHOLE_CALLS = 400;

    private static final int OUT_OF_BOUNDS = -1001;
    private static final int BAD_ARGUMENT = -1002;
    private static final int BAD_STATE = -1003;
    private static final int MACHINE_FAULT = -1004;

    private static final int CONDEMN = 10;
    private static final int GIVE = 16;
    private static final int WANT = 17;
    private static final int FAIRNESS = 18;
    private static final int MARK = 19;
    private static final int RING = 26;
    private static final int SWAP = 28;
    private static final int CALL_COUNT = 32;

    // A few styles of run, so that rings, forgeries and full registers all come up.
    private static final int MIXED = 0;
    private static final int MANY_SWAPS = 1;
    private static final int FORGERIES = 2;
    private static final int FULL = 3;
    private static final int LONG_RINGS = 4;
    private static final int STYLES = 5;
    private static final int SOON = 60;
    private static final int LATE = 140;
    private static final int[] EARLY =
            {0, 1, 2, 2, 3, GIVE, GIVE, GIVE, WANT, WANT, WANT, MARK, MARK, FAIRNESS, 4, RING, SWAP};
    private static final int[] FORGING = {1, 2, 3, 9, CONDEMN, CONDEMN, 7, 8};
    private static final int[] TRADING =
            {GIVE, WANT, WANT, WANT, MARK, MARK, FAIRNESS, RING, 27, SWAP};

    private static long seed;
    private static final int[] ringsOfLength = new int[5];
    private static int spoiledSeen = 0;
    private static int fullSwaps = 0;
    private static int condemned = 0;

    private ModelTest() {
    }

    public static void main(String[] args) {
        for (int run = 0; run < RUNS; run++) {
            seed = run * 7919L + 12345L;
            run(run);
        }
        System.out.println("rings of 2, 3, 4: " + ringsOfLength[2] + ", " + ringsOfLength[3] + ", "
                + ringsOfLength[4] + "; condemned: " + condemned + "; spoiled: " + spoiledSeen
                + "; runs with 60 swaps: " + fullSwaps);
        for (int length = 2; length <= 4; length++) {
            Check.yes("rings of " + length + " came often", ringsOfLength[length] > 100);
        }
        Check.yes("dies were condemned often", condemned > 100);
        Check.yes("swaps were spoiled often", spoiledSeen > 100);
        Check.yes("60 swaps came", fullSwaps > 0);
        Check.end();
    }

    /** A number from 0 to bound - 1, always the same ones in the same order. */
    private static int pick(int bound) {
        seed = seed * 6364136223846793005L + 1442695040888963407L;
        return (int) ((seed >>> 33) % bound);
    }

    private static void run(int run) {
        DieRegister x = new DieRegister();
        Model m = new Model();
        Replay replay = new Replay();
        int style = run % STYLES;
        int round = 3 + run / STYLES % 2;
        for (int i = 0; i < CALLS; i++) {
            int[] args = new int[3];
            int call;
            if (style == MANY_SWAPS && i >= SOON && pick(25) > 0) {
                call = prepareSwap(i % 5, args, m);
            } else {
                call = pickCall(style, i);
                pickArguments(call, args, m, style);
                if (style == LONG_RINGS && pick(30) > 0) {
                    goRound(call, args, m, round);
                }
            }
            int due = ask(m, call, args);
            int got = ask(x, call, args);
            replay.add(call, args);
            Check.same("run " + run + ", call " + i + ": " + name(call, args), due, got);
            if ((call == RING || call == SWAP) && due > 0) {
                ringsOfLength[due]++;
            }
            if (call == CONDEMN && due >= 0) {
                condemned++;
            }
            if (run < WHOLE_RUNS && i < WHOLE_CALLS
                    && (i % 16 == 0 || due <= OUT_OF_BOUNDS && i % 4 == 0)) {
                compareAll(replay, m, "run " + run + " after call " + i);
            }
        }
        if (m.spoiled() > 0) {
            spoiledSeen++;
        }
        if (m.swaps == 60) {
            fullSwaps++;
        }
    }

    private static int pickCall(int style, int i) {
        if (i < (style == MANY_SWAPS ? SOON : LATE)) {
            return EARLY[pick(EARLY.length)];
        }
        int dice = pick(10);
        if (style == FORGERIES && dice < 5) {
            return FORGING[pick(FORGING.length)];
        }
        if (dice < 5) {
            return TRADING[pick(TRADING.length)];
        }
        return pick(CALL_COUNT);
    }

    /** The steps after which the collectors 0 and 1 can swap, over and over again. */
    private static int prepareSwap(int step, int[] args, Model m) {
        int mine = m.anyTrueCoinOf(step % 2);
        if (mine < 0) {
            args[0] = pick(Math.max(1, m.coins));
            args[1] = step % 2;
            return GIVE;
        }
        args[0] = mine;
        args[1] = 1;
        if (step < 2) {
            return MARK;
        }
        args[0] = 1 - step % 2;
        args[1] = m.coinDie[mine];
        args[2] = 1;
        return step < 4 ? WANT : SWAP;
    }

    /** Lets the collectors below a number own and want so that all of them are needed for a ring. */
    private static void goRound(int call, int[] args, Model m, int round) {
        if (call == GIVE && m.isCoin(args[0])) {
            args[1] = m.coinDie[args[0]] % round;
        }
        if (call == WANT) {
            args[0] = Math.floorMod(args[0], round);
            args[1] = (args[0] + 1) % round;
        }
        if (call == FAIRNESS) {
            args[1] = args[1] / 4;
        }
    }

    private static void pickArguments(int call, int[] args, Model m, int style) {
        int dieBound = Math.max(1, style == FULL ? m.dies : Math.min(m.dies, 6));
        int die = wild() ? pick(24) - 4 : pick(dieBound);
        int coin = wild() ? pick(170) - 10 : pick(Math.max(1, m.coins));
        int collectors = style == MANY_SWAPS ? 2 : style == MIXED ? 8 : 4;
        int collector = wild() ? pick(12) - 2 : pick(collectors);
        switch (call) {
            case 0:
                args[0] = wild() ? pick(8) - 2 : style == MANY_SWAPS ? 0 : pick(2) * pick(4);
                break;
            case 1:
                args[0] = die;
                args[1] = wild() ? pick(40) - 12 : pick(4);
                break;
            case 2:
                args[0] = die;
                args[1] = wild() ? pick(30) - 4 : 1 + pick(style == FULL ? 20 : 4);
                break;
            case 16:
                args[0] = coin;
                args[1] = collector;
                break;
            case 17:
                args[0] = collector;
                args[1] = die;
                args[2] = pick(8) == 0 ? 0 : 1;
                break;
            case 18:
                args[0] = collector;
                args[1] = wild() ? pick(140) - 20 : pick(101);
                break;
            case 19:
                args[0] = coin;
                args[1] = pick(5) == 0 ? 0 : 1;
                break;
            case 24:
                args[0] = collector;
                args[1] = pick(13) - 1;
                break;
            case 27:
                args[0] = pick(7) - 1;
                break;
            case 30:
                args[0] = pick(m.swaps + 2) - 1;
                args[1] = pick(6) - 1;
                break;
            case 3: case 4: case 6: case 7: case 12: case 15: case 20:
                args[0] = coin;
                break;
            case 21: case 22: case 23:
                args[0] = collector;
                break;
            default:
                args[0] = die;
                break;
        }
    }

    private static boolean wild() {
        return pick(14) == 0;
    }

    private static String name(int call, int[] args) {
        return "call " + call + " (" + args[0] + ", " + args[1] + ", " + args[2] + ")";
    }

    private static void compareAll(Replay x, Model m, String when) {
        int[] args = new int[3];
        for (int call : new int[] {5, 26, 29, 31}) {
            compare(x, m, call, args, when);
        }
        for (args[0] = -1; args[0] <= m.dies; args[0]++) {
            for (int call : new int[] {8, 9, 11, 13, 14}) {
                compare(x, m, call, args, when);
            }
        }
        for (args[0] = -1; args[0] <= m.coins; args[0]++) {
            for (int call : new int[] {6, 7, 12, 15, 20}) {
                compare(x, m, call, args, when);
            }
        }
        for (args[0] = -1; args[0] <= 8; args[0]++) {
            for (int call : new int[] {21, 22, 23}) {
                compare(x, m, call, args, when);
            }
            for (args[1] = -1; args[1] <= 11; args[1]++) {
                compare(x, m, 24, args, when);
            }
        }
        for (args[0] = -1; args[0] <= 4; args[0]++) {
            compare(x, m, 27, args, when);
        }
        for (args[0] = -1; args[0] <= m.swaps; args[0]++) {
            for (args[1] = -1; args[1] <= 4; args[1]++) {
                compare(x, m, 30, args, when);
            }
        }
    }

    private static void compare(Replay x, Model m, int call, int[] args, String when) {
        Check.same(when + ": " + name(call, args), ask(m, call, args), x.answer(call, args));
    }

    private static int ask(DieRegister x, int call, int[] a) {
        try {
            return answer(x, call, a);
        } catch (RuntimeException e) {
            return code(e);
        }
    }

    private static int code(RuntimeException e) {
        if (!Check.isOwn(e)) {
            Check.tell("the machine threw " + e);
            return MACHINE_FAULT;
        }
        if (e.getClass() == IndexOutOfBoundsException.class) {
            return OUT_OF_BOUNDS;
        }
        if (e.getClass() == IllegalArgumentException.class) {
            return BAD_ARGUMENT;
        }
        return e.getClass() == IllegalStateException.class ? BAD_STATE : MACHINE_FAULT;
    }

    private static int answer(DieRegister x, int call, int[] a) {
        switch (call) {
            case 0: return x.addDie(a[0]);
            case 1: return x.crack(a[0], a[1]);
            case 2: return x.strike(a[0], a[1]);
            case 3: return x.cast(a[0]);
            case 4: return x.melt(a[0]);
            case 5: return x.struck();
            case 6: return x.defects(a[0]);
            case 7: return x.couldBeOf(a[0]);
            case 8: return x.stages(a[0]);
            case 9: return x.proof(a[0]);
            case 10: return x.condemn(a[0]);
            case 11: return x.isCondemned(a[0]) ? 1 : 0;
            case 12: return x.isTrue(a[0]) ? 1 : 0;
            case 13: return x.rarity(a[0]);
            case 14: return x.rarityByCoins(a[0]);
            case 15: return x.price(a[0]);
            case 16: return x.give(a[0], a[1]);
            case 17: return x.want(a[0], a[1], a[2] != 0);
            case 18: return x.setFairness(a[0], a[1]);
            case 19: return x.mark(a[0], a[1] != 0) ? 1 : 0;
            case 20: return x.owner(a[0]);
            case 21: return x.wants(a[0]);
            case 22: return x.offers(a[0]);
            case 23: return x.worth(a[0]);
            case 24: return x.coinAt(a[0], a[1]);
            case 25: return x.struck();
            case 26: return x.ring();
            case 27: return x.ringAt(a[0]);
            case 28: return x.swap();
            case 29: return x.swaps();
            case 30: return x.swapAt(a[0], a[1]);
            default: return x.spoiled();
        }
    }

    private static int ask(Model m, int call, int[] a) {
        switch (call) {
            case 0: return m.addDie(a[0]);
            case 1: return m.crack(a[0], a[1]);
            case 2: return m.strike(a[0], a[1]);
            case 3: return m.cast(a[0]);
            case 4: return m.melt(a[0]);
            case 5: case 25: return m.coins;
            case 6: return m.isCoin(a[0]) ? m.coinDefects[a[0]] : OUT_OF_BOUNDS;
            case 7: return m.isCoin(a[0]) ? m.couldBeOf(a[0]) : OUT_OF_BOUNDS;
            case 8: return m.isDie(a[0]) ? m.stages(a[0]) : OUT_OF_BOUNDS;
            case 9: return m.isDie(a[0]) ? m.proof(a[0]) : OUT_OF_BOUNDS;
            case 10: return m.condemn(a[0]);
            case 11: return m.isDie(a[0]) ? (m.condemned[a[0]] ? 1 : 0) : OUT_OF_BOUNDS;
            case 12: return m.isCoin(a[0]) ? (m.isTrue(a[0]) ? 1 : 0) : OUT_OF_BOUNDS;
            case 13: case 14: return m.isDie(a[0]) ? m.rarity(a[0]) : OUT_OF_BOUNDS;
            case 15: return m.isCoin(a[0]) ? m.price(a[0]) : OUT_OF_BOUNDS;
            case 16: return m.give(a[0], a[1]);
            case 17: return m.want(a[0], a[1], a[2] != 0);
            case 18: return m.setFairness(a[0], a[1]);
            case 19: return m.mark(a[0], a[1] != 0);
            case 20: return m.isCoin(a[0]) ? m.owner[a[0]] : OUT_OF_BOUNDS;
            case 21: return m.isCollector(a[0]) ? m.wantSet(a[0]) : OUT_OF_BOUNDS;
            case 22: return m.isCollector(a[0]) ? m.offerSet(a[0]) : OUT_OF_BOUNDS;
            case 23: return m.isCollector(a[0]) ? m.worth(a[0]) : OUT_OF_BOUNDS;
            case 24: return m.isCollector(a[0]) ? m.coinAt(a[0], a[1]) : OUT_OF_BOUNDS;
            case 26: return m.findRing().length / 2;
            case 27: return m.ringAt(a[0]);
            case 28: return m.swap();
            case 29: return m.swaps;
            case 30: return m.swapAt(a[0], a[1]);
            default: return m.spoiled();
        }
    }

    /** A run so far, for questions that are no part of it. */
    private static final class Replay {
        private final ArrayList<int[]> calls = new ArrayList<>();
        private DieRegister x = null;
        private int used = 0;

        void add(int call, int[] args) {
            calls.add(new int[] {call, args[0], args[1], args[2]});
            x = null;
        }

        int answer(int call, int[] args) {
            if (x == null || used == CALLS) {
                x = new DieRegister();
                for (int[] row : calls) {
                    ask(x, row[0], Arrays.copyOfRange(row, 1, row.length));
                }
                used = calls.size();
            }
            used++;
            return ask(x, call, args);
        }
    }

    /** The document's terms, written down once more without care for speed. */
    private static final class Model {
        int dies = 0;
        int coins = 0;
        int swaps = 0;
        final int[] dieType = new int[16];
        final boolean[] condemned = new boolean[16];
        final boolean[][] dieHas = new boolean[16][16];
        final int[] coinDie = new int[150];
        final int[] coinDefects = new int[150];
        final int[] owner = new int[150];
        final boolean[] melted = new boolean[150];
        final boolean[] marked = new boolean[150];
        final boolean[][] wants = new boolean[8][16];
        final int[] fairness = {50, 50, 50, 50, 50, 50, 50, 50};
        final int[][] swapRows = new int[60][];
        private int[] best;

        boolean isDie(int die) {
            return die >= 0 && die < dies;
        }

        boolean isCoin(int coin) {
            return coin >= 0 && coin < coins;
        }

        boolean isCollector(int collector) {
            return collector >= 0 && collector <= 7;
        }

        int anyTrueCoinOf(int collector) {
            int start = pick(Math.max(1, coins));
            for (int i = 0; i < coins; i++) {
                int coin = (start + i) % coins;
                if (owner[coin] == collector && isTrue(coin)) {
                    return coin;
                }
            }
            return -1;
        }

        int addDie(int type) {
            if (type < 0 || type > 3) {
                return OUT_OF_BOUNDS;
            }
            if (dies == 16) {
                return BAD_STATE;
            }
            dieType[dies] = type;
            return dies++;
        }

        int crack(int die, int defect) {
            if (!isDie(die)) {
                return OUT_OF_BOUNDS;
            }
            if (defect < 0 || defect > 15) {
                return BAD_ARGUMENT;
            }
            if (dieHas[die][defect] || condemned[die]) {
                return BAD_STATE;
            }
            dieHas[die][defect] = true;
            return Integer.bitCount(set(dieHas[die]));
        }

        int set(boolean[] has) {
            int set = 0;
            for (int i = 0; i < has.length; i++) {
                if (has[i]) {
                    set += 1 << i;
                }
            }
            return set;
        }

        int strike(int die, int count) {
            if (!isDie(die)) {
                return OUT_OF_BOUNDS;
            }
            if (count < 1 || count > 20) {
                return BAD_ARGUMENT;
            }
            int before = 0;
            for (int coin = 0; coin < coins; coin++) {
                before += coinDie[coin] == die ? 1 : 0;
            }
            if (condemned[die] || before + count > 40 || coins + count > 150) {
                return BAD_STATE;
            }
            for (int i = 0; i < count; i++) {
                coinDie[coins] = die;
                coinDefects[coins] = set(dieHas[die]);
                owner[coins] = -1;
                coins++;
            }
            return coins - count;
        }

        int cast(int coin) {
            if (!isCoin(coin)) {
                return OUT_OF_BOUNDS;
            }
            if (melted[coin] || dies == 16) {
                return BAD_STATE;
            }
            dieType[dies] = dieType[coinDie[coin]];
            for (int defect = 0; defect < 16; defect++) {
                dieHas[dies][defect] = (coinDefects[coin] >> defect) % 2 == 1;
            }
            return dies++;
        }

        int melt(int coin) {
            if (!isCoin(coin)) {
                return OUT_OF_BOUNDS;
            }
            if (melted[coin]) {
                return BAD_STATE;
            }
            int before = owner[coin];
            melted[coin] = true;
            owner[coin] = -1;
            return before;
        }

        /** The lowest coin of a die with just these defects; -1 if it has no such stage. */
        int firstOfStage(int die, int defects) {
            for (int coin = 0; coin < coins; coin++) {
                if (coinDie[coin] == die && coinDefects[coin] == defects) {
                    return coin;
                }
            }
            return -1;
        }

        int couldBeOf(int coin) {
            int set = 0;
            for (int die = 0; die < dies; die++) {
                if (dieType[die] == dieType[coinDie[coin]]
                        && firstOfStage(die, coinDefects[coin]) >= 0) {
                    set += 1 << die;
                }
            }
            return set;
        }

        int stages(int die) {
            TreeSet<Integer> sets = new TreeSet<>();
            for (int coin = 0; coin < coins; coin++) {
                if (coinDie[coin] == die) {
                    sets.add(coinDefects[coin]);
                }
            }
            return sets.size();
        }

        int proof(int die) {
            int first = 0;
            while (first < coins && coinDie[first] != die) {
                first++;
            }
            if (first == coins || Integer.bitCount(coinDefects[first]) < 2) {
                return -1;
            }
            for (int other = 0; other < dies; other++) {
                int match = firstOfStage(other, coinDefects[first]);
                if (other != die && dieType[other] == dieType[die] && match >= 0 && match < first) {
                    return other;
                }
            }
            return -1;
        }

        int condemn(int die) {
            if (!isDie(die)) {
                return OUT_OF_BOUNDS;
            }
            if (condemned[die] || proof(die) < 0) {
                return BAD_STATE;
            }
            int before = rarity(die);
            condemned[die] = true;
            for (int collector = 0; collector < 8; collector++) {
                wants[collector][die] = false;
            }
            return before;
        }

        boolean isTrue(int coin) {
            return !melted[coin] && !condemned[coinDie[coin]];
        }

        int rarity(int die) {
            int count = 0;
            for (int coin = 0; coin < coins; coin++) {
                count += coinDie[coin] == die && isTrue(coin) ? 1 : 0;
            }
            return count;
        }

        int price(int coin) {
            int[] values = {100, 200, 500, 1000};
            int die = coinDie[coin];
            return isTrue(coin) ? 20 * values[dieType[die]] / (rarity(die) + 1) : 0;
        }

        int owned(int collector) {
            int count = 0;
            for (int coin = 0; coin < coins; coin++) {
                count += owner[coin] == collector ? 1 : 0;
            }
            return count;
        }

        int give(int coin, int collector) {
            if (!isCoin(coin) || !isCollector(collector)) {
                return OUT_OF_BOUNDS;
            }
            if (melted[coin] || owner[coin] >= 0 || owned(collector) == 10) {
                return BAD_STATE;
            }
            owner[coin] = collector;
            wants[collector][coinDie[coin]] = false;
            return owned(collector);
        }

        int want(int collector, int die, boolean isWanted) {
            if (!isCollector(collector) || !isDie(die)) {
                return OUT_OF_BOUNDS;
            }
            if (isWanted && condemned[die]) {
                return BAD_STATE;
            }
            wants[collector][die] = isWanted;
            return Integer.bitCount(wantSet(collector));
        }

        int setFairness(int collector, int percent) {
            if (!isCollector(collector)) {
                return OUT_OF_BOUNDS;
            }
            if (percent < 0 || percent > 100) {
                return BAD_ARGUMENT;
            }
            int before = fairness[collector];
            fairness[collector] = percent;
            return before;
        }

        int mark(int coin, boolean isMarked) {
            if (!isCoin(coin)) {
                return OUT_OF_BOUNDS;
            }
            if (owner[coin] < 0) {
                return BAD_STATE;
            }
            int before = marked[coin] ? 1 : 0;
            marked[coin] = isMarked;
            return before;
        }

        int wantSet(int collector) {
            return set(wants[collector]);
        }

        boolean isOffered(int coin) {
            if (owner[coin] < 0 || !isTrue(coin)) {
                return false;
            }
            boolean hasAnother = false;
            for (int other = 0; other < coins; other++) {
                hasAnother = hasAnother || other != coin && owner[other] == owner[coin]
                        && coinDie[other] == coinDie[coin] && isTrue(other);
            }
            return marked[coin] || hasAnother;
        }

        /** The lowest coin of a die that a collector offers; -1 if there is none. */
        int offer(int collector, int die) {
            for (int coin = 0; coin < coins; coin++) {
                if (owner[coin] == collector && coinDie[coin] == die && isOffered(coin)) {
                    return coin;
                }
            }
            return -1;
        }

        int offerSet(int collector) {
            int set = 0;
            for (int die = 0; die < dies; die++) {
                set += offer(collector, die) >= 0 ? 1 << die : 0;
            }
            return set;
        }

        int worth(int collector) {
            int sum = 0;
            for (int coin = 0; coin < coins; coin++) {
                sum += owner[coin] == collector ? price(coin) : 0;
            }
            return sum;
        }

        int coinAt(int collector, int place) {
            ArrayList<Integer> row = new ArrayList<>();
            for (int coin = 0; coin < coins; coin++) {
                if (owner[coin] == collector) {
                    row.add(coin);
                }
            }
            // The sort is stable, so that those with the same price stay in their order.
            row.sort((a, b) -> price(b) - price(a));
            return place >= 0 && place < row.size() ? row.get(place) : OUT_OF_BOUNDS;
        }

        /** The ring that is ready: a collector and a coin by turns. */
        int[] findRing() {
            best = new int[0];
            int[][] offers = new int[8][dies];
            int[] prices = new int[dies];
            for (int die = 0; die < dies; die++) {
                for (int collector = 0; collector < 8; collector++) {
                    offers[collector][die] = offer(collector, die);
                }
                int coin = 0;
                while (coin < coins && (coinDie[coin] != die || !isTrue(coin))) {
                    coin++;
                }
                prices[die] = coin < coins ? price(coin) : 0;
            }
            // From the highest ones down, so that nothing hangs on which ring is met first.
            for (int collector = 7; collector >= 0; collector--) {
                for (int die = dies - 1; die >= 0; die--) {
                    if (offers[collector][die] >= 0) {
                        goOn(new int[] {collector, offers[collector][die]}, offers, prices);
                    }
                }
            }
            return best;
        }

        private void goOn(int[] row, int[][] offers, int[] prices) {
            int lastDie = coinDie[row[row.length - 1]];
            if (row.length >= 4 && pays(row[0], lastDie, coinDie[row[1]], prices)) {
                if (best.length == 0 || isBefore(row, best)) {
                    best = row;
                }
            }
            if (row.length == 8) {
                return;
            }
            for (int collector = 7; collector > row[0]; collector--) {
                boolean isNew = true;
                for (int i = 0; i < row.length; i += 2) {
                    isNew = isNew && row[i] != collector;
                }
                for (int die = dies - 1; die >= 0 && isNew; die--) {
                    if (offers[collector][die] >= 0 && pays(collector, lastDie, die, prices)) {
                        int[] longer = Arrays.copyOf(row, row.length + 2);
                        longer[row.length] = collector;
                        longer[row.length + 1] = offers[collector][die];
                        goOn(longer, offers, prices);
                    }
                }
            }
        }

        private boolean pays(int collector, int got, int given, int[] prices) {
            return wants[collector][got]
                    && prices[got] * 100 >= fairness[collector] * prices[given];
        }

        private boolean isBefore(int[] a, int[] b) {
            if (a.length != b.length) {
                return a.length < b.length;
            }
            for (int i = 0; i < a.length; i++) {
                int x = i % 2 == 0 ? a[i] : coinDie[a[i]];
                int y = i % 2 == 0 ? b[i] : coinDie[b[i]];
                if (x != y) {
                    return x < y;
                }
            }
            return false;
        }

        int ringAt(int place) {
            int[] ring = findRing();
            return place >= 0 && place < ring.length / 2
                    ? 1000 * ring[2 * place] + ring[2 * place + 1] : OUT_OF_BOUNDS;
        }

        int swap() {
            int[] ring = findRing();
            if (ring.length == 0 || swaps == 60) {
                return BAD_STATE;
            }
            for (int i = 0; i < ring.length; i += 2) {
                int getter = ring[(i + 2) % ring.length];
                int coin = ring[i + 1];
                owner[coin] = getter;
                marked[coin] = false;
                wants[getter][coinDie[coin]] = false;
            }
            swapRows[swaps] = ring;
            swaps++;
            return ring.length / 2;
        }

        int swapAt(int swap, int place) {
            if (swap < 0 || swap >= swaps || place < 0 || place >= swapRows[swap].length / 2) {
                return OUT_OF_BOUNDS;
            }
            return 1000 * swapRows[swap][2 * place] + swapRows[swap][2 * place + 1];
        }

        int spoiled() {
            int count = 0;
            for (int swap = 0; swap < swaps; swap++) {
                boolean isSpoiled = false;
                for (int i = 1; i < swapRows[swap].length; i += 2) {
                    isSpoiled = isSpoiled || !isTrue(swapRows[swap][i]);
                }
                count += isSpoiled ? 1 : 0;
            }
            return count;
        }
    }
}
