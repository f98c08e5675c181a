import java.util.ArrayList;
import java.util.Arrays;

/**
 * Small registers with few wants, so that rings of three and four collectors come up often. The
 * ring that is ready is compared with the least one of all rows of collectors and coins that are
 * rings. After it was swapped the next one is compared, until there is none.
 */
public final class RingTest {
    private static final int RUNS = 6000;
    private static final int COLLECTORS = 8;
    private static final int DIES = 16;
    private static final int[] VALUES = {100, 200, 500, 1000};
    private static final int[] FAIRNESS = {0, 0, 0, 10, 25, 50, 100};
    private static final int[] LENGTHS = {3, 3, 4, 4, 4, 4, 5};

    private static long seed = 20261119;
    private static final int[] ringsOfLength = new int[5];

    private RingTest() {
    }

    public static void main(String[] args) {
        for (int run = 0; run < RUNS; run++) {
            new Trial(run).run();
        }
        System.out.println("none: " + ringsOfLength[0] + ", rings of 2, 3, 4: " + ringsOfLength[2]
                + ", " + ringsOfLength[3] + ", " + ringsOfLength[4]);
        for (int length = 0; length <= 4; length++) {
            Check.yes(length + " came often", length == 1 || ringsOfLength[length] > 500);
        }
        Check.end();
    }

    /** A number from 0 to bound - 1, always the same ones in the same order. */
    private static int pick(int bound) {
        seed = seed * 6364136223846793005L + 1442695040888963407L;
        return (int) ((seed >>> 33) % bound);
    }

    /** A register, and beside it what was done to it. */
    private static final class Trial {
        private final int number;
        private final DieRegister x = new DieRegister();
        private final int dies = 6 + pick(DIES - 5);
        private final int collectors = 4 + pick(COLLECTORS - 3);
        private final int[] type = new int[DIES];
        private final int[] struckOf = new int[DIES];
        private final int[] fairness = new int[COLLECTORS];
        private final boolean[][] wants = new boolean[COLLECTORS][DIES];
        private final ArrayList<Integer> dieOf = new ArrayList<>();
        private final ArrayList<Integer> ownerOf = new ArrayList<>();
        private final ArrayList<Boolean> isMarked = new ArrayList<>();
        private final ArrayList<int[]> swapped = new ArrayList<>();
        private int[] least = {};

        Trial(int number) {
            this.number = number;
        }

        void run() {
            addDies();
            giveCoins();
            addWants();
            findLeast();
            while (least.length > 0) {
                compareRing();
                swap();
                findLeast();
            }
            compareRing();
            Check.badState("run " + number + ", without a ring", x::swap);
            compareSwaps();
        }

        private void addDies() {
            // Runs of one type alone have prices that are alike, those of many seldom fair ones.
            int types = 1 + pick(4);
            for (int die = 0; die < dies; die++) {
                type[die] = pick(types);
                x.addDie(type[die]);
            }
            for (int c = 0; c < COLLECTORS; c++) {
                fairness[c] = FAIRNESS[pick(FAIRNESS.length)];
                x.setFairness(c, fairness[c]);
            }
        }

        private void giveCoins() {
            for (int i = 0; i < 2 * collectors; i++) {
                // Mostly dies that few others own coins of, so that not every round is short.
                int die = pick(4) > 0 ? i % dies : pick(dies);
                int owner = pick(COLLECTORS - collectors + 1) + pick(collectors);
                dieOf.add(die);
                ownerOf.add(owner);
                isMarked.add(pick(8) > 0);
                struckOf[die]++;
                x.strike(die, 1);
                if (countOwned(owner) > 10) {
                    ownerOf.set(i, -1);
                    isMarked.set(i, false);
                } else {
                    x.give(i, owner);
                    x.mark(i, isMarked.get(i));
                }
            }
        }

        private int countOwned(int collector) {
            int count = 0;
            for (int owner : ownerOf) {
                count += owner == collector ? 1 : 0;
            }
            return count;
        }

        /** Wants that close a few rounds, and some that may shorten them. */
        private void addWants() {
            int rounds = 1 + pick(2);
            for (int round = 0; round < rounds; round++) {
                wantRound(LENGTHS[pick(LENGTHS.length)]);
            }
            int strays = pick(3);
            for (int i = 0; i < strays; i++) {
                addWant(pick(COLLECTORS), pick(dies));
            }
        }

        /** Lets each of some different collectors want what the one before them gives. */
        private void wantRound(int length) {
            ArrayList<Integer> row = new ArrayList<>();
            ArrayList<Integer> givers = new ArrayList<>();
            for (int tries = 0; tries < 100 && row.size() < length; tries++) {
                int coin = pick(dieOf.size());
                int owner = ownerOf.get(coin);
                if (owner >= 0 && !givers.contains(owner) && offer(owner, dieOf.get(coin)) >= 0) {
                    row.add(coin);
                    givers.add(owner);
                }
            }
            for (int i = 0; i < row.size(); i++) {
                addWant(givers.get((i + 1) % row.size()), dieOf.get(row.get(i)));
            }
        }

        private void addWant(int collector, int die) {
            wants[collector][die] = true;
            x.want(collector, die, true);
        }

        private int price(int die) {
            return 20 * VALUES[type[die]] / (struckOf[die] + 1);
        }

        /** The coin of a die that a collector offers; -1 if there is none. */
        private int offer(int collector, int die) {
            int lowest = -1;
            int count = 0;
            boolean isAnyMarked = false;
            for (int coin = dieOf.size() - 1; coin >= 0; coin--) {
                if (dieOf.get(coin) == die && ownerOf.get(coin) == collector) {
                    lowest = coin;
                    count++;
                    isAnyMarked |= isMarked.get(coin);
                }
            }
            return count > 1 || isAnyMarked ? lowest : -1;
        }

        /** Looks at all rows; a row is collectors and coins by turns. */
        private void findLeast() {
            int[][] offers = new int[COLLECTORS][dies];
            for (int c = 0; c < COLLECTORS; c++) {
                for (int die = 0; die < dies; die++) {
                    offers[c][die] = offer(c, die);
                }
            }
            least = new int[0];
            for (int length = 4; length >= 2; length--) {
                fill(new int[2 * length], 0, offers);
            }
        }

        private void fill(int[] row, int filled, int[][] offers) {
            if (filled == row.length) {
                if (isRing(row) && (least.length == 0 || isBefore(row, least))) {
                    least = row.clone();
                }
                return;
            }
            for (int c = COLLECTORS - 1; c >= 0; c--) {
                for (int die = dies - 1; die >= 0; die--) {
                    if (offers[c][die] >= 0) {
                        row[filled] = c;
                        row[filled + 1] = offers[c][die];
                        fill(row, filled + 2, offers);
                    }
                }
            }
        }

        private boolean isRing(int[] row) {
            for (int i = 0; i < row.length; i += 2) {
                int getter = (i + 2) % row.length;
                int got = dieOf.get(row[i + 1]);
                int given = dieOf.get(row[getter + 1]);
                if (i > 0 && row[i] <= row[0] || !wants[row[getter]][got]
                        || price(got) * 100 < fairness[row[getter]] * price(given)) {
                    return false;
                }
                for (int k = 0; k < i; k += 2) {
                    if (row[k] == row[i]) {
                        return false;
                    }
                }
            }
            return true;
        }

        private boolean isBefore(int[] a, int[] b) {
            if (a.length != b.length) {
                return a.length < b.length;
            }
            for (int i = 0; i < a.length; i += 2) {
                if (a[i] != b[i]) {
                    return a[i] < b[i];
                }
                int dieOfA = dieOf.get(a[i + 1]);
                int dieOfB = dieOf.get(b[i + 1]);
                if (dieOfA != dieOfB) {
                    return dieOfA < dieOfB;
                }
            }
            return false;
        }

        private void compareRing() {
            String what = "run " + number + " after " + swapped.size() + " swaps, due is "
                    + Arrays.toString(least);
            int length = least.length / 2;
            ringsOfLength[length]++;
            Check.same(what + ", ring", length, x.ring());
            for (int place = 0; place < length && place < x.ring(); place++) {
                Check.same(what + ", place " + place, told(least, place), x.ringAt(place));
            }
            Check.outOfBounds(what + ", after the last", () -> x.ringAt(length));
        }

        private static int told(int[] row, int place) {
            return 1000 * row[2 * place] + row[2 * place + 1];
        }

        private void swap() {
            for (int i = 0; i < least.length; i += 2) {
                int getter = least[(i + 2) % least.length];
                int coin = least[i + 1];
                ownerOf.set(coin, getter);
                isMarked.set(coin, false);
                wants[getter][dieOf.get(coin)] = false;
            }
            Check.same("run " + number + ", swap", least.length / 2, x.swap());
            swapped.add(least);
        }

        private void compareSwaps() {
            Check.same("run " + number + ", swaps", swapped.size(), x.swaps());
            for (int swap = 0; swap < swapped.size(); swap++) {
                int[] row = swapped.get(swap);
                for (int place = 0; place < row.length / 2; place++) {
                    Check.same("run " + number + ", swap " + swap, told(row, place),
                            x.swapAt(swap, place));
                }
            }
            for (int coin = 0; coin < ownerOf.size(); coin++) {
                Check.same("run " + number + ", owner", ownerOf.get(coin), x.owner(coin));
            }
        }
    }
}
