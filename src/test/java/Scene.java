/** Rows of calls that many tests begin with. None takes more than 340 calls. */
final class Scene {
    private Scene() {
    }

    /** A die for each type given; coins are struck of each, as many as the text's digit tells. */
    static DieRegister mint(String counts, int... types) {
        DieRegister x = new DieRegister();
        for (int type : types) {
            x.addDie(type);
        }
        for (int die = 0; die < types.length; die++) {
            int count = counts.charAt(die) - '0';
            if (count > 0) {
                x.strike(die, count);
            }
        }
        return x;
    }

    /** Dies 0 and 1 with the same two defects; 0 has struck the coins 0 to 2, 1 the coins 3, 4. */
    static DieRegister forged() {
        DieRegister x = new DieRegister();
        x.addDie(1);
        x.crack(0, 3);
        x.crack(0, 7);
        x.strike(0, 3);
        x.cast(0);
        x.strike(1, 2);
        return x;
    }

    static void offer(DieRegister x, int coin, int collector) {
        x.give(coin, collector);
        x.mark(coin, true);
    }

    /** Collector 0 offers coin 0 of die 0 and wants die 1; collector 1 the other way round. */
    static DieRegister pair(int typeOfFirst, int typeOfSecond) {
        DieRegister x = mint("11", typeOfFirst, typeOfSecond);
        offer(x, 0, 0);
        offer(x, 1, 1);
        x.want(0, 1, true);
        x.want(1, 0, true);
        return x;
    }

    /** As many collectors as told; each offers what the next one wants, the last to the first. */
    static DieRegister round(int collectors) {
        DieRegister x = new DieRegister();
        for (int c = 0; c < collectors; c++) {
            x.addDie(0);
            x.strike(c, 1);
            offer(x, c, c);
        }
        for (int c = 0; c < collectors; c++) {
            x.want((c + 1) % collectors, c, true);
        }
        return x;
    }

    /**
     * Something of everything. Dies 0, 2, 3, 5 are the mint's, 1 and 4 are cast and 1 is condemned;
     * 5 has no coin. Die 0 has struck the coins 0 to 3, die 1 4 to 6, die 2 7 to 11, die 3 12 and
     * 13, die 4 14 and 15. The coins 5, 7 and 13 were melted. There was a swap, which is spoiled,
     * and the collectors 3 and 5 are ready for another one.
     */
    static DieRegister busy() {
        DieRegister x = new DieRegister();
        x.addDie(1);
        x.crack(0, 3);
        x.crack(0, 7);
        x.strike(0, 4);
        x.cast(0);
        x.strike(1, 3);
        x.addDie(3);
        x.strike(2, 5);
        x.addDie(0);
        x.crack(3, 2);
        x.strike(3, 2);
        x.cast(4);
        x.strike(4, 2);
        x.addDie(2);
        x.give(0, 0);
        x.give(1, 0);
        offer(x, 7, 1);
        x.want(0, 2, true);
        x.want(1, 0, true);
        x.setFairness(1, 20);
        x.swap();
        offer(x, 4, 2);
        x.condemn(1);
        x.melt(5);
        x.melt(7);
        x.melt(13);
        offer(x, 14, 3);
        offer(x, 12, 5);
        x.want(3, 3, true);
        x.want(5, 4, true);
        x.want(7, 5, true);
        // Wants that a coin would end if a call that is refused gave it.
        x.want(0, 0, true);
        x.want(0, 2, true);
        x.want(0, 3, true);
        x.want(1, 0, true);
        x.want(7, 0, true);
        return x;
    }

    /** 16 dies of the type 1, of which 0 was the mint's; 1 is condemned; coin 3 was melted. */
    static DieRegister fullOfDies() {
        DieRegister x = forged();
        for (int die = 2; die < 16; die++) {
            x.cast(0);
        }
        x.melt(3);
        x.condemn(1);
        return x;
    }

    /** A die that has struck 40 coins, of which the coin 0 was melted, and one with a coin. */
    static DieRegister fullDie() {
        DieRegister x = new DieRegister();
        x.addDie(2);
        x.addDie(2);
        x.strike(0, 20);
        x.strike(0, 20);
        x.strike(1, 1);
        x.melt(0);
        return x;
    }

    /** 16 dies and 150 coins: dies 0 to 14 have struck 10 each; 0 and 149 were melted. */
    static DieRegister fullOfCoins() {
        DieRegister x = new DieRegister();
        for (int die = 0; die < 16; die++) {
            x.addDie(die % 4);
        }
        for (int die = 0; die < 15; die++) {
            x.strike(die, 10);
        }
        x.melt(0);
        x.melt(149);
        return x;
    }

    /** Collector 7 owns the coins 0 to 9, 0 the coin 10; both want the die; 11 is in the mint. */
    static DieRegister fullCollector() {
        DieRegister x = new DieRegister();
        x.addDie(3);
        x.strike(0, 12);
        for (int coin = 0; coin < 10; coin++) {
            x.give(coin, 7);
        }
        x.give(10, 0);
        x.want(0, 0, true);
        x.want(7, 0, true);
        return x;
    }

    /** The collectors 0 and 1 have swapped the coins 0 and 1 as often as told, and can again. */
    static DieRegister swapped(int swaps) {
        DieRegister x = mint("11", 0, 0);
        x.give(0, 0);
        x.give(1, 1);
        for (int i = 0; i < swaps; i++) {
            makeReady(x, i);
            x.swap();
        }
        makeReady(x, swaps);
        return x;
    }

    /** Lets both collectors offer their only coin, and want the die of the other one's. */
    static void makeReady(DieRegister x, int swaps) {
        x.mark(0, true);
        x.mark(1, true);
        x.want(0, 1 - swaps % 2, true);
        x.want(1, swaps % 2, true);
    }
}
