/**
 * The answers of each promise at their ends, with a test of its own: of what is empty and of what
 * is full, of the first and of the last one, the least and the most that a call can return.
 */
public final class EdgeTest {
    private static final int NONE = DieRegister.NONE;
    private static final int ALL = 0xFFFF;

    private EdgeTest() {
    }

    public static void main(String[] args) {
        newObject();
        addDie();
        crack();
        strike();
        cast();
        melt();
        struck();
        defects();
        couldBeOf();
        stages();
        proof();
        condemn();
        isCondemned();
        isTrue();
        rarity();
        rarityByCoins();
        price();
        give();
        want();
        setFairness();
        mark();
        owner();
        wants();
        offers();
        worth();
        coinAt();
        ring();
        ringAt();
        swap();
        swaps();
        swapAt();
        spoiled();
        Check.end();
    }

    /** As many dies as told, of the type 3, each with all defects and one coin. */
    private static DieRegister alike(int dies) {
        DieRegister x = new DieRegister();
        x.addDie(3);
        for (int defect = 0; defect < 16; defect++) {
            x.crack(0, defect);
        }
        x.strike(0, 1);
        for (int die = 1; die < dies; die++) {
            x.cast(0);
            x.strike(die, 1);
        }
        return x;
    }

    /** 16 dies of the type 0 that have struck 40, 40, 40, 18 and one each. */
    private static DieRegister fullMint() {
        DieRegister x = new DieRegister();
        for (int die = 0; die < 16; die++) {
            x.addDie(0);
        }
        for (int die = 0; die < 3; die++) {
            x.strike(die, 20);
            x.strike(die, 20);
        }
        x.strike(3, 18);
        for (int die = 4; die < 16; die++) {
            x.strike(die, 1);
        }
        return x;
    }

    private static void newObject() {
        Picture.compare("two new objects", Picture.of(DieRegister::new),
                Picture.of(DieRegister::new));
        DieRegister x = new DieRegister();
        Check.same("no coin", 0, x.struck());
        Check.same("no ring", 0, x.ring());
        Check.same("no swap", 0, x.swaps());
        Check.same("none spoiled", 0, x.spoiled());
        Check.outOfBounds("no die", () -> x.stages(0));
        Check.outOfBounds("no coin", () -> x.isTrue(0));
        for (int c = 0; c < 8; c++) {
            int collector = c;
            Check.same("no wants", 0, x.wants(c));
            Check.same("no offers", 0, x.offers(c));
            Check.same("worth nothing", 0, x.worth(c));
            Check.outOfBounds("no coin", () -> x.coinAt(collector, 0));
        }
        Scene.busy();
        Check.same("objects share nothing", 0, x.struck());
        Check.same("objects share nothing", 0, x.wants(7));
        Check.same("objects share nothing", 50, x.setFairness(1, 50));
    }

    private static void addDie() {
        DieRegister x = new DieRegister();
        Check.same("the first number", 0, x.addDie(0));
        for (int die = 1; die < 15; die++) {
            x.addDie(0);
        }
        Check.same("the last number", 15, x.addDie(0));
    }

    private static void crack() {
        DieRegister x = Scene.mint("0", 0);
        Check.same("the least", 1, x.crack(0, 7));
        for (int defect = 0; defect < 15; defect++) {
            if (defect != 7) {
                x.crack(0, defect);
            }
        }
        Check.same("the most", 16, x.crack(0, 15));
        DieRegister y = Scene.forged();
        Check.same("with those of its cast", 3, y.crack(1, 15));
    }

    private static void strike() {
        DieRegister x = Scene.mint("00000", 0, 0, 0, 0, 0);
        Check.same("the first number, one coin", 0, x.strike(4, 1));
        for (int i = 0; i < 7; i++) {
            Check.same("twenty coins", 20 * i + 1, x.strike(i / 2, 20));
        }
        Check.same("eight coins", 141, x.strike(3, 8));
        Check.same("the last number", 149, x.strike(4, 1));
        Check.same("the first coin of many", NONE, x.owner(1));
        Check.same("the last coin of many", NONE, x.owner(20));
    }

    private static void cast() {
        DieRegister x = alike(15);
        Check.same("the last number, of the last coin", 15, x.cast(14));
        x.strike(15, 1);
        Check.same("all defects", ALL, x.defects(15));
        DieRegister y = Scene.mint("1", 3);
        Check.same("the least number", 1, y.cast(0));
        y.strike(1, 1);
        Check.same("no defects", 0, y.defects(1));
    }

    private static void melt() {
        DieRegister x = Scene.mint("3", 0);
        x.give(1, 0);
        x.give(2, 7);
        Check.same("in the mint", NONE, x.melt(0));
        Check.same("of the first collector", 0, x.melt(1));
        Check.same("of the last collector", 7, x.melt(2));
        Check.same("all are melted", 0, x.rarity(0));
    }

    private static void struck() {
        DieRegister x = fullMint();
        Check.same("the most", 150, x.struck());
        for (int coin = 0; coin < 150; coin++) {
            x.melt(coin);
        }
        Check.same("all are melted", 150, x.struck());
        Check.same("none", 0, new DieRegister().struck());
    }

    private static void defects() {
        DieRegister x = alike(1);
        Check.same("all", ALL, x.defects(0));
        x.melt(0);
        Check.same("all, melted", ALL, x.defects(0));
        DieRegister y = fullMint();
        Check.same("none, of the last coin", 0, y.defects(149));
    }

    private static void couldBeOf() {
        Check.same("all dies", ALL, alike(16).couldBeOf(0));
        Check.same("all dies", ALL, fullMint().couldBeOf(149));
        DieRegister x = alike(16);
        x.melt(15);
        x.condemn(14);
        Check.same("melted", ALL, x.couldBeOf(15));
        Check.same("condemned", ALL, x.couldBeOf(14));
        DieRegister y = Scene.mint("1111", 0, 1, 2, 3);
        for (int coin = 0; coin < 4; coin++) {
            Check.same("its own die alone", 1 << coin, y.couldBeOf(coin));
            y.melt(coin);
            Check.same("its own die alone, melted", 1 << coin, y.couldBeOf(coin));
        }
    }

    private static void stages() {
        DieRegister x = Scene.mint("0", 0);
        Check.same("none", 0, x.stages(0));
        x.strike(0, 20);
        Check.same("the least of a die that has struck", 1, x.stages(0));
        for (int defect = 0; defect < 16; defect++) {
            x.crack(0, defect);
            x.strike(0, 1);
        }
        Check.same("the most", 17, x.stages(0));
        for (int coin = 0; coin < 36; coin++) {
            x.melt(coin);
        }
        Check.same("all are melted", 17, x.stages(0));
    }

    private static void proof() {
        DieRegister x = alike(16);
        Check.same("none", NONE, x.proof(0));
        for (int die = 1; die < 16; die++) {
            Check.same("the first die", 0, x.proof(die));
        }
        DieRegister y = new DieRegister();
        for (int die = 0; die < 16; die++) {
            y.addDie(0);
        }
        int[] last = {15, 0};
        for (int die : last) {
            y.crack(die, 0);
            y.crack(die, 15);
            y.strike(die, 1);
        }
        Check.same("the last die", 15, y.proof(0));
        Check.same("none", NONE, y.proof(15));
    }

    private static void condemn() {
        DieRegister x = Scene.forged();
        x.strike(1, 20);
        x.strike(1, 18);
        Check.same("the most", 40, x.condemn(1));
        DieRegister y = Scene.forged();
        y.melt(3);
        y.melt(4);
        Check.same("none, all are melted", 0, y.condemn(1));
        Check.yes("none, and condemned", y.isCondemned(1));
        DieRegister z = alike(16);
        Check.same("the last die", 1, z.condemn(15));
        for (int die = 1; die < 15; die++) {
            Check.same("all but the first one", 1, z.condemn(die));
        }
        Check.badState("the first one", () -> z.condemn(0));
    }

    private static void isCondemned() {
        DieRegister x = alike(16);
        x.condemn(15);
        Check.yes("the last die", x.isCondemned(15));
        Check.no("the first die", x.isCondemned(0));
        Check.no("one that is proved only", x.isCondemned(14));
    }

    private static void isTrue() {
        DieRegister x = fullMint();
        x.melt(149);
        Check.yes("the first coin", x.isTrue(0));
        Check.yes("the last but one", x.isTrue(148));
        Check.no("the last coin, melted", x.isTrue(149));
    }

    private static void rarity() {
        DieRegister x = fullMint();
        Check.same("the most", 40, x.rarity(0));
        Check.same("the least", 1, x.rarity(15));
        x.melt(149);
        Check.same("none", 0, x.rarity(15));
        DieRegister y = Scene.forged();
        y.condemn(1);
        Check.same("none, condemned", 0, y.rarity(1));
        y.melt(3);
        Check.same("none, condemned and melted", 0, y.rarity(1));
        Check.same("none was struck", 0, Scene.mint("0", 0).rarity(0));
    }

    private static void rarityByCoins() {
        DieRegister x = fullMint();
        Check.same("the most", 40, x.rarityByCoins(0));
        Check.same("the least", 1, x.rarityByCoins(15));
        x.melt(149);
        Check.same("none", 0, x.rarityByCoins(15));
        DieRegister y = Scene.forged();
        y.condemn(1);
        Check.same("none, condemned", 0, y.rarityByCoins(1));
        y.melt(3);
        Check.same("none, condemned and melted", 0, y.rarityByCoins(1));
        Check.same("none was struck", 0, Scene.mint("0", 0).rarityByCoins(0));
    }

    private static void price() {
        Check.same("the most", 10000, Scene.mint("1", 3).price(0));
        Check.same("the least of a true one", 48, fullMint().price(0));
        DieRegister x = fullMint();
        x.melt(0);
        Check.same("none", 0, x.price(0));
        Check.same("one less of many", 50, x.price(1));
    }

    private static void give() {
        DieRegister x = Scene.fullCollector();
        x.melt(0);
        Check.same("the most", 10, x.give(11, 7));
        DieRegister y = fullMint();
        Check.same("the least, the last coin, the last collector", 1, y.give(149, 7));
        Check.same("the least, the first coin, the first collector", 1, y.give(0, 0));
    }

    private static void want() {
        DieRegister x = fullMint();
        Check.same("none, as before", 0, x.want(0, 15, false));
        for (int die = 0; die < 16; die++) {
            Check.same("one more", die + 1, x.want(0, die, true));
        }
        Check.same("the most, as before", 16, x.want(0, 15, true));
        for (int die = 15; die >= 0; die--) {
            Check.same("one less", die, x.want(0, die, false));
        }
        x.give(0, 0);
        Check.same("a die of which they own a coin", 1, x.want(0, 0, true));
    }

    private static void setFairness() {
        DieRegister x = new DieRegister();
        Check.same("at first", 50, x.setFairness(0, 100));
        Check.same("the most", 100, x.setFairness(0, 100));
        Check.same("the most, as before", 100, x.setFairness(0, 0));
        Check.same("the least", 0, x.setFairness(0, 0));
        Check.same("the least, as before", 0, x.setFairness(0, 50));
    }

    private static void mark() {
        DieRegister x = fullMint();
        x.give(0, 0);
        x.give(149, 7);
        Check.no("not yet, taken away", x.mark(0, false));
        Check.no("not yet", x.mark(0, true));
        Check.yes("as before", x.mark(0, true));
        Check.yes("taken away", x.mark(0, false));
        Check.no("taken away, as before", x.mark(0, false));
        Check.no("the last coin", x.mark(149, true));
        Check.yes("the last coin", x.mark(149, true));
    }

    private static void owner() {
        DieRegister x = fullMint();
        Check.same("in the mint", NONE, x.owner(149));
        x.give(149, 7);
        x.give(0, 0);
        Check.same("the first collector", 0, x.owner(0));
        Check.same("the last collector", 7, x.owner(149));
        x.melt(149);
        Check.same("melted", NONE, x.owner(149));
    }

    private static void wants() {
        DieRegister x = fullMint();
        Check.same("none", 0, x.wants(7));
        for (int die = 0; die < 16; die++) {
            x.want(7, die, true);
        }
        Check.same("all", ALL, x.wants(7));
        x.give(149, 7);
        Check.same("all but the last die", ALL >> 1, x.wants(7));
        x.give(0, 7);
        Check.same("all but the last and the first die", ALL >> 1 ^ 1, x.wants(7));
    }

    private static void offers() {
        DieRegister x = fullMint();
        Check.same("none", 0, x.offers(7));
        for (int coin = 140; coin < 150; coin++) {
            x.give(coin, 7);
        }
        Check.same("ten single ones", 0, x.offers(7));
        for (int coin = 140; coin < 150; coin++) {
            x.mark(coin, true);
        }
        Check.same("ten dies, the last one too", 0b1111111111 << 6, x.offers(7));
    }

    private static void worth() {
        DieRegister x = alike(10);
        Check.same("no coins", 0, x.worth(0));
        for (int coin = 0; coin < 10; coin++) {
            x.give(coin, 0);
        }
        Check.same("the most", 100000, x.worth(0));
        for (int die = 1; die < 10; die++) {
            x.condemn(die);
            Check.same("one less", 100000 - 10000 * die, x.worth(0));
        }
        x.melt(0);
        Check.same("nine false ones", 0, x.worth(0));
    }

    private static void coinAt() {
        DieRegister x = alike(11);
        for (int coin = 9; coin >= 0; coin--) {
            x.give(coin, 7);
        }
        for (int place = 0; place < 10; place++) {
            Check.same("ten of the same price", place, x.coinAt(7, place));
        }
        x.condemn(2);
        x.condemn(5);
        x.strike(0, 1);
        int[] due = {1, 3, 4, 6, 7, 8, 9, 0, 2, 5};
        for (int place = 0; place < 10; place++) {
            Check.same("three prices, false ones last", due[place], x.coinAt(7, place));
        }
        x.give(10, 0);
        Check.same("the only one", 10, x.coinAt(0, 0));
        Check.outOfBounds("after the only one", () -> x.coinAt(0, 1));
        Check.outOfBounds("after the tenth", () -> x.coinAt(7, 10));
        Check.outOfBounds("ahead of the first one", () -> x.coinAt(7, -1));
        Check.outOfBounds("of none", () -> x.coinAt(1, 0));
    }

    private static void ring() {
        int[] due = {0, 0, 2, 3, 4, 0, 0, 0, 0};
        for (int count = 0; count <= 8; count++) {
            Check.same("a round of " + count, due[count], Scene.round(count).ring());
        }
        DieRegister x = Scene.swapped(60);
        Check.same("after 60 swaps", 2, x.ring());
    }

    private static void ringAt() {
        DieRegister x = fullMint();
        Scene.offer(x, 149, 7);
        Scene.offer(x, 148, 6);
        x.want(7, 14, true);
        x.want(6, 15, true);
        Check.same("a high number", 6148, x.ringAt(0));
        Check.same("the highest number", 7149, x.ringAt(1));
        Check.same("the lowest number", 0, Scene.round(2).ringAt(0));
        Check.same("the last place of four", 3003, Scene.round(4).ringAt(3));
        Check.outOfBounds("the fourth place of three", () -> Scene.round(3).ringAt(3));
        Check.outOfBounds("the third place of two", () -> x.ringAt(2));
        Check.outOfBounds("ahead of the first place", () -> x.ringAt(-1));
        Check.outOfBounds("without a ring", () -> Scene.round(5).ringAt(0));
        Check.same("after 60 swaps", 1001, Scene.swapped(60).ringAt(1));
    }

    private static void swap() {
        for (int count = 2; count <= 4; count++) {
            DieRegister x = Scene.round(count);
            Check.same("a swap of " + count, count, x.swap());
            Check.same("none is ready then", 0, x.ring());
            Check.badState("none is ready then", x::swap);
        }
        // The rings of two and of three are ready at once; each swap does one of them.
        DieRegister y = Scene.round(3);
        for (int collector = 6; collector < 8; collector++) {
            y.addDie(0);
            y.strike(collector - 3, 1);
            Scene.offer(y, collector - 3, collector);
        }
        y.want(6, 4, true);
        y.want(7, 3, true);
        Check.same("the ring of two", 2, y.swap());
        Check.same("the ring of three", 3, y.swap());
        Check.badState("none is left", y::swap);
    }

    private static void swaps() {
        Check.same("none", 0, new DieRegister().swaps());
        Check.same("one", 1, Scene.swapped(1).swaps());
        DieRegister x = Scene.swapped(60);
        Check.badState("refused", x::swap);
        Check.same("the most", 60, x.swaps());
        DieRegister y = Scene.round(5);
        Check.badState("refused", y::swap);
        Check.same("none", 0, y.swaps());
    }

    private static void swapAt() {
        DieRegister x = Scene.swapped(60);
        for (int swap = 0; swap < 60; swap++) {
            Check.same("the first place", swap % 2, x.swapAt(swap, 0));
            Check.same("the last place", 1001 - swap % 2, x.swapAt(swap, 1));
        }
        DieRegister y = fullMint();
        Scene.offer(y, 149, 7);
        Scene.offer(y, 148, 6);
        y.want(7, 14, true);
        y.want(6, 15, true);
        y.swap();
        y.melt(149);
        Check.same("the highest number, melted by now", 7149, y.swapAt(0, 1));
        DieRegister z = Scene.round(4);
        z.swap();
        Check.same("the last place of four", 3003, z.swapAt(0, 3));
        Check.outOfBounds("the fifth place", () -> z.swapAt(0, 4));
        Check.outOfBounds("ahead of the first place", () -> z.swapAt(0, -1));
        Check.outOfBounds("no second swap", () -> z.swapAt(1, 0));
        Check.outOfBounds("ahead of the first swap", () -> z.swapAt(-1, 0));
    }

    private static void spoiled() {
        Check.same("none", 0, new DieRegister().spoiled());
        DieRegister x = Scene.swapped(60);
        Check.same("none of 60", 0, x.spoiled());
        x.melt(1);
        Check.same("all of 60", 60, x.spoiled());
        x.melt(0);
        Check.same("each counts once", 60, x.spoiled());
        for (int place = 0; place < 4; place++) {
            DieRegister y = Scene.round(4);
            y.melt(y.strike(0, 1));
            y.swap();
            Check.same("a coin that nobody got", 0, y.spoiled());
            y.melt(place);
            Check.same("the coin of any place", 1, y.spoiled());
        }
        DieRegister z = Scene.round(2);
        z.swap();
        z.strike(0, 1);
        z.melt(2);
        Check.same("another coin of the die", 0, z.spoiled());
    }
}
