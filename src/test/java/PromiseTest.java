/** Each promise of the document by itself: ordinary inputs, the named edges, and wrong inputs. */
public final class PromiseTest {
    private static final int NONE = DieRegister.NONE;
    private static final int[] WRONG = {-1, Integer.MIN_VALUE, Integer.MAX_VALUE};

    private PromiseTest() {
    }

    public static void main(String[] args) {
        newObject();
        addDie();
        crack();
        strike();
        strikeLimits();
        cast();
        melt();
        struck();
        defects();
        couldBeOf();
        stages();
        proof();
        proofNeedsAnEarlierStage();
        condemn();
        isCondemned();
        isTrue();
        rarity();
        price();
        give();
        giveEndsTheWant();
        want();
        setFairness();
        mark();
        markEnds();
        owner();
        wants();
        offers();
        worth();
        coinAt();
        ring();
        ringFairness();
        ringOfDifferentCollectors();
        ringBeginsWithTheLowest();
        ringOrderByLength();
        ringOrderByDies();
        ringOrderByCollectors();
        ringOffersTrueCoinsAlone();
        ringAt();
        swap();
        swapInRings();
        swapsAndTheirLimit();
        swapAt();
        spoiled();
        Check.end();
    }

    // ---- dies and coins

    private static void newObject() {
        DieRegister x = new DieRegister();
        Check.same("new struck", 0, x.struck());
        Check.same("new swaps", 0, x.swaps());
        Check.same("new spoiled", 0, x.spoiled());
        Check.same("new ring", 0, x.ring());
        Check.outOfBounds("new stages", () -> x.stages(0));
        Check.outOfBounds("new defects", () -> x.defects(0));
        for (int collector = 0; collector < 8; collector++) {
            int c = collector;
            Check.same("new wants", 0, x.wants(c));
            Check.same("new offers", 0, x.offers(c));
            Check.same("new worth", 0, x.worth(c));
            Check.outOfBounds("new coinAt", () -> x.coinAt(c, 0));
            Check.same("new fairness", 50, x.setFairness(c, 50));
        }
        DieRegister y = new DieRegister();
        y.addDie(0);
        y.strike(0, 5);
        Check.same("objects share nothing", 0, x.struck());
        Check.outOfBounds("objects share no dies", () -> x.stages(0));
    }

    private static void addDie() {
        DieRegister x = new DieRegister();
        for (int die = 0; die < 16; die++) {
            Check.same("addDie", die, x.addDie(die % 4));
        }
        Check.badState("addDie the 17th", () -> x.addDie(0));
        Check.outOfBounds("addDie type 4 comes first", () -> x.addDie(4));
        Check.outOfBounds("no die 16", () -> x.stages(16));
        Check.same("die 15", 0, x.stages(15));
        Check.same("a new die has no defects", 1, x.crack(15, 0));
        DieRegister y = new DieRegister();
        Check.outOfBounds("addDie type 4", () -> y.addDie(4));
        for (int wrong : WRONG) {
            Check.outOfBounds("addDie wrong type", () -> y.addDie(wrong));
        }
        Check.same("addDie after wrong ones", 0, y.addDie(3));
        y.strike(0, 1);
        Check.same("no defects", 0, y.defects(0));
    }

    private static void crack() {
        DieRegister x = Scene.mint("0", 0);
        for (int defect = 15; defect >= 0; defect--) {
            Check.same("crack", 16 - defect, x.crack(0, defect));
        }
        x.strike(0, 1);
        Check.same("all defects", 0xFFFF, x.defects(0));
        for (int defect = 0; defect < 16; defect++) {
            int d = defect;
            Check.badState("crack again", () -> x.crack(0, d));
        }
        Check.badArgument("crack 16", () -> x.crack(0, 16));
        Check.outOfBounds("crack no die", () -> x.crack(1, 0));
        Check.outOfBounds("crack no die comes first", () -> x.crack(1, 16));
        for (int wrong : WRONG) {
            Check.outOfBounds("crack wrong die", () -> x.crack(wrong, wrong));
            Check.badArgument("crack wrong defect", () -> x.crack(0, wrong));
        }
        DieRegister y = Scene.forged();
        y.condemn(1);
        Check.badState("crack a condemned die", () -> y.crack(1, 0));
        Check.badArgument("crack a condemned die, wrong defect", () -> y.crack(1, -1));
        Check.same("crack the other die", 3, y.crack(0, 0));
    }

    private static void strike() {
        DieRegister x = Scene.mint("00", 2, 3);
        Check.same("strike", 0, x.strike(1, 1));
        Check.same("strike", 1, x.strike(0, 20));
        Check.same("strike", 21, x.strike(1, 3));
        Check.same("struck", 24, x.struck());
        for (int coin = 0; coin < 24; coin++) {
            Check.same("struck in the mint", NONE, x.owner(coin));
            Check.yes("struck true", x.isTrue(coin));
        }
        Check.same("rarity of 0", 20, x.rarity(0));
        Check.same("rarity of 1", 4, x.rarity(1));
        Check.badArgument("strike 0", () -> x.strike(0, 0));
        Check.badArgument("strike 21", () -> x.strike(0, 21));
        Check.outOfBounds("strike no die", () -> x.strike(2, 1));
        Check.outOfBounds("strike no die comes first", () -> x.strike(2, 0));
        for (int wrong : WRONG) {
            Check.outOfBounds("strike wrong die", () -> x.strike(wrong, wrong));
            Check.badArgument("strike wrong count", () -> x.strike(0, wrong));
        }
        Check.same("struck after wrong ones", 24, x.struck());
        DieRegister y = Scene.forged();
        y.condemn(1);
        Check.badState("strike with a condemned die", () -> y.strike(1, 1));
        Check.badArgument("strike 0 with a condemned die", () -> y.strike(1, 0));
        Check.same("strike with the other die", 5, y.strike(0, 1));
    }

    private static void strikeLimits() {
        DieRegister x = Scene.mint("00000", 0, 0, 0, 0, 0);
        x.strike(0, 20);
        x.strike(0, 19);
        Check.badArgument("count comes first", () -> x.strike(0, 21));
        Check.badState("41 of a die", () -> x.strike(0, 2));
        Check.same("rarity stays", 39, x.rarity(0));
        Check.same("40 of a die", 39, x.strike(0, 1));
        Check.badState("41 of a die", () -> x.strike(0, 1));
        x.melt(0);
        Check.badState("a melted one counts", () -> x.strike(0, 1));
        for (int die = 1; die < 3; die++) {
            x.strike(die, 20);
            x.strike(die, 20);
        }
        x.strike(3, 20);
        Check.badState("151 coins", () -> x.strike(4, 11));
        Check.same("still 140", 140, x.struck());
        Check.same("150 coins", 140, x.strike(4, 10));
        Check.badState("151 coins", () -> x.strike(3, 1));
        Check.same("150 struck", 150, x.struck());
        Check.same("the last coin", 1 << 4 | 1 << 3 | 7, x.couldBeOf(149));
        Check.outOfBounds("no coin 150", () -> x.defects(150));
    }

    private static void cast() {
        DieRegister x = Scene.forged();
        x.crack(0, 9);
        x.strike(0, 1);
        Check.same("cast", 2, x.cast(5));
        Check.same("cast of an old coin", 3, x.cast(1));
        x.strike(2, 1);
        x.strike(3, 1);
        Check.same("defects of the cast", 1 << 3 | 1 << 7 | 1 << 9, x.defects(6));
        Check.same("defects of the old cast", 1 << 3 | 1 << 7, x.defects(7));
        Check.same("type of the cast", 0b0101, x.couldBeOf(6));
        Check.same("price by the type", 20 * 200 / 2, x.price(6));
        Check.same("crack the cast", 4, x.crack(2, 0));
        Check.same("the pattern has not cracked", 4, x.crack(0, 0));
        x.melt(5);
        Check.badState("cast of a melted coin", () -> x.cast(5));
        x.condemn(1);
        Check.same("cast of a false coin", 4, x.cast(3));
        x.strike(4, 1);
        Check.yes("the new one is not condemned", x.isTrue(8));
        Check.same("a new want is open", 1, x.want(0, 4, true));
        x.give(8, 1);
        Check.same("cast of an owned coin", 5, x.cast(8));
        Check.outOfBounds("cast no coin", () -> x.cast(9));
        for (int wrong : WRONG) {
            Check.outOfBounds("cast wrong coin", () -> x.cast(wrong));
        }
        for (int die = 6; die < 16; die++) {
            Check.same("cast", die, x.cast(0));
        }
        Check.badState("cast the 17th", () -> x.cast(0));
        Check.badState("cast the 17th of a melted one", () -> x.cast(5));
        Check.outOfBounds("cast the 17th of no coin", () -> x.cast(9));
        Check.badState("addDie the 17th", () -> x.addDie(0));
    }

    private static void melt() {
        DieRegister x = Scene.mint("31", 0, 1);
        x.give(1, 7);
        x.give(2, 0);
        Check.same("melt in the mint", NONE, x.melt(0));
        Check.same("melt owned", 7, x.melt(1));
        Check.same("melt owned by 0", 0, x.melt(2));
        for (int coin = 0; coin < 3; coin++) {
            int c = coin;
            Check.badState("melt again", () -> x.melt(c));
            Check.same("owner of a melted one", NONE, x.owner(c));
            Check.no("a melted one is true", x.isTrue(c));
            Check.badState("give a melted one", () -> x.give(c, 0));
        }
        Check.outOfBounds("a melted one is not owned", () -> x.coinAt(7, 0));
        Check.same("rarity", 0, x.rarity(0));
        Check.same("the other die", 1, x.rarity(1));
        Check.same("struck", 4, x.struck());
        Check.outOfBounds("melt no coin", () -> x.melt(4));
        for (int wrong : WRONG) {
            Check.outOfBounds("melt wrong coin", () -> x.melt(wrong));
        }
        DieRegister y = Scene.forged();
        y.condemn(1);
        Check.same("melt a false one", NONE, y.melt(3));
        Check.same("rarity of a condemned die", 0, y.rarity(1));
        for (int coin = 5; coin < 17; coin++) {
            y.strike(0, 1);
        }
        for (int coin = 5; coin < 15; coin++) {
            y.give(coin, 3);
        }
        y.melt(5);
        Check.same("a melted one leaves room", 10, y.give(15, 3));
    }

    private static void struck() {
        DieRegister x = Scene.mint("4", 0);
        Check.same("struck", 4, x.struck());
        x.melt(3);
        Check.same("struck and melted", 4, x.struck());
        Check.same("a number is not used again", 4, x.strike(0, 1));
        Check.same("struck", 5, x.struck());
    }

    private static void defects() {
        DieRegister x = Scene.mint("1", 3);
        x.crack(0, 15);
        x.strike(0, 2);
        x.crack(0, 0);
        x.strike(0, 1);
        x.melt(1);
        Check.same("no defects", 0, x.defects(0));
        Check.same("defects of a melted one", 1 << 15, x.defects(1));
        Check.same("defects", 1 << 15, x.defects(2));
        Check.same("defects then", 1 << 15 | 1, x.defects(3));
        Check.outOfBounds("defects no coin", () -> x.defects(4));
        for (int wrong : WRONG) {
            Check.outOfBounds("defects wrong coin", () -> x.defects(wrong));
        }
    }

    private static void couldBeOf() {
        DieRegister x = Scene.mint("1110", 0, 0, 1, 0);
        Check.same("by type", 0b0011, x.couldBeOf(0));
        Check.same("by another type", 0b0100, x.couldBeOf(2));
        x.crack(0, 4);
        Check.same("a stage stays", 0b0011, x.couldBeOf(0));
        x.strike(0, 1);
        Check.same("another stage", 0b0001, x.couldBeOf(3));
        x.crack(3, 4);
        Check.same("a die that has not struck", 0b0001, x.couldBeOf(3));
        x.strike(3, 1);
        Check.same("a die that has struck", 0b1001, x.couldBeOf(3));
        Check.same("just these defects", 0b0011, x.couldBeOf(1));
        x.melt(0);
        x.melt(3);
        Check.same("melted", 0b1001, x.couldBeOf(3));
        Check.same("melted", 0b0011, x.couldBeOf(1));
        Check.outOfBounds("couldBeOf no coin", () -> x.couldBeOf(5));
        for (int wrong : WRONG) {
            Check.outOfBounds("couldBeOf wrong coin", () -> x.couldBeOf(wrong));
        }
        DieRegister y = Scene.forged();
        y.condemn(1);
        Check.same("condemned", 0b11, y.couldBeOf(0));
        Check.same("false", 0b11, y.couldBeOf(3));
    }

    private static void stages() {
        DieRegister x = Scene.mint("00", 0, 0);
        Check.same("no stage", 0, x.stages(0));
        x.strike(0, 3);
        Check.same("a stage", 1, x.stages(0));
        x.crack(0, 1);
        Check.same("cracked only", 1, x.stages(0));
        x.crack(0, 2);
        x.strike(0, 1);
        Check.same("two stages", 2, x.stages(0));
        x.strike(1, 1);
        x.strike(0, 2);
        Check.same("the same stage", 2, x.stages(0));
        x.melt(0);
        x.melt(1);
        x.melt(2);
        Check.same("melted", 2, x.stages(0));
        Check.same("the other die", 1, x.stages(1));
        for (int defect = 3; defect < 16; defect++) {
            x.crack(0, defect);
            x.strike(0, 1);
        }
        Check.same("many stages", 15, x.stages(0));
        Check.outOfBounds("stages no die", () -> x.stages(2));
        for (int wrong : WRONG) {
            Check.outOfBounds("stages wrong die", () -> x.stages(wrong));
        }
    }

    // ---- proofs and prices

    private static void proof() {
        DieRegister x = Scene.forged();
        Check.same("proof", 0, x.proof(1));
        Check.same("no proof of the first one", NONE, x.proof(0));
        x.cast(3);
        Check.same("it has not struck", NONE, x.proof(2));
        x.crack(1, 0);
        x.strike(1, 1);
        x.cast(5);
        x.strike(3, 1);
        Check.same("from a later stage", 1, x.proof(3));
        x.strike(2, 1);
        Check.same("the lowest one", 0, x.proof(2));
        x.melt(0);
        x.melt(1);
        x.melt(2);
        Check.same("melted", 0, x.proof(1));
        x.melt(3);
        Check.same("its own first coin melted", 0, x.proof(1));
        x.condemn(1);
        Check.same("condemned itself", 0, x.proof(1));
        Check.same("from a condemned one", 1, x.proof(3));
        Check.outOfBounds("proof no die", () -> x.proof(4));
        for (int wrong : WRONG) {
            Check.outOfBounds("proof wrong die", () -> x.proof(wrong));
        }
    }

    private static void proofNeedsAnEarlierStage() {
        DieRegister x = Scene.mint("1", 0);
        x.crack(0, 5);
        x.strike(0, 1);
        x.cast(0);
        x.cast(1);
        x.strike(1, 1);
        x.strike(2, 1);
        Check.same("no defect", NONE, x.proof(1));
        Check.same("one defect", NONE, x.proof(2));
        x.crack(2, 6);
        x.crack(0, 6);
        x.strike(0, 1);
        x.strike(2, 1);
        Check.same("the first coin counts", NONE, x.proof(2));
        x.addDie(1);
        x.crack(3, 5);
        x.crack(3, 6);
        x.strike(3, 1);
        Check.same("another type", NONE, x.proof(3));
        x.addDie(0);
        x.crack(4, 6);
        x.crack(4, 5);
        x.strike(4, 1);
        Check.same("without a cast", 0, x.proof(4));
        DieRegister y = Scene.mint("00", 0, 0);
        for (int die = 0; die < 2; die++) {
            y.crack(die, 1);
            y.crack(die, 2);
        }
        y.strike(1, 1);
        y.strike(0, 1);
        Check.same("a higher number may be the source", 1, y.proof(0));
        Check.same("not the other way", NONE, y.proof(1));
        DieRegister z = Scene.mint("0", 0);
        z.crack(0, 1);
        z.crack(0, 2);
        z.strike(0, 1);
        z.cast(0);
        z.crack(1, 3);
        z.strike(1, 1);
        Check.same("just these defects", NONE, z.proof(1));
        z.crack(0, 3);
        z.strike(0, 1);
        Check.same("the stage is later", NONE, z.proof(1));
    }

    private static void condemn() {
        DieRegister x = Scene.forged();
        x.melt(4);
        x.strike(1, 2);
        x.give(5, 2);
        x.want(0, 1, true);
        x.want(7, 1, true);
        x.want(7, 0, true);
        Check.badState("condemn without a proof", () -> x.condemn(0));
        Check.same("condemn", 3, x.condemn(1));
        Check.yes("condemned", x.isCondemned(1));
        Check.no("not the other die", x.isCondemned(0));
        Check.badState("condemn again", () -> x.condemn(1));
        Check.same("a want ends", 0, x.wants(0));
        Check.same("one want ends", 1, x.wants(7));
        Check.same("rarity", 0, x.rarity(1));
        Check.same("rarity of the other die", 3, x.rarity(0));
        Check.no("false in the mint", x.isTrue(3));
        Check.no("false in a collection", x.isTrue(5));
        Check.same("owner stays", 2, x.owner(5));
        Check.same("a false coin is given", 2, x.give(6, 2));
        Check.yes("a false coin is marked", !x.mark(6, true) && x.mark(6, true));
        Check.outOfBounds("condemn no die", () -> x.condemn(2));
        for (int wrong : WRONG) {
            Check.outOfBounds("condemn wrong die", () -> x.condemn(wrong));
        }
        DieRegister y = Scene.forged();
        y.melt(3);
        y.melt(4);
        Check.same("condemn with all melted", 0, y.condemn(1));
        y.cast(0);
        Check.badState("condemn a die that has not struck", () -> y.condemn(2));
    }

    private static void isCondemned() {
        DieRegister x = Scene.forged();
        Check.no("not condemned, with a proof", x.isCondemned(1));
        x.condemn(1);
        Check.yes("condemned", x.isCondemned(1));
        x.cast(3);
        Check.no("cast of a false coin", x.isCondemned(2));
        Check.outOfBounds("isCondemned no die", () -> x.isCondemned(3));
        for (int wrong : WRONG) {
            Check.outOfBounds("isCondemned wrong die", () -> x.isCondemned(wrong));
        }
    }

    private static void isTrue() {
        DieRegister x = Scene.forged();
        for (int coin = 0; coin < 5; coin++) {
            Check.yes("true", x.isTrue(coin));
        }
        x.melt(1);
        x.condemn(1);
        Check.yes("true", x.isTrue(0));
        Check.no("melted", x.isTrue(1));
        Check.no("of a condemned die", x.isTrue(4));
        Check.outOfBounds("isTrue no coin", () -> x.isTrue(5));
        for (int wrong : WRONG) {
            Check.outOfBounds("isTrue wrong coin", () -> x.isTrue(wrong));
        }
    }

    private static void rarity() {
        DieRegister x = Scene.forged();
        x.addDie(0);
        int[] due = {3, 2, 0};
        rarities(x, due);
        x.melt(0);
        x.give(1, 4);
        due[0] = 2;
        rarities(x, due);
        x.melt(1);
        x.strike(0, 1);
        due[0] = 2;
        rarities(x, due);
        x.condemn(1);
        due[1] = 0;
        rarities(x, due);
        x.melt(3);
        rarities(x, due);
        Check.outOfBounds("rarity no die", () -> x.rarity(3));
        Check.outOfBounds("rarityByCoins no die", () -> x.rarityByCoins(3));
        for (int wrong : WRONG) {
            Check.outOfBounds("rarity wrong die", () -> x.rarity(wrong));
            Check.outOfBounds("rarityByCoins wrong die", () -> x.rarityByCoins(wrong));
        }
    }

    private static void rarities(DieRegister x, int[] due) {
        for (int die = 0; die < due.length; die++) {
            Check.same("rarity " + die, due[die], x.rarity(die));
            Check.same("rarityByCoins " + die, due[die], x.rarityByCoins(die));
        }
    }

    private static void price() {
        DieRegister x = Scene.mint("1256", 0, 1, 2, 3);
        Check.same("price of type 0", 1000, x.price(0));
        Check.same("price of type 1", 1333, x.price(1));
        Check.same("price of type 2", 1666, x.price(3));
        Check.same("price of type 3", 2857, x.price(13));
        x.melt(1);
        Check.same("melted", 0, x.price(1));
        Check.same("grown rare", 2000, x.price(2));
        x.strike(0, 20);
        x.strike(0, 19);
        Check.same("40 coins", 48, x.price(0));
        Check.outOfBounds("price no coin", () -> x.price(53));
        for (int wrong : WRONG) {
            Check.outOfBounds("price wrong coin", () -> x.price(wrong));
        }
        DieRegister y = Scene.forged();
        Check.same("true", 1333, y.price(3));
        y.condemn(1);
        Check.same("false", 0, y.price(3));
        Check.same("the others stay", 1000, y.price(0));
    }

    // ---- collectors

    private static void give() {
        DieRegister x = new DieRegister();
        x.addDie(0);
        x.strike(0, 12);
        for (int coin = 0; coin < 10; coin++) {
            Check.same("give", coin + 1, x.give(coin, 7));
            Check.same("owner", 7, x.owner(coin));
        }
        Check.badState("give the 11th", () -> x.give(10, 7));
        Check.same("still in the mint", NONE, x.owner(10));
        Check.badState("give to the owner", () -> x.give(0, 7));
        Check.badState("give an owned one", () -> x.give(0, 6));
        Check.same("owner stays", 7, x.owner(0));
        Check.same("give to another one", 1, x.give(10, 0));
        Check.outOfBounds("give no coin", () -> x.give(12, 0));
        Check.outOfBounds("give to nobody", () -> x.give(11, 8));
        Check.outOfBounds("give to nobody an owned one", () -> x.give(0, 8));
        Check.outOfBounds("give no coin to one who owns 10", () -> x.give(12, 7));
        for (int wrong : WRONG) {
            Check.outOfBounds("give wrong coin", () -> x.give(wrong, 0));
            Check.outOfBounds("give to a wrong one", () -> x.give(11, wrong));
        }
        x.melt(11);
        Check.badState("give a melted one", () -> x.give(11, 0));
        x.melt(10);
        Check.badState("give one that was owned and melted", () -> x.give(10, 0));
    }

    private static void giveEndsTheWant() {
        DieRegister x = Scene.mint("21", 0, 0);
        x.want(3, 0, true);
        x.want(3, 1, true);
        x.want(4, 0, true);
        x.give(0, 3);
        Check.same("the want ends", 0b10, x.wants(3));
        Check.same("the want of another one stays", 0b01, x.wants(4));
        Check.same("it may be wanted again", 2, x.want(3, 0, true));
        for (int coin = 3; coin < 12; coin++) {
            x.strike(0, 1);
            x.give(coin, 3);
        }
        x.want(3, 0, true);
        Check.badState("give the 11th", () -> x.give(1, 3));
        Check.same("the want stays", 0b11, x.wants(3));
    }

    private static void want() {
        DieRegister x = Scene.forged();
        Check.same("want", 1, x.want(0, 1, true));
        Check.same("want again", 1, x.want(0, 1, true));
        Check.same("want another one", 2, x.want(0, 0, true));
        Check.same("not any more", 1, x.want(0, 1, false));
        Check.same("still not", 1, x.want(0, 1, false));
        Check.same("others want nothing", 0, x.want(1, 1, false));
        x.want(0, 1, true);
        x.condemn(1);
        Check.badState("want a condemned die", () -> x.want(0, 1, true));
        Check.same("not want a condemned die", 1, x.want(0, 1, false));
        Check.outOfBounds("want nobody", () -> x.want(8, 0, true));
        Check.outOfBounds("want nobody a condemned die", () -> x.want(8, 1, true));
        Check.outOfBounds("want no die", () -> x.want(0, 2, true));
        Check.outOfBounds("not want no die", () -> x.want(0, 2, false));
        for (int wrong : WRONG) {
            Check.outOfBounds("want wrong one", () -> x.want(wrong, 0, true));
            Check.outOfBounds("want wrong die", () -> x.want(0, wrong, true));
        }
        DieRegister y = new DieRegister();
        for (int die = 0; die < 16; die++) {
            y.addDie(die % 4);
            Check.same("want all", die + 1, y.want(7, die, true));
        }
        Check.same("wants of all", 0xFFFF, y.wants(7));
    }

    private static void setFairness() {
        DieRegister x = new DieRegister();
        Check.same("at first", 50, x.setFairness(0, 0));
        Check.same("set to 0", 0, x.setFairness(0, 100));
        Check.same("set to 100", 100, x.setFairness(0, 37));
        Check.same("the others", 50, x.setFairness(7, 1));
        Check.badArgument("fairness 101", () -> x.setFairness(0, 101));
        Check.outOfBounds("fairness of nobody", () -> x.setFairness(8, 50));
        Check.outOfBounds("fairness of nobody comes first", () -> x.setFairness(8, 101));
        for (int wrong : WRONG) {
            Check.outOfBounds("fairness of a wrong one", () -> x.setFairness(wrong, wrong));
            Check.badArgument("wrong fairness", () -> x.setFairness(0, wrong));
        }
        Check.same("it stays", 37, x.setFairness(0, 37));
    }

    private static void mark() {
        DieRegister x = Scene.mint("3", 0);
        Check.badState("mark in the mint", () -> x.mark(0, true));
        x.give(0, 5);
        Check.no("mark", x.mark(0, true));
        Check.yes("mark again", x.mark(0, true));
        Check.yes("unmark", x.mark(0, false));
        Check.no("unmark again", x.mark(0, false));
        Check.badState("unmark in the mint", () -> x.mark(1, false));
        Check.outOfBounds("mark no coin", () -> x.mark(3, true));
        for (int wrong : WRONG) {
            Check.outOfBounds("mark wrong coin", () -> x.mark(wrong, true));
        }
        x.mark(0, true);
        x.melt(0);
        Check.badState("mark a melted one", () -> x.mark(0, true));
        x.give(1, 5);
        Check.no("each coin has a mark of its own", x.mark(1, false));
    }

    private static void markEnds() {
        DieRegister x = Scene.pair(0, 0);
        x.swap();
        Check.no("the mark of the first one ended", x.mark(0, false));
        Check.no("the mark of the second one ended", x.mark(1, false));
        DieRegister y = Scene.forged();
        Scene.offer(y, 3, 0);
        y.condemn(1);
        Check.yes("the mark of a false one stays", y.mark(3, true));
    }

    private static void owner() {
        DieRegister x = Scene.mint("3", 0);
        Check.same("in the mint", NONE, x.owner(0));
        x.give(0, 0);
        x.give(1, 7);
        Check.same("owned by 0", 0, x.owner(0));
        Check.same("owned by 7", 7, x.owner(1));
        Check.same("in the mint", NONE, x.owner(2));
        x.melt(1);
        Check.same("melted", NONE, x.owner(1));
        DieRegister y = Scene.pair(0, 0);
        y.swap();
        Check.same("swapped", 1, y.owner(0));
        Check.same("swapped", 0, y.owner(1));
        Check.outOfBounds("owner no coin", () -> x.owner(3));
        for (int wrong : WRONG) {
            Check.outOfBounds("owner wrong coin", () -> x.owner(wrong));
        }
    }

    private static void wants() {
        DieRegister x = Scene.mint("111", 0, 0, 0);
        x.want(6, 2, true);
        x.want(6, 0, true);
        Check.same("wants", 0b101, x.wants(6));
        x.want(6, 2, false);
        Check.same("wants less", 0b001, x.wants(6));
        Check.same("the others", 0, x.wants(5));
        Check.outOfBounds("wants of nobody", () -> x.wants(8));
        for (int wrong : WRONG) {
            Check.outOfBounds("wants of a wrong one", () -> x.wants(wrong));
        }
        DieRegister y = Scene.pair(0, 0);
        y.want(0, 0, true);
        y.swap();
        Check.same("a swap ends the want of what is got", 0b01, y.wants(0));
        Check.same("a swap ends the other want", 0, y.wants(1));
    }

    private static void offers() {
        DieRegister x = Scene.mint("421", 0, 0, 0);
        x.give(0, 1);
        Check.same("a single one", 0, x.offers(1));
        x.mark(0, true);
        Check.same("a marked one", 0b001, x.offers(1));
        x.mark(0, false);
        Check.same("not marked any more", 0, x.offers(1));
        x.give(1, 1);
        Check.same("two of a die", 0b001, x.offers(1));
        x.give(4, 1);
        x.give(5, 2);
        Check.same("the other one is somebody else's", 0b001, x.offers(1));
        Check.same("a single one", 0, x.offers(2));
        Scene.offer(x, 6, 1);
        Check.same("two dies", 0b101, x.offers(1));
        x.melt(0);
        Check.same("the other one was melted", 0b100, x.offers(1));
        x.melt(6);
        Check.same("the marked one was melted", 0, x.offers(1));
        Check.outOfBounds("offers of nobody", () -> x.offers(8));
        for (int wrong : WRONG) {
            Check.outOfBounds("offers of a wrong one", () -> x.offers(wrong));
        }
        DieRegister y = Scene.forged();
        y.give(3, 0);
        y.give(4, 0);
        Scene.offer(y, 0, 0);
        Check.same("before", 0b11, y.offers(0));
        y.condemn(1);
        Check.same("false ones are not offered", 0b01, y.offers(0));
        y.mark(3, true);
        Check.same("marked false ones are not offered", 0b01, y.offers(0));
    }

    private static void worth() {
        DieRegister x = Scene.forged();
        x.give(0, 4);
        x.give(3, 4);
        Check.same("worth", 1000 + 1333, x.worth(4));
        Check.same("worth of others", 0, x.worth(3));
        x.strike(0, 1);
        Check.same("less rare", 800 + 1333, x.worth(4));
        x.condemn(1);
        Check.same("a false one", 800, x.worth(4));
        x.melt(5);
        x.melt(1);
        Check.same("more rare", 1333, x.worth(4));
        x.melt(0);
        Check.same("melted", 0, x.worth(4));
        Check.outOfBounds("worth of nobody", () -> x.worth(8));
        for (int wrong : WRONG) {
            Check.outOfBounds("worth of a wrong one", () -> x.worth(wrong));
        }
    }

    private static void coinAt() {
        DieRegister x = Scene.forged();
        x.addDie(1);
        x.strike(2, 2);
        x.give(6, 7);
        x.give(2, 7);
        x.give(4, 7);
        x.give(1, 7);
        x.give(3, 7);
        places(x, 7, 3, 4, 6, 1, 2);
        x.melt(5);
        places(x, 7, 6, 3, 4, 1, 2);
        x.condemn(1);
        places(x, 7, 6, 1, 2, 3, 4);
        x.melt(1);
        places(x, 7, 6, 2, 3, 4);
        Check.outOfBounds("coinAt of nobody", () -> x.coinAt(8, 0));
        Check.outOfBounds("coinAt of one who owns none", () -> x.coinAt(0, 0));
        for (int wrong : WRONG) {
            Check.outOfBounds("coinAt of a wrong one", () -> x.coinAt(wrong, 0));
            Check.outOfBounds("coinAt wrong place", () -> x.coinAt(7, wrong));
        }
        // Prices that differ by 1: 2000 shared by 40, and by 39.
        DieRegister y = new DieRegister();
        y.addDie(0);
        y.addDie(0);
        y.strike(0, 20);
        y.strike(0, 19);
        y.strike(1, 20);
        y.strike(1, 18);
        y.give(0, 2);
        y.give(39, 2);
        places(y, 2, 39, 0);
    }

    private static void places(DieRegister x, int collector, int... due) {
        for (int place = 0; place < due.length; place++) {
            Check.same("coinAt " + place, due[place], x.coinAt(collector, place));
        }
        Check.outOfBounds("coinAt after the last", () -> x.coinAt(collector, due.length));
    }

    // ---- rings

    /** Each place of the ring that is ready, as 1000 times the collector, and the coin, added. */
    private static void rings(String what, DieRegister x, int... due) {
        Check.same(what + ", its length", due.length, x.ring());
        for (int place = 0; place < due.length && place < x.ring(); place++) {
            Check.same(what + ", place " + place, due[place], x.ringAt(place));
        }
        Check.outOfBounds(what + ", after the last", () -> x.ringAt(due.length));
    }

    private static void ring() {
        DieRegister x = Scene.pair(0, 0);
        rings("two", x, 0, 1001);
        x.want(0, 1, false);
        rings("the first one does not want", x);
        x.want(0, 1, true);
        x.want(1, 0, false);
        rings("the second one does not want", x);
        x.want(1, 0, true);
        x.mark(1, false);
        rings("the second one does not offer", x);
        x.strike(1, 1);
        x.give(2, 1);
        x.want(1, 0, true);
        rings("two of a die", x, 0, 1001);
        x.melt(0);
        rings("melted", x);
        DieRegister y = Scene.mint("1111", 0, 0, 0, 0);
        for (int c = 0; c < 4; c++) {
            Scene.offer(y, c, c);
            y.want(c, (c + 1) % 4, true);
        }
        rings("four", y, 0, 3003, 2002, 1001);
        DieRegister z = Scene.mint("11111", 0, 0, 0, 0, 0);
        for (int c = 0; c < 5; c++) {
            Scene.offer(z, c, c);
            z.want(c, (c + 1) % 5, true);
        }
        rings("five are too many", z);
        z.want(3, 0, true);
        rings("four of five", z, 0, 3003, 2002, 1001);
        DieRegister w = Scene.mint("1", 0);
        Scene.offer(w, 0, 3);
        w.want(3, 0, true);
        rings("one is not enough", w);
    }

    private static void ringFairness() {
        // Prices: 1000 of type 0, 2000 of type 1; collector 0 gives 2000 for 1000.
        DieRegister x = Scene.pair(1, 0);
        rings("just fair", x, 0, 1001);
        x.setFairness(0, 51);
        rings("not fair for the first one", x);
        x.setFairness(0, 49);
        x.setFairness(1, 100);
        rings("the second one gets more", x, 0, 1001);
        DieRegister y = Scene.pair(0, 1);
        y.setFairness(1, 50);
        rings("just fair for the second one", y, 0, 1001);
        y.setFairness(1, 51);
        rings("not fair for the second one", y);
        DieRegister z = Scene.pair(0, 0);
        z.setFairness(0, 100);
        z.setFairness(1, 100);
        rings("the same price", z, 0, 1001);
        z.strike(0, 1);
        rings("coins grew less rare", z);
        z.melt(2);
        rings("coins grew rare", z, 0, 1001);
        DieRegister w = Scene.pair(3, 0);
        w.setFairness(0, 0);
        rings("fairness 0", w, 0, 1001);
        w.setFairness(0, 10);
        rings("fairness 10", w, 0, 1001);
        w.setFairness(0, 11);
        rings("fairness 11", w);
    }

    private static void ringOfDifferentCollectors() {
        // The prices of the dies are 1000, 2000, 4000, 1000. To give 4000 for 1000 is not fair, so
        // the collector 1 would have to give the coin 1 to themself in between.
        DieRegister x = Scene.mint("1141", 0, 1, 3, 0);
        Scene.offer(x, 0, 0);
        Scene.offer(x, 1, 1);
        Scene.offer(x, 2, 1);
        x.want(1, 0, true);
        x.want(1, 1, true);
        x.want(0, 2, true);
        rings("a collector at two places of three", x);
        x.setFairness(1, 25);
        rings("the short way", x, 0, 1002);
        // The same with another collector ahead of the one who would stand there twice.
        DieRegister y = Scene.mint("1141", 0, 1, 3, 0);
        Scene.offer(y, 0, 0);
        Scene.offer(y, 6, 1);
        Scene.offer(y, 1, 2);
        Scene.offer(y, 2, 2);
        y.want(1, 0, true);
        y.want(2, 3, true);
        y.want(2, 1, true);
        y.want(0, 2, true);
        rings("a collector at two places of four", y);
        y.setFairness(2, 25);
        rings("the short way", y, 0, 1006, 2002);
    }

    private static void ringBeginsWithTheLowest() {
        DieRegister x = Scene.mint("111", 0, 0, 0);
        Scene.offer(x, 0, 7);
        Scene.offer(x, 1, 2);
        Scene.offer(x, 2, 5);
        x.want(2, 0, true);
        x.want(5, 1, true);
        x.want(7, 2, true);
        rings("three", x, 2001, 5002, 7000);
    }

    private static void ringOrderByLength() {
        DieRegister x = Scene.mint("1111111", 0, 0, 0, 0, 0, 0, 0);
        Scene.offer(x, 0, 0);
        Scene.offer(x, 1, 1);
        Scene.offer(x, 2, 2);
        x.want(1, 0, true);
        x.want(2, 1, true);
        x.want(0, 2, true);
        rings("three", x, 0, 1001, 2002);
        Scene.offer(x, 3, 6);
        Scene.offer(x, 4, 7);
        x.want(6, 4, true);
        x.want(7, 3, true);
        rings("two go before three", x, 6003, 7004);
        x.want(2, 0, true);
        rings("a lower collector goes first", x, 0, 2002);
    }

    private static void ringOrderByDies() {
        DieRegister x = Scene.mint("22222", 0, 0, 0, 0, 0);
        Scene.offer(x, 4, 1);
        Scene.offer(x, 2, 1);
        Scene.offer(x, 6, 3);
        Scene.offer(x, 8, 3);
        x.want(3, 1, true);
        x.want(3, 2, true);
        x.want(1, 3, true);
        x.want(1, 4, true);
        rings("the lowest dies", x, 1002, 3006);
        x.want(1, 3, false);
        rings("the next die of the second one", x, 1002, 3008);
        x.want(3, 1, false);
        rings("the next die of the first one", x, 1004, 3008);
        Scene.offer(x, 0, 2);
        x.want(1, 0, true);
        x.want(2, 1, true);
        rings("the first die goes before the second collector", x, 1002, 2000);
        x.want(2, 1, false);
        x.want(2, 2, true);
        rings("the second collector goes before the second die", x, 1004, 2000);
        x.give(3, 1);
        x.want(2, 1, true);
        x.mark(2, false);
        rings("the lowest coin of two", x, 1002, 2000);
        x.mark(3, true);
        rings("the lowest coin, marked or not", x, 1002, 2000);
        x.melt(2);
        rings("the lowest coin that is left", x, 1003, 2000);
    }

    private static void ringOrderByCollectors() {
        DieRegister x = Scene.mint("1111", 0, 0, 0, 0);
        for (int c = 0; c < 4; c++) {
            Scene.offer(x, c, c);
        }
        x.want(1, 0, true);
        x.want(2, 1, true);
        x.want(0, 2, true);
        x.want(3, 1, true);
        x.want(0, 3, true);
        rings("by the third collector", x, 0, 1001, 2002);
        x.want(2, 1, false);
        rings("the next third collector", x, 0, 1001, 3003);
        x.want(3, 1, false);
        x.want(3, 2, true);
        x.want(2, 0, true);
        x.want(0, 2, false);
        rings("the next second collector", x, 0, 2002, 3003);
        x.want(0, 3, false);
        x.want(1, 3, true);
        x.want(2, 1, true);
        x.want(1, 0, false);
        x.want(2, 0, false);
        rings("the next first collector", x, 1001, 2002, 3003);
    }

    private static void ringOffersTrueCoinsAlone() {
        DieRegister x = Scene.forged();
        x.addDie(1);
        x.strike(2, 1);
        Scene.offer(x, 3, 0);
        Scene.offer(x, 5, 1);
        x.want(0, 2, true);
        x.want(1, 1, true);
        rings("not condemned yet", x, 3, 1005);
        x.condemn(1);
        rings("condemned", x);
        Check.badState("swap of a false one", x::swap);
    }

    private static void ringAt() {
        DieRegister x = Scene.pair(0, 0);
        Check.same("ringAt 0", 0, x.ringAt(0));
        Check.same("ringAt 1", 1001, x.ringAt(1));
        Check.outOfBounds("ringAt 2", () -> x.ringAt(2));
        for (int wrong : WRONG) {
            Check.outOfBounds("ringAt wrong place", () -> x.ringAt(wrong));
        }
        Check.outOfBounds("ringAt without a ring", () -> new DieRegister().ringAt(0));
        DieRegister y = new DieRegister();
        for (int die = 0; die < 15; die++) {
            y.addDie(0);
            y.strike(die, die < 14 ? 10 : 9);
        }
        y.addDie(0);
        y.strike(15, 1);
        Scene.offer(y, 149, 7);
        Scene.offer(y, 148, 6);
        y.want(7, 14, true);
        y.want(6, 15, true);
        y.setFairness(7, 0);
        rings("high numbers", y, 6148, 7149);
    }

    private static void swap() {
        DieRegister x = Scene.pair(0, 1);
        x.want(0, 0, true);
        Check.same("swap", 2, x.swap());
        Check.same("the coin of the first one", 1, x.owner(0));
        Check.same("the coin of the second one", 0, x.owner(1));
        Check.same("worth", 2000, x.worth(0));
        Check.same("worth", 1000, x.worth(1));
        Check.same("coinAt", 1, x.coinAt(0, 0));
        Check.outOfBounds("only one", () -> x.coinAt(0, 1));
        Check.same("the mark ended", 0, x.offers(0));
        Check.same("ring", 0, x.ring());
        Check.badState("swap again", x::swap);
        Check.same("swaps", 1, x.swaps());
        Check.badState("swap of nothing", () -> new DieRegister().swap());
        DieRegister y = new DieRegister();
        y.addDie(0);
        y.addDie(0);
        y.strike(0, 10);
        y.strike(1, 10);
        for (int coin = 0; coin < 10; coin++) {
            y.give(coin, 0);
            y.give(10 + coin, 1);
        }
        y.want(0, 1, true);
        y.want(1, 0, true);
        Check.same("swap of those who own 10", 2, y.swap());
        Check.same("the lowest one", 1, y.owner(0));
        Check.same("the lowest one", 0, y.owner(10));
        Check.same("the next one stays", 0, y.owner(1));
        Check.badState("they own 10", () -> y.give(0, 1));
        y.want(0, 1, true);
        y.want(1, 0, true);
        rings("a coin that was got is not offered alone", y, 1, 1011);
    }

    private static void swapInRings() {
        DieRegister x = Scene.mint("2111", 0, 0, 0, 0);
        x.give(0, 0);
        x.give(1, 0);
        Scene.offer(x, 2, 3);
        Scene.offer(x, 3, 1);
        Scene.offer(x, 4, 2);
        x.want(3, 0, true);
        x.want(1, 1, true);
        x.want(2, 2, true);
        x.want(0, 3, true);
        rings("four", x, 0, 3002, 1003, 2004);
        Check.same("swap of four", 4, x.swap());
        Check.same("owner", 3, x.owner(0));
        Check.same("owner", 0, x.owner(1));
        Check.same("owner", 1, x.owner(2));
        Check.same("owner", 2, x.owner(3));
        Check.same("owner", 0, x.owner(4));
        for (int c = 0; c < 4; c++) {
            Check.same("no want is left", 0, x.wants(c));
            Check.same("no offer is left", 0, x.offers(c));
        }
        Check.same("swapAt", 1003, x.swapAt(0, 2));
    }

    private static void swapsAndTheirLimit() {
        DieRegister x = Scene.mint("11", 0, 0);
        x.give(0, 0);
        x.give(1, 1);
        for (int i = 0; i < 60; i++) {
            Check.same("swaps", i, x.swaps());
            Scene.makeReady(x, i);
            Check.same("swap", 2, x.swap());
        }
        Scene.makeReady(x, 60);
        Check.same("swaps", 60, x.swaps());
        Check.same("a ring is ready", 2, x.ring());
        Check.badState("the 61st swap", x::swap);
        Check.same("swaps", 60, x.swaps());
        Check.same("wants stay", 0b10, x.wants(0));
        Check.same("marks stay", 0b01, x.offers(0));
        Check.same("the last swap", 1, x.swapAt(59, 0));
        Check.same("the last swap", 1000, x.swapAt(59, 1));
        Check.outOfBounds("no swap 60", () -> x.swapAt(60, 0));
    }

    private static void swapAt() {
        DieRegister x = Scene.pair(0, 0);
        Check.outOfBounds("swapAt before a swap", () -> x.swapAt(0, 0));
        x.swap();
        x.mark(0, true);
        x.mark(1, true);
        x.want(0, 0, true);
        x.want(1, 1, true);
        x.swap();
        Check.same("swap 0, place 0", 0, x.swapAt(0, 0));
        Check.same("swap 0, place 1", 1001, x.swapAt(0, 1));
        Check.same("swap 1, place 0", 1, x.swapAt(1, 0));
        Check.same("swap 1, place 1", 1000, x.swapAt(1, 1));
        x.melt(0);
        Check.same("melted later", 0, x.swapAt(0, 0));
        Check.outOfBounds("no place", () -> x.swapAt(0, 2));
        Check.outOfBounds("no swap", () -> x.swapAt(2, 0));
        for (int wrong : WRONG) {
            Check.outOfBounds("swapAt wrong swap", () -> x.swapAt(wrong, 0));
            Check.outOfBounds("swapAt wrong place", () -> x.swapAt(0, wrong));
        }
    }

    private static void spoiled() {
        DieRegister x = Scene.forged();
        x.addDie(1);
        x.strike(2, 2);
        Scene.offer(x, 3, 0);
        Scene.offer(x, 5, 1);
        x.want(0, 2, true);
        x.want(1, 1, true);
        x.swap();
        Check.same("nothing is false", 0, x.spoiled());
        Scene.offer(x, 4, 0);
        Scene.offer(x, 6, 1);
        x.want(0, 2, true);
        x.want(1, 1, true);
        x.swap();
        x.mark(5, true);
        Scene.offer(x, 0, 1);
        x.want(0, 0, true);
        x.want(1, 2, true);
        x.swap();
        Check.same("three swaps", 3, x.swaps());
        Check.same("nothing is false", 0, x.spoiled());
        x.condemn(1);
        Check.same("two are spoiled", 2, x.spoiled());
        x.melt(3);
        Check.same("melted too", 2, x.spoiled());
        x.melt(0);
        Check.same("a melted one spoils", 3, x.spoiled());
        x.melt(5);
        Check.same("all are spoiled", 3, x.spoiled());
        Check.same("swaps", 3, x.swaps());
    }
}
