/**
 * Each sentence of the document's "Terms" that draws a line, with a test of its own: what lies on
 * the line, what lies just beside it, and what is empty or full. The order of exceptions, and that
 * a refused call changes nothing, is RefusalTest's.
 */
public final class TermsTest {
    private static final int NONE = DieRegister.NONE;
    private static final int[] VALUES = {100, 200, 500, 1000};

    private TermsTest() {
    }

    public static void main(String[] args) {
        dies();
        coins();
        stagesAndProofs();
        truthAndPrices();
        collectors();
        offers();
        rings();
        orderOfRings();
        swaps();
        theLastCall();
        Check.end();
    }

    private static void dies() {
        typesAreZeroToThree();
        coinsOfTheTypesHaveTheirValues();
        diesAreNumberedFromZero();
        thereAreAtMost16Dies();
        defectsAreZeroTo15();
        aDieStrikesAtMost40Coins();
        aDieThatHasStruck40WithMeltedOnes();
        aNewDieHasNoneOfBoth();
        aDieCanBeCastFromACoin();
        aCastDieBeginsWithoutCoins();
    }

    private static void coins() {
        coinsAreNumberedInTheOrderInWhichTheyAreStruck();
        thereAreAtMost150Coins();
        meltedCoinsCountAmong150();
        aCoinHasTheDefectsThatTheDieHadThen();
        aMeltedCoinIsGoneForEver();
    }

    private static void stagesAndProofs() {
        aStageIsASetWithWhichADieHasStruck();
        aDieHasAtMost17Stages();
        aProofNeedsACoin();
        aProofNeedsTwoDefects();
        aProofNeedsTheFirstCoin();
        aProofNeedsAnotherDie();
        aProofNeedsTheSameType();
        aProofNeedsJustTheseDefects();
        aProofNeedsALowerNumber();
        theFirstCoinOfAStageCounts();
        theLowestOfSeveralDiesCounts();
        meltedCoinsCountForProofs();
        condemnedDiesCountForProofs();
    }

    private static void truthAndPrices() {
        aDieThatIsProvedCanBeCondemned();
        aCoinIsTrueIfNeitherMeltedNorCondemned();
        theRarityIsTheNumberOfTrueCoins();
        thePriceIsRoundedDown();
        thePriceOfAnotherCoinIsZero();
    }

    private static void collectors() {
        collectorsAreZeroToSeven();
        aCoinIsInTheMintOrOwned();
        aCollectorOwnsAtMostTen();
        aCollectorWantsNoneAtFirst();
        aWantEndsWithACoinThatIsGiven();
        aWantEndsWithACoinThatIsSwapped();
        aWantEndsWhenTheDieIsCondemned();
        fairnessIsZeroTo100();
        fairnessIs50AtFirst();
    }

    private static void offers() {
        aMarkedCoinIsOffered();
        oneOfTwoTrueCoinsIsOffered();
        theOtherOneMustBeTrue();
        theOtherOneMustBeOwned();
        theOtherOneMustBeOfTheDie();
        aFalseCoinIsNotOffered();
        theLowestCoinOfADieIsMeant();
        aMarkEndsWithSomebodyElse();
        aMarkStaysOtherwise();
    }

    private static void rings() {
        aRingHasTwoToFourCollectors();
        nobodyIsARing();
        theCollectorsAreDifferent();
        theFirstCollectorHasTheLowestNumber();
        eachGivesToTheNextOne();
        eachMustWant();
        eachMustOffer();
        fairnessIsMetExactly();
        fairnessIsMissedByOne();
        fairnessZeroTakesAnyPrice();
        fairness100TakesTheSamePrice();
        fairnessOfEachInARingCounts();
    }

    private static void orderOfRings() {
        fewerCollectorsGoFirst();
        theFirstCollectorGoesFirst();
        theFirstDieGoesBeforeTheSecondCollector();
        theSecondCollectorGoesBeforeTheSecondDie();
        theSecondDieGoesBeforeTheThirdCollector();
        theThirdCollectorGoesBeforeTheThirdDie();
        theThirdDieGoesBeforeTheFourthCollector();
        theFourthCollectorGoesBeforeTheFourthDie();
        theFourthDieComesLast();
        diesAreComparedNotCoins();
    }

    private static void swaps() {
        aSwapIsDoneAllAtOnce();
        aSwapOfThoseWhoOwnTen();
        thereAreAtMost60Swaps();
    }

    // ---- dies

    private static void typesAreZeroToThree() {
        DieRegister x = new DieRegister();
        Check.same("the lowest type", 0, x.addDie(0));
        Check.same("the highest type", 1, x.addDie(3));
        Check.outOfBounds("below the lowest type", () -> x.addDie(-1));
        Check.outOfBounds("above the highest type", () -> x.addDie(4));
        Check.same("the types between", 2, x.addDie(1));
        Check.same("the types between", 3, x.addDie(2));
    }

    private static void coinsOfTheTypesHaveTheirValues() {
        for (int type = 0; type < 4; type++) {
            DieRegister x = Scene.mint("1", type);
            Check.same("20 values for two", 10 * VALUES[type], x.price(0));
            x.cast(0);
            x.strike(1, 1);
            Check.same("20 values for two, cast", 10 * VALUES[type], x.price(1));
        }
    }

    private static void diesAreNumberedFromZero() {
        DieRegister x = new DieRegister();
        Check.outOfBounds("no die 0 yet", () -> x.rarity(0));
        Check.same("the first die", 0, x.addDie(2));
        Check.outOfBounds("no die 1 yet", () -> x.rarity(1));
        x.strike(0, 1);
        Check.same("added and cast ones are numbered together", 1, x.cast(0));
        Check.same("added and cast ones are numbered together", 2, x.addDie(2));
        Check.same("the last die", 0, x.rarity(2));
        Check.outOfBounds("no die 3 yet", () -> x.rarity(3));
    }

    private static void thereAreAtMost16Dies() {
        DieRegister x = new DieRegister();
        for (int die = 0; die < 15; die++) {
            x.addDie(3);
        }
        x.strike(0, 1);
        Check.same("the 16th die", 15, x.cast(0));
        Check.badState("the 17th die, added", () -> x.addDie(3));
        Check.badState("the 17th die, cast", () -> x.cast(0));
        Check.same("the last die strikes", 1, x.strike(15, 1));
        Check.same("the last die in a set", 1 << 15 | 1, x.couldBeOf(1));
        Check.same("the last die is wanted", 1, x.want(0, 15, true));
        Check.same("the last die in a set", 1 << 15, x.wants(0));
        Scene.offer(x, 1, 1);
        Check.same("the last die is offered", 1 << 15, x.offers(1));
        Check.outOfBounds("no die 16", () -> x.strike(16, 1));
        DieRegister y = new DieRegister();
        for (int die = 0; die < 15; die++) {
            y.addDie(0);
        }
        Check.same("the 16th die, added", 15, y.addDie(0));
    }

    private static void defectsAreZeroTo15() {
        DieRegister x = Scene.mint("0", 0);
        Check.badArgument("below the lowest defect", () -> x.crack(0, -1));
        Check.badArgument("above the highest defect", () -> x.crack(0, 16));
        // A shift by 32 is a shift by 0: it must not be taken for the defect 0.
        Check.badArgument("around to the lowest defect", () -> x.crack(0, 32));
        Check.badArgument("around to the highest defect", () -> x.crack(0, 47));
        Check.same("the highest defect", 1, x.crack(0, 15));
        Check.same("the lowest defect", 2, x.crack(0, 0));
        x.strike(0, 1);
        Check.same("both in a set", 1 << 15 | 1, x.defects(0));
        for (int defect = 1; defect < 15; defect++) {
            Check.same("one more", defect + 2, x.crack(0, defect));
        }
        x.strike(0, 1);
        Check.same("all in a set", (1 << 16) - 1, x.defects(1));
    }

    private static void aDieStrikesAtMost40Coins() {
        DieRegister x = Scene.mint("000", 0, 0, 0);
        x.strike(0, 20);
        Check.same("40 of a die", 20, x.strike(0, 20));
        Check.badState("the 41st", () -> x.strike(0, 1));
        x.strike(1, 20);
        x.strike(1, 19);
        Check.badState("41 at the end of many", () -> x.strike(1, 2));
        Check.same("40 at the end of many", 79, x.strike(1, 1));
        Check.same("another die has room", 80, x.strike(2, 20));
    }

    private static void aDieThatHasStruck40WithMeltedOnes() {
        DieRegister x = Scene.mint("00", 0, 0);
        x.strike(0, 20);
        x.strike(0, 20);
        for (int coin = 0; coin < 40; coin++) {
            x.melt(coin);
        }
        Check.badState("it would have struck 41", () -> x.strike(0, 1));
        Check.same("there is room for coins", 40, x.strike(1, 1));
    }

    private static void aNewDieHasNoneOfBoth() {
        DieRegister x = Scene.mint("20", 0, 0);
        Check.same("no stage", 0, x.stages(1));
        Check.same("no true coin", 0, x.rarity(1));
        Check.same("no true coin", 0, x.rarityByCoins(1));
        Check.same("no proof", NONE, x.proof(1));
        Check.same("not of the new one", 0b01, x.couldBeOf(0));
        x.strike(1, 1);
        Check.same("no defect", 0, x.defects(2));
    }

    private static void aDieCanBeCastFromACoin() {
        DieRegister x = Scene.mint("0", 2);
        x.crack(0, 1);
        x.strike(0, 1);
        x.crack(0, 2);
        x.strike(0, 1);
        x.crack(0, 3);
        x.cast(0);
        x.cast(1);
        x.strike(1, 1);
        x.strike(2, 1);
        Check.same("the coin's defects, one", 1 << 1, x.defects(2));
        Check.same("the coin's defects, two", 1 << 1 | 1 << 2, x.defects(3));
        Check.same("the coin's type", 5000, x.price(2));
        Check.same("at first: it can get more", 2, x.crack(1, 2));
        Check.badState("it has this one", () -> x.crack(2, 2));
    }

    private static void aCastDieBeginsWithoutCoins() {
        DieRegister x = Scene.forged();
        x.cast(0);
        Check.same("no stage", 0, x.stages(2));
        Check.same("no true coin", 0, x.rarity(2));
        Check.same("no proof", NONE, x.proof(2));
        Check.same("not of the cast one", 0b011, x.couldBeOf(0));
        x.strike(2, 20);
        Check.same("it strikes 40 of its own", 25, x.strike(2, 20));
        Check.badState("the 41st", () -> x.strike(2, 1));
    }

    // ---- coins

    private static void coinsAreNumberedInTheOrderInWhichTheyAreStruck() {
        DieRegister x = Scene.mint("00", 0, 1);
        Check.outOfBounds("no coin 0 yet", () -> x.owner(0));
        Check.same("the first coin", 0, x.strike(1, 1));
        Check.outOfBounds("no coin 1 yet", () -> x.owner(1));
        Check.same("the second coin", 1, x.strike(0, 2));
        Check.same("the fourth coin", 3, x.strike(1, 1));
        int[] dieOfCoin = {1, 0, 0, 1};
        for (int coin = 0; coin < 4; coin++) {
            Check.same("the coin's type is the die's", 1 << dieOfCoin[coin], x.couldBeOf(coin));
        }
        Check.outOfBounds("no coin 4 yet", () -> x.owner(4));
    }

    private static void thereAreAtMost150Coins() {
        DieRegister x = Scene.mint("0000", 0, 0, 0, 0);
        for (int die = 0; die < 3; die++) {
            x.strike(die, 20);
            x.strike(die, 20);
        }
        x.strike(3, 20);
        Check.badState("151 at the end of many", () -> x.strike(3, 11));
        Check.same("150 at the end of many", 140, x.strike(3, 10));
        Check.badState("the 151st", () -> x.strike(3, 1));
        Check.same("all were struck", 150, x.struck());
        Check.yes("the last coin", x.isTrue(149));
        Check.same("the last coin is given", 1, x.give(149, 7));
        Check.same("the last coin is owned", 149, x.coinAt(7, 0));
        Check.same("the last coin is melted", 7, x.melt(149));
        Check.outOfBounds("no coin 150", () -> x.isTrue(150));
    }

    private static void meltedCoinsCountAmong150() {
        DieRegister x = Scene.fullOfCoins();
        for (int coin = 1; coin < 149; coin++) {
            x.melt(coin);
        }
        Check.same("all are melted and struck", 150, x.struck());
        Check.badState("the 151st", () -> x.strike(15, 1));
    }

    private static void aCoinHasTheDefectsThatTheDieHadThen() {
        DieRegister x = Scene.mint("1", 0);
        for (int defect = 0; defect < 16; defect++) {
            x.crack(0, defect);
            x.strike(0, 1);
        }
        for (int coin = 0; coin <= 16; coin++) {
            Check.same("as many defects as the die had", (1 << coin) - 1, x.defects(coin));
        }
    }

    private static void aMeltedCoinIsGoneForEver() {
        DieRegister x = Scene.mint("2", 0);
        Scene.offer(x, 0, 3);
        x.melt(0);
        Check.badState("not melted again", () -> x.melt(0));
        Check.badState("not given", () -> x.give(0, 3));
        Check.badState("not marked", () -> x.mark(0, true));
        Check.badState("not cast from", () -> x.cast(0));
        Check.no("not true", x.isTrue(0));
        Check.same("of nobody", NONE, x.owner(0));
        Check.same("not offered", 0, x.offers(3));
        Check.same("worth nothing", 0, x.worth(3));
        Check.outOfBounds("at no place", () -> x.coinAt(3, 0));
        Check.same("its number is not used again", 2, x.strike(0, 1));
    }

    // ---- stages and proofs

    private static void aStageIsASetWithWhichADieHasStruck() {
        DieRegister x = Scene.mint("0", 0);
        x.crack(0, 0);
        Check.same("cracked and not struck", 0, x.stages(0));
        x.strike(0, 1);
        Check.same("struck", 1, x.stages(0));
        x.strike(0, 20);
        Check.same("struck with the same set", 1, x.stages(0));
        x.crack(0, 1);
        x.crack(0, 2);
        Check.same("cracked and not struck", 1, x.stages(0));
        x.strike(0, 1);
        Check.same("a set passed over is no stage", 2, x.stages(0));
    }

    private static void aDieHasAtMost17Stages() {
        DieRegister x = Scene.mint("1", 0);
        for (int defect = 15; defect >= 0; defect--) {
            x.crack(0, defect);
            x.strike(0, 1);
            Check.same("one more", 17 - defect, x.stages(0));
        }
    }

    /** A die 0 of the type 0 with as many defects as told, from 0 on, that has struck a coin. */
    private static DieRegister struckWith(int count) {
        DieRegister x = new DieRegister();
        x.addDie(0);
        for (int defect = 0; defect < count; defect++) {
            x.crack(0, defect);
        }
        x.strike(0, 1);
        return x;
    }

    private static void aProofNeedsACoin() {
        DieRegister x = struckWith(2);
        x.cast(0);
        Check.same("none was struck", NONE, x.proof(1));
        x.strike(1, 1);
        Check.same("one was struck", 0, x.proof(1));
    }

    private static void aProofNeedsTwoDefects() {
        int[] due = {NONE, NONE, 0, 0};
        for (int count = 0; count < 4; count++) {
            DieRegister x = struckWith(count);
            x.cast(0);
            x.strike(1, 1);
            Check.same("with " + count + " defects", due[count], x.proof(1));
        }
        DieRegister y = struckWith(16);
        y.cast(0);
        y.strike(1, 1);
        Check.same("with 16 defects", 0, y.proof(1));
    }

    private static void aProofNeedsTheFirstCoin() {
        DieRegister x = struckWith(1);
        x.crack(0, 1);
        x.strike(0, 1);
        x.cast(0);
        x.strike(1, 1);
        x.crack(1, 1);
        x.strike(1, 1);
        Check.same("its second coin matches", NONE, x.proof(1));
        DieRegister y = struckWith(2);
        y.cast(0);
        y.strike(1, 1);
        y.crack(1, 9);
        y.strike(1, 1);
        Check.same("its second coin does not match", 0, y.proof(1));
    }

    private static void aProofNeedsAnotherDie() {
        DieRegister x = struckWith(2);
        x.strike(0, 2);
        Check.same("a die is not cast from itself", NONE, x.proof(0));
    }

    private static void aProofNeedsTheSameType() {
        for (int type = 0; type < 4; type++) {
            DieRegister x = struckWith(2);
            x.addDie(type);
            x.crack(1, 0);
            x.crack(1, 1);
            x.strike(1, 1);
            Check.same("of the type " + type, type == 0 ? 0 : NONE, x.proof(1));
        }
    }

    private static void aProofNeedsJustTheseDefects() {
        int[][] sets = {{0, 1}, {0, 1, 2, 3}, {0, 1, 3}, {0, 1, 2}};
        int[] due = {NONE, NONE, NONE, 0};
        for (int i = 0; i < sets.length; i++) {
            DieRegister x = struckWith(3);
            x.addDie(0);
            for (int defect : sets[i]) {
                x.crack(1, defect);
            }
            x.strike(1, 1);
            Check.same("fewer, more, others, just these: " + i, due[i], x.proof(1));
        }
    }

    private static void aProofNeedsALowerNumber() {
        DieRegister x = struckWith(1);
        x.addDie(0);
        x.crack(0, 1);
        x.crack(1, 0);
        x.crack(1, 1);
        x.strike(1, 1);
        x.strike(0, 1);
        Check.same("higher by one", NONE, x.proof(1));
        DieRegister y = struckWith(1);
        y.addDie(0);
        y.crack(0, 1);
        y.crack(1, 0);
        y.crack(1, 1);
        y.strike(0, 1);
        y.strike(1, 1);
        Check.same("lower by one", 0, y.proof(1));
    }

    private static void theFirstCoinOfAStageCounts() {
        DieRegister x = struckWith(2);
        x.cast(0);
        x.strike(1, 1);
        x.strike(0, 1);
        Check.same("a later coin of the stage hides nothing", 0, x.proof(1));
        x.melt(0);
        Check.same("melted, it is the first coin still", 0, x.proof(1));
    }

    private static void theLowestOfSeveralDiesCounts() {
        DieRegister x = new DieRegister();
        for (int die = 0; die < 4; die++) {
            x.addDie(0);
            x.crack(die, 0);
            x.crack(die, 1);
        }
        x.strike(3, 1);
        x.strike(2, 1);
        x.strike(1, 1);
        x.strike(0, 1);
        Check.same("the lowest of three", 1, x.proof(0));
        Check.same("the lowest of two, by dies and not by coins", 2, x.proof(1));
        Check.same("the only one", 3, x.proof(2));
        Check.same("none", NONE, x.proof(3));
    }

    private static void meltedCoinsCountForProofs() {
        DieRegister x = Scene.forged();
        for (int coin = 0; coin < 5; coin++) {
            x.melt(coin);
        }
        Check.same("all coins of both are melted", 0, x.proof(1));
        Check.same("the stage is one still", 1, x.stages(0));
        Check.same("it could be of both still", 0b11, x.couldBeOf(0));
    }

    private static void condemnedDiesCountForProofs() {
        DieRegister x = Scene.forged();
        x.crack(1, 0);
        x.strike(1, 1);
        x.cast(5);
        x.strike(2, 1);
        x.condemn(1);
        Check.same("the source is condemned", 1, x.proof(2));
        Check.same("the die is condemned", 0, x.proof(1));
        Check.same("one from a condemned one is condemned", 1, x.condemn(2));
    }

    // ---- truth and prices

    private static void aDieThatIsProvedCanBeCondemned() {
        DieRegister x = struckWith(2);
        x.cast(0);
        Check.badState("no proof yet", () -> x.condemn(1));
        x.strike(1, 1);
        Check.same("proved", 1, x.condemn(1));
        Check.badState("condemned already", () -> x.condemn(1));
        Check.badState("no proof of the source", () -> x.condemn(0));
    }

    private static void aCoinIsTrueIfNeitherMeltedNorCondemned() {
        DieRegister x = Scene.forged();
        x.melt(0);
        x.melt(3);
        x.condemn(1);
        Check.no("melted", x.isTrue(0));
        Check.yes("neither", x.isTrue(1));
        Check.no("both", x.isTrue(3));
        Check.no("condemned", x.isTrue(4));
    }

    private static void theRarityIsTheNumberOfTrueCoins() {
        DieRegister x = Scene.mint("0", 0);
        Check.same("no coin", 0, x.rarity(0));
        x.strike(0, 20);
        x.strike(0, 20);
        Check.same("40 coins", 40, x.rarity(0));
        Check.same("40 coins", 40, x.rarityByCoins(0));
        for (int coin = 0; coin < 40; coin++) {
            x.melt(coin);
            Check.same("one less", 39 - coin, x.rarity(0));
            Check.same("one less", 39 - coin, x.rarityByCoins(0));
        }
    }

    private static void thePriceIsRoundedDown() {
        for (int type = 0; type < 4; type++) {
            DieRegister x = Scene.mint("0", type);
            for (int count = 1; count <= 40; count++) {
                x.strike(0, 1);
                int due = 20 * VALUES[type] / (count + 1);
                Check.same("type " + type + ", one of " + count, due, x.price(count - 1));
                Check.same("type " + type + ", first of " + count, due, x.price(0));
            }
        }
    }

    private static void thePriceOfAnotherCoinIsZero() {
        DieRegister x = Scene.forged();
        x.melt(0);
        x.condemn(1);
        Check.same("melted", 0, x.price(0));
        Check.same("condemned", 0, x.price(3));
        DieRegister y = Scene.mint("1", 3);
        y.melt(0);
        Check.same("the only one, melted", 0, y.price(0));
    }

    // ---- collectors

    private static void collectorsAreZeroToSeven() {
        DieRegister x = Scene.mint("9", 0);
        for (int collector = 0; collector < 8; collector++) {
            Check.same("give", 1, x.give(collector, collector));
            Check.same("owner", collector, x.owner(collector));
        }
        Check.outOfBounds("below the lowest collector", () -> x.give(8, -1));
        Check.outOfBounds("above the highest collector", () -> x.give(8, 8));
    }

    private static void aCoinIsInTheMintOrOwned() {
        DieRegister x = Scene.mint("2", 0);
        Check.same("in the mint", NONE, x.owner(0));
        x.give(0, 7);
        Check.same("owned", 7, x.owner(0));
        Check.same("the other one is in the mint", NONE, x.owner(1));
        Check.badState("owned ones are not in the mint", () -> x.give(0, 7));
        Check.badState("owned ones are not in the mint", () -> x.give(0, 6));
    }

    private static void aCollectorOwnsAtMostTen() {
        DieRegister x = Scene.fullCollector();
        Check.badState("the 11th", () -> x.give(11, 7));
        Check.same("another one has room", 2, x.give(11, 0));
        x.strike(0, 2);
        x.melt(9);
        Check.same("the 10th again", 10, x.give(12, 7));
        Check.badState("the 11th again", () -> x.give(13, 7));
    }

    private static void aCollectorWantsNoneAtFirst() {
        DieRegister x = Scene.mint("1", 0);
        for (int collector = 0; collector < 8; collector++) {
            Check.same("no die", 0, x.wants(collector));
            Check.same("one", 1, x.want(collector, 0, true));
        }
    }

    private static void aWantEndsWithACoinThatIsGiven() {
        DieRegister x = Scene.mint("2200", 0, 0, 0, 0);
        for (int die = 0; die < 4; die++) {
            x.want(0, die, true);
            x.want(1, die, true);
        }
        x.give(0, 0);
        Check.same("the want of that die", 0b1110, x.wants(0));
        Check.same("nobody else's", 0b1111, x.wants(1));
        x.want(0, 0, true);
        Check.same("it does not end before the next coin", 0b1111, x.wants(0));
        x.melt(0);
        Check.same("nor when a coin is lost", 0b1111, x.wants(0));
    }

    private static void aWantEndsWithACoinThatIsSwapped() {
        DieRegister x = Scene.round(4);
        for (int collector = 0; collector < 4; collector++) {
            x.want(collector, collector, true);
        }
        x.want(7, 0, true);
        x.swap();
        for (int collector = 0; collector < 4; collector++) {
            Check.same("the want of the coin that is got", 1 << collector, x.wants(collector));
        }
        Check.same("nobody else's", 1, x.wants(7));
    }

    private static void aWantEndsWhenTheDieIsCondemned() {
        DieRegister x = Scene.forged();
        for (int collector = 0; collector < 8; collector++) {
            x.want(collector, 0, true);
            x.want(collector, 1, true);
        }
        x.condemn(1);
        for (int collector = 0; collector < 8; collector++) {
            Check.same("the want of that die", 0b01, x.wants(collector));
        }
        Check.badState("it does not begin again", () -> x.want(0, 1, true));
    }

    private static void fairnessIsZeroTo100() {
        DieRegister x = new DieRegister();
        x.setFairness(7, 0);
        Check.same("the lowest fairness", 0, x.setFairness(7, 100));
        Check.same("the highest fairness", 100, x.setFairness(7, 1));
        Check.badArgument("below the lowest fairness", () -> x.setFairness(7, -1));
        Check.badArgument("above the highest fairness", () -> x.setFairness(7, 101));
        Check.same("it stayed", 1, x.setFairness(7, 99));
        Check.same("just below the highest", 99, x.setFairness(7, 0));
    }

    private static void fairnessIs50AtFirst() {
        DieRegister x = new DieRegister();
        for (int collector = 0; collector < 8; collector++) {
            Check.same("fairness of " + collector, 50, x.setFairness(collector, collector));
        }
        for (int collector = 0; collector < 8; collector++) {
            Check.same("each has their own", collector, x.setFairness(collector, 0));
        }
    }

    // ---- offers

    private static void aMarkedCoinIsOffered() {
        DieRegister x = Scene.mint("1", 0);
        x.give(0, 0);
        Check.same("a single one", 0, x.offers(0));
        x.mark(0, true);
        Check.same("a marked one", 1, x.offers(0));
        x.mark(0, false);
        Check.same("not marked any more", 0, x.offers(0));
    }

    private static void oneOfTwoTrueCoinsIsOffered() {
        DieRegister x = new DieRegister();
        x.addDie(0);
        x.strike(0, 10);
        for (int coin = 0; coin < 10; coin++) {
            Check.same("with " + coin, coin > 1 ? 1 : 0, x.offers(0));
            x.give(coin, 0);
        }
        Check.same("with 10", 1, x.offers(0));
    }

    private static void theOtherOneMustBeTrue() {
        DieRegister x = Scene.mint("3", 0);
        x.give(0, 0);
        x.give(2, 0);
        Check.same("two", 1, x.offers(0));
        x.melt(2);
        Check.same("the other one was melted", 0, x.offers(0));
    }

    private static void theOtherOneMustBeOwned() {
        DieRegister x = Scene.mint("3", 0);
        x.give(0, 0);
        x.give(1, 1);
        Check.same("the others are in the mint and somebody else's", 0, x.offers(0));
        Check.same("the others are in the mint and somebody else's", 0, x.offers(1));
    }

    private static void theOtherOneMustBeOfTheDie() {
        DieRegister x = Scene.forged();
        x.give(0, 0);
        x.give(3, 0);
        Check.same("it only looks the same", 0b11, x.couldBeOf(0));
        Check.same("two of two dies", 0, x.offers(0));
    }

    private static void aFalseCoinIsNotOffered() {
        DieRegister x = Scene.forged();
        Scene.offer(x, 3, 0);
        Scene.offer(x, 4, 0);
        Check.same("true ones", 0b10, x.offers(0));
        x.condemn(1);
        Check.same("two marked false ones", 0, x.offers(0));
    }

    private static void theLowestCoinOfADieIsMeant() {
        DieRegister x = Scene.mint("41", 0, 0);
        x.give(3, 0);
        x.give(1, 0);
        x.give(2, 0);
        x.mark(3, true);
        Scene.offer(x, 4, 1);
        x.want(0, 1, true);
        x.want(1, 0, true);
        x.setFairness(1, 0);
        Check.same("the lowest one, given in between", 1, x.ringAt(0));
        x.melt(1);
        Check.same("the next one", 2, x.ringAt(0));
        x.melt(2);
        Check.same("the one that is left is marked", 3, x.ringAt(0));
        x.mark(3, false);
        Check.same("the one that is left is not marked", 0, x.ring());
    }

    private static void aMarkEndsWithSomebodyElse() {
        DieRegister x = Scene.round(4);
        x.swap();
        for (int coin = 0; coin < 4; coin++) {
            Check.no("the mark ended", x.mark(coin, false));
        }
    }

    private static void aMarkStaysOtherwise() {
        DieRegister x = Scene.forged();
        Scene.offer(x, 0, 0);
        Scene.offer(x, 3, 0);
        x.give(1, 0);
        x.melt(1);
        x.condemn(1);
        Check.yes("another one came and went", x.mark(0, true));
        Check.yes("the die was condemned", x.mark(3, true));
    }

    // ---- rings

    private static void expectRing(String what, DieRegister x, int... due) {
        Check.same(what + ", how many", due.length, x.ring());
        for (int place = 0; place < due.length; place++) {
            if (place < x.ring()) {
                Check.same(what + ", place " + place, due[place], x.ringAt(place));
            }
        }
    }

    private static void aRingHasTwoToFourCollectors() {
        expectRing("one", Scene.round(1));
        expectRing("two", Scene.round(2), 0, 1001);
        expectRing("three", Scene.round(3), 0, 1001, 2002);
        expectRing("four", Scene.round(4), 0, 1001, 2002, 3003);
        for (int count = 5; count <= 8; count++) {
            expectRing("more than four", Scene.round(count));
        }
    }

    private static void nobodyIsARing() {
        DieRegister x = new DieRegister();
        Check.same("without dies", 0, x.ring());
        x.addDie(0);
        x.want(0, 0, true);
        Check.same("without coins", 0, x.ring());
        x.strike(0, 1);
        Check.same("without owners", 0, x.ring());
    }

    private static void theCollectorsAreDifferent() {
        // To give 4000 for 1000 is not fair to the collector 1, who would have to give the coin 1
        // to themself in between.
        DieRegister x = Scene.mint("114", 0, 1, 3);
        Scene.offer(x, 0, 0);
        Scene.offer(x, 1, 1);
        Scene.offer(x, 2, 1);
        x.want(1, 0, true);
        x.want(1, 1, true);
        x.want(0, 2, true);
        expectRing("a collector at two places", x);
        x.setFairness(1, 25);
        expectRing("at one place", x, 0, 1002);
    }

    private static void theFirstCollectorHasTheLowestNumber() {
        DieRegister x = Scene.mint("1111", 0, 0, 0, 0);
        int[] row = {4, 7, 5, 6};
        for (int i = 0; i < 4; i++) {
            Scene.offer(x, i, row[(i + 2) % 4]);
            x.want(row[(i + 3) % 4], i, true);
        }
        expectRing("the lowest one stands in the middle", x, 4002, 7003, 5000, 6001);
    }

    private static void eachGivesToTheNextOne() {
        DieRegister x = Scene.round(3);
        x.swap();
        Check.same("the first one to the second one", 1, x.owner(0));
        Check.same("the second one to the third one", 2, x.owner(1));
        Check.same("the last one to the first one", 0, x.owner(2));
    }

    private static void eachMustWant() {
        for (int collectors = 2; collectors <= 4; collectors++) {
            for (int out = 0; out < collectors; out++) {
                DieRegister x = Scene.round(collectors);
                x.want(out, (out + collectors - 1) % collectors, false);
                expectRing("all but one want", x);
            }
        }
    }

    private static void eachMustOffer() {
        for (int collectors = 2; collectors <= 4; collectors++) {
            for (int out = 0; out < collectors; out++) {
                DieRegister x = Scene.round(collectors);
                x.mark(out, false);
                expectRing("all but one offer", x);
            }
        }
    }

    private static void fairnessIsMetExactly() {
        DieRegister x = Scene.pair(0, 1);
        x.setFairness(1, 50);
        expectRing("1000 for 2000 is 50 of 100", x, 0, 1001);
        DieRegister y = Scene.pair(0, 3);
        y.setFairness(1, 10);
        expectRing("1000 for 10000 is 10 of 100", y, 0, 1001);
    }

    private static void fairnessIsMissedByOne() {
        DieRegister x = Scene.pair(0, 1);
        x.setFairness(1, 51);
        expectRing("1000 for 2000 is not 51 of 100", x);
        DieRegister y = Scene.pair(3, 0);
        y.setFairness(0, 11);
        expectRing("1000 for 10000 is not 11 of 100", y);
        // Prices that differ by 1: 2000 shared by 39 is 51, and by 40 is 50.
        DieRegister z = new DieRegister();
        z.addDie(0);
        z.addDie(0);
        z.strike(0, 20);
        z.strike(0, 18);
        z.strike(1, 20);
        z.strike(1, 19);
        Scene.offer(z, 0, 0);
        Scene.offer(z, 38, 1);
        z.want(0, 1, true);
        z.want(1, 0, true);
        z.setFairness(1, 100);
        z.setFairness(0, 98);
        expectRing("50 for 51 is 98 of 100", z, 0, 1038);
        z.setFairness(0, 99);
        expectRing("50 for 51 is not 99 of 100", z);
        z.setFairness(0, 100);
        expectRing("50 for 51 is not 100 of 100", z);
    }

    private static void fairnessZeroTakesAnyPrice() {
        DieRegister x = new DieRegister();
        x.addDie(0);
        x.addDie(3);
        x.strike(0, 20);
        x.strike(0, 20);
        x.strike(1, 1);
        Scene.offer(x, 0, 0);
        Scene.offer(x, 40, 1);
        x.want(0, 1, true);
        x.want(1, 0, true);
        x.setFairness(1, 1);
        expectRing("48 for 10000 is not 1 of 100", x);
        x.setFairness(1, 0);
        expectRing("48 for 10000", x, 0, 1040);
    }

    private static void fairness100TakesTheSamePrice() {
        DieRegister x = Scene.pair(2, 2);
        x.setFairness(0, 100);
        x.setFairness(1, 100);
        expectRing("the same price", x, 0, 1001);
        x.strike(0, 1);
        expectRing("one is less rare", x);
        x.strike(1, 1);
        expectRing("both are less rare", x, 0, 1001);
    }

    private static void fairnessOfEachInARingCounts() {
        for (int collectors = 2; collectors <= 4; collectors++) {
            for (int dear = 0; dear < collectors; dear++) {
                DieRegister x = Scene.round(collectors);
                int cheap = (dear + collectors - 1) % collectors;
                x.strike(cheap, 2);
                expectRing("500 for 1000", x, firsts(collectors));
                x.setFairness(dear, 51);
                expectRing("500 for 1000 is not 51 of 100", x);
            }
        }
    }

    /** The ring in which each of the first collectors gives the coin with their own number. */
    private static int[] firsts(int collectors) {
        int[] due = new int[collectors];
        for (int place = 0; place < collectors; place++) {
            due[place] = 1001 * place;
        }
        return due;
    }

    // ---- the order of rings

    /** As many dies of the same type as told, with two coins each: die d has 2 * d, 2 * d + 1. */
    private static DieRegister twoOfEach(int dies) {
        DieRegister x = new DieRegister();
        for (int die = 0; die < dies; die++) {
            x.addDie(0);
            x.strike(die, 2);
        }
        return x;
    }

    private static void offerTo(DieRegister x, int giver, int coin, int... wanting) {
        Scene.offer(x, coin, giver);
        for (int collector : wanting) {
            x.want(collector, coin / 2, true);
        }
    }

    private static void fewerCollectorsGoFirst() {
        DieRegister x = twoOfEach(9);
        offerTo(x, 0, 0, 1);
        offerTo(x, 1, 2, 2);
        offerTo(x, 2, 4, 3);
        offerTo(x, 3, 6, 0);
        expectRing("four", x, 0, 1002, 2004, 3006);
        offerTo(x, 4, 8, 5);
        offerTo(x, 5, 10, 6);
        offerTo(x, 6, 12, 4);
        expectRing("three go before four", x, 4008, 5010, 6012);
        offerTo(x, 6, 14, 7);
        offerTo(x, 7, 16, 6);
        expectRing("two go before three", x, 6014, 7016);
    }

    private static void theFirstCollectorGoesFirst() {
        DieRegister x = twoOfEach(4);
        offerTo(x, 2, 0, 3);
        offerTo(x, 3, 2, 2);
        expectRing("the only ring", x, 2000, 3002);
        offerTo(x, 1, 6, 4);
        offerTo(x, 4, 4, 1);
        expectRing("a lower first collector, of a higher die", x, 1006, 4004);
    }

    private static void theFirstDieGoesBeforeTheSecondCollector() {
        DieRegister x = twoOfEach(4);
        offerTo(x, 0, 2, 1);
        offerTo(x, 1, 4, 0);
        expectRing("the only ring", x, 2, 1004);
        offerTo(x, 0, 0, 7);
        offerTo(x, 7, 6, 0);
        expectRing("a lower first die, to a higher collector", x, 0, 7006);
    }

    private static void theSecondCollectorGoesBeforeTheSecondDie() {
        DieRegister x = twoOfEach(3);
        offerTo(x, 0, 0, 2);
        offerTo(x, 2, 2, 0);
        expectRing("the only ring", x, 0, 2002);
        offerTo(x, 1, 4, 0);
        x.want(1, 0, true);
        expectRing("a lower second collector, of a higher die", x, 0, 1004);
    }

    private static void theSecondDieGoesBeforeTheThirdCollector() {
        DieRegister x = twoOfEach(5);
        offerTo(x, 0, 0, 1);
        offerTo(x, 1, 4, 2);
        offerTo(x, 2, 6, 0);
        expectRing("the only ring", x, 0, 1004, 2006);
        offerTo(x, 1, 2, 3);
        offerTo(x, 3, 8, 0);
        expectRing("a lower second die, to a higher collector", x, 0, 1002, 3008);
    }

    private static void theThirdCollectorGoesBeforeTheThirdDie() {
        DieRegister x = twoOfEach(4);
        offerTo(x, 0, 0, 1);
        offerTo(x, 1, 2, 3);
        offerTo(x, 3, 4, 0);
        expectRing("the only ring", x, 0, 1002, 3004);
        offerTo(x, 2, 6, 0);
        x.want(2, 1, true);
        expectRing("a lower third collector, of a higher die", x, 0, 1002, 2006);
    }

    private static void theThirdDieGoesBeforeTheFourthCollector() {
        DieRegister x = twoOfEach(6);
        offerTo(x, 0, 0, 1);
        offerTo(x, 1, 2, 2);
        offerTo(x, 2, 6, 3);
        offerTo(x, 3, 8, 0);
        expectRing("the only ring", x, 0, 1002, 2006, 3008);
        offerTo(x, 2, 4, 4);
        offerTo(x, 4, 10, 0);
        expectRing("a lower third die, to a higher collector", x, 0, 1002, 2004, 4010);
    }

    private static void theFourthCollectorGoesBeforeTheFourthDie() {
        DieRegister x = twoOfEach(5);
        offerTo(x, 0, 0, 1);
        offerTo(x, 1, 2, 2);
        offerTo(x, 2, 4, 4);
        offerTo(x, 4, 6, 0);
        expectRing("the only ring", x, 0, 1002, 2004, 4006);
        offerTo(x, 3, 8, 0);
        x.want(3, 2, true);
        expectRing("a lower fourth collector, of a higher die", x, 0, 1002, 2004, 3008);
    }

    private static void theFourthDieComesLast() {
        DieRegister x = twoOfEach(5);
        offerTo(x, 0, 0, 1);
        offerTo(x, 1, 2, 2);
        offerTo(x, 2, 4, 3);
        offerTo(x, 3, 8, 0);
        expectRing("the only ring", x, 0, 1002, 2004, 3008);
        offerTo(x, 3, 6, 0);
        expectRing("a lower fourth die", x, 0, 1002, 2004, 3006);
    }

    private static void diesAreComparedNotCoins() {
        DieRegister x = Scene.mint("000", 0, 0, 0);
        x.strike(1, 1);
        x.strike(0, 1);
        x.strike(2, 1);
        Scene.offer(x, 0, 0);
        Scene.offer(x, 1, 0);
        Scene.offer(x, 2, 1);
        x.want(1, 0, true);
        x.want(1, 1, true);
        x.want(0, 2, true);
        expectRing("the lower die has the higher coin", x, 1, 1002);
    }

    // ---- swaps

    private static void aSwapIsDoneAllAtOnce() {
        DieRegister x = Scene.round(4);
        for (int c = 0; c < 4; c++) {
            x.want(c, c, true);
        }
        Check.same("swap", 4, x.swap());
        for (int c = 0; c < 4; c++) {
            Check.same("each coin moved by one", (c + 1) % 4, x.owner(c));
            Check.same("each has one", (c + 3) % 4, x.coinAt(c, 0));
            int collector = c;
            Check.outOfBounds("each has only one", () -> x.coinAt(collector, 1));
        }
    }

    private static void aSwapOfThoseWhoOwnTen() {
        DieRegister x = Scene.mint("00", 0, 0);
        for (int die = 0; die < 2; die++) {
            x.strike(die, 11);
            for (int coin = 11 * die; coin < 11 * die + 10; coin++) {
                x.give(coin, die);
            }
            x.want(die, 1 - die, true);
        }
        Check.same("both own ten", 2, x.swap());
        for (int c = 0; c < 2; c++) {
            int collector = c;
            Check.outOfBounds("still ten", () -> x.coinAt(collector, 10));
            Check.badState("no room", () -> x.give(10, collector));
            Check.same("the coin that was got", 11 * (1 - c), x.coinAt(c, c == 0 ? 9 : 0));
        }
    }

    private static void thereAreAtMost60Swaps() {
        DieRegister x = Scene.swapped(59);
        Check.same("before the 60th", 59, x.swaps());
        Check.same("the 60th", 2, x.swap());
        Check.same("after the 60th", 60, x.swaps());
        Scene.makeReady(x, 60);
        Check.badState("the 61st", x::swap);
        Check.same("the first swap", 0, x.swapAt(0, 0));
        Check.same("the last swap", 1, x.swapAt(59, 0));
        Check.outOfBounds("no swap 60", () -> x.swapAt(60, 0));
    }

    // ---- An object is used for at most 512 calls

    private static void theLastCall() {
        DieRegister x = Scene.pair(0, 0);
        // Ten calls made the pair: two dies, two coins, two given, two marked, two wanted.
        for (int call = 10; call < 511; call++) {
            Check.same("call " + call, 2, x.ring());
        }
        Check.same("the 512th call", 2, x.swap());
        DieRegister y = new DieRegister();
        for (int call = 0; call < 511; call++) {
            Check.outOfBounds("call " + call, () -> y.addDie(4));
        }
        Check.same("the 512th call", 0, y.addDie(3));
    }
}
