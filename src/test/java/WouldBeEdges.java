/** The boundary cases of promises 22 to 25: what would be with the other hand, other keys, another rest. */
final class WouldBeEdges extends Edges {

    // ---- promise 22: otherHand

    static void p22_0WithoutEvents() {
        due(new HandFingers().otherHand(), 0);
    }

    static void p22_noneIfNoFingeringIsAllowedThen() {
        HandFingers x = piece(R + "play 60 64 by 1 3;");
        due(x.best(), 0);
        due(x.otherHand(), HandFingers.NONE);
    }

    static void p22_theOtherHandMayWhereThisOneMayNot() {
        HandFingers x = piece(R + "play 60 64 by 3 1;");
        due(x.best(), -1);
        due(x.otherHand(), 0);
    }

    static void p22_theOtherOneOfTheLeftHandIsTheRightOne() {
        due(piece("hand left;play 60 64 by 1 3;").otherHand(), 0);
        due(piece("hand left;play 60 64 by 3 1;").otherHand(), -1);
    }

    static void p22_noHandCanPlayIt() {
        due(piece(R + "play 60 75;").otherHand(), -1);
    }

    static void p22_allElseIsAsItIs() {
        HandFingers x = piece("hand left;weight cross 9;span 1 2 4 5 6;play 60 rest 1 by 1;play 62 by 2;play 64 rest 9 by 1;"
                + "play 91 by 5;");
        // 2 is below the low 4 by 2, less 2 for the rest; a crossing; a free passage.
        due(x.otherHand(), 2 + 9);
    }

    static void p22_askedAnewAfterAChange() {
        HandFingers x = piece("hand left;play 60 by 1;play 62 by 1;");
        due(x.otherHand(), 4);
        x.setWeight(4, 5);
        due(x.otherHand(), 10);
        x.play(2, 62, 0, 0, 0);
        due(x.otherHand(), 11);
        x.undo();
        x.undo();
        due(x.otherHand(), 4);
    }

    static void p22_nothingIsChanged() {
        HandFingers x = piece(R + "play 60 64 by 1 3;");
        tell(x, "12345");
        String before = state(x);
        x.otherHand();
        due(state(x), before);
        due(x.best(), 0);
        due(x.undo(), 0);
    }

    // ---- promise 23: transposed

    static void p23_by0IsTheBestCost() {
        due(piece(R + "play 61 by 1;").transposed(0), 4);
        due(piece(BARRED).transposed(0), -1);
    }

    static void p23_withoutEventsEachNumberUpTo87Is0() {
        due(new HandFingers().transposed(87), 0);
        due(new HandFingers().transposed(-87), 0);
    }

    static void p23_88IsOutOfRangeWithoutEventsToo() {
        HandFingers x = new HandFingers();
        refused(x, ARGUMENT, () -> x.transposed(88));
        refused(x, ARGUMENT, () -> x.transposed(-88));
        thrown(ARGUMENT, () -> x.transposed(MAX));
        thrown(ARGUMENT, () -> x.transposed(MIN));
    }

    static void p23_allTheWayUp() {
        due(piece(R + "play 21 by 1;").transposed(87), 0);
    }

    static void p23_allTheWayDown() {
        due(piece(R + "play 108 by 1;").transposed(-87), 0);
    }

    static void p23_aKeyOf108IsInRange() {
        due(piece(R + "play 60 rest 9;play 107 by 1;").transposed(1), 0);
    }

    static void p23_aKeyOf109IsNot() {
        HandFingers x = piece(R + "play 60 rest 9;play 107;play 60;");
        refused(x, ARGUMENT, () -> x.transposed(2));
    }

    static void p23_aKeyOf21IsInRange() {
        due(piece(R + "play 60 by 2;play 22 rest 9 by 2;").transposed(-1), 76);
    }

    static void p23_aKeyOf20IsNot() {
        HandFingers x = piece(R + "play 60 rest 9;play 22;play 60;");
        refused(x, ARGUMENT, () -> x.transposed(-2));
    }

    static void p23_eachNoteOfAnEventCounts() {
        HandFingers x = piece(R + "play 50 52 107;");
        due(x.transposed(1), -1);
        thrown(ARGUMENT, () -> x.transposed(2));
        HandFingers y = piece(R + "play 22 52 60;");
        due(y.transposed(-1), -1);
        thrown(ARGUMENT, () -> y.transposed(-2));
    }

    static void p23_aPieceFromTheLeastToTheGreatestKeyStaysWhereItIs() {
        HandFingers x = piece(R + "play 21 rest 9;play 108;");
        due(x.transposed(0), 0);
        thrown(ARGUMENT, () -> x.transposed(1));
        thrown(ARGUMENT, () -> x.transposed(-1));
    }

    static void p23_noneIfNoFingeringIsAllowedThen() {
        HandFingers x = piece(BARRED);
        due(x.transposed(1), HandFingers.NONE);
        due(x.transposed(-1), HandFingers.NONE);
        due(x.transposed(12), HandFingers.NONE);
    }

    static void p23_aKeyOutOfRangeIsRefusedThoughNoFingeringIsAllowed() {
        HandFingers x = piece(BARRED);
        thrown(ARGUMENT, () -> x.transposed(29));
        thrown(ARGUMENT, () -> x.transposed(-40));
    }

    static void p23_blackKeysByEachNumberUpAndDown() {
        HandFingers x = piece(R + "play 60 by 1;");
        for (int by = -39; by <= 48; by++) {
            due(x.transposed(by), "010100101010".charAt((60 + by) % 12) == '1' ? 4 : 0);
        }
    }

    /** Of ten ways each, 4 and 5 alone stretch no finger: what it costs is whether the upper key is black. */
    private static HandFingers fortyOfTenWays() {
        return piece(R + "weight repeat 0;weight weak 0;weight black 1;span 1 2 2 2 2;span 2 3 2 2 2;span 3 4 2 2 2;"
                + "play 60 61;".repeat(40));
    }

    static void p23_fortyEventsOfTenWays() {
        HandFingers x = fortyOfTenWays();
        due(x.event(39, 2), 10);
        due(x.transposed(0), 40);
        due(x.transposed(1), 0);
        due(x.transposed(2), 40);
        due(x.transposed(-1), 0);
        due(x.transposed(47), 0);
        thrown(ARGUMENT, () -> x.transposed(48));
        due(x.transposed(-39), 40);
        thrown(ARGUMENT, () -> x.transposed(-40));
    }

    static void p23_nothingIsChanged() {
        HandFingers x = piece(R + "play 60 by 1;");
        String before = state(x);
        due(x.transposed(1), 4);
        due(state(x), before);
        due(x.best(), 0);
        due(x.undo(), 0);
    }

    static void p23_askedAnewAfterAChange() {
        HandFingers x = piece(R + "play 60 by 1;");
        due(x.transposed(1), 4);
        x.setWeight(5, 9);
        due(x.transposed(1), 9);
        x.undo();
        due(x.transposed(1), 4);
    }

    // ---- promise 24: easiest

    static void p24_aRangeOf0() {
        due(piece(R + "play 61 by 1;").easiest(0), 0);
    }

    static void p24_aRangeOf24() {
        due(piece(R + "play 61 by 1;").easiest(24), -1);
    }

    static void p24_aRangeBelow0IsRefused() {
        HandFingers x = piece(R + "play 61 by 1;");
        refused(x, ARGUMENT, () -> x.easiest(-1));
        thrown(ARGUMENT, () -> x.easiest(MIN));
    }

    static void p24_aRangeOf25IsRefused() {
        HandFingers x = piece(R + "play 61 by 1;");
        refused(x, ARGUMENT, () -> x.easiest(25));
        thrown(ARGUMENT, () -> x.easiest(MAX));
    }

    static void p24_0WithoutEvents() {
        due(new HandFingers().easiest(0), 0);
        due(new HandFingers().easiest(24), 0);
    }

    static void p24_noElementIfNoFingeringIsAllowed() {
        HandFingers x = piece(BARRED);
        refused(x, ELEMENT, () -> x.easiest(0));
        thrown(ELEMENT, () -> x.easiest(24));
    }

    static void p24_theRangeIsLookedAtBeforeTheFingerings() {
        HandFingers x = piece(BARRED);
        thrown(ARGUMENT, () -> x.easiest(-1));
        thrown(ARGUMENT, () -> x.easiest(25));
    }

    static void p24_ofSeveralTheOneNearestTo0() {
        due(piece(R + "play 60 by 1;").easiest(24), 0);
        due(piece(R + "play 62 by 1;play 63 by 1;").easiest(24), 2);
        due(piece(R + "play 61 by 1;play 62 by 1;").easiest(24), -2);
    }

    static void p24_ofTwoAsNearTheNegativeOne() {
        // 67 and 69 are white, 68 is black.
        due(piece(R + "play 68 by 1;").easiest(1), -1);
    }

    static void p24_theRangeItselfIsAskedUp() {
        HandFingers x = piece(R + "play 62 by 1;play 63 by 1;");
        due(x.easiest(1), 0);
        due(x.easiest(2), 2);
    }

    static void p24_theRangeItselfIsAskedDown() {
        HandFingers x = piece(R + "play 61 by 1;play 62 by 1;");
        due(x.easiest(1), 0);
        due(x.easiest(2), -2);
    }

    static void p24_noKeyBelow21() {
        // 69 would be white, but 20 is no key.
        due(piece(R + "play 21 rest 9 by 3;play 70 by 1;").easiest(24), 1);
        due(piece(R + "play 22 rest 9 by 3;play 70 by 1;").easiest(24), -1);
    }

    static void p24_noKeyAbove108() {
        // 61 and 59: 62 and 60 would be white, but 109 is no key; down by 1, 58 is black; down by 2 both are white.
        HandFingers x = piece(R + "play 108 rest 9 by 3;play 61 rest 9 by 1;play 59 by 1;");
        due(x.easiest(1), 0);
        due(x.easiest(2), -2);
        due(piece(R + "play 107 rest 9 by 3;play 61 rest 9 by 1;play 59 by 1;").easiest(1), 1);
    }

    static void p24_fortyEventsOfTenWays() {
        due(fortyOfTenWays().easiest(24), -1);
    }

    static void p24_aPieceFromTheLeastToTheGreatestKeyStaysWhereItIs() {
        due(piece(R + "play 21 rest 9 by 3;play 108 rest 9 by 3;play 61 by 1;").easiest(24), 0);
    }

    static void p24_nothingIsChanged() {
        HandFingers x = piece(R + "play 61 by 1;");
        String before = state(x);
        x.easiest(24);
        due(state(x), before);
        due(x.best(), 4);
        due(x.undo(), 0);
    }

    // ---- promise 25: restBehind

    static void p25_noneWithoutEvents() {
        due(new HandFingers().restBehind(), HandFingers.NONE);
    }

    static void p25_noneOfOneEvent() {
        due(piece(R + "play 61 by 1;").restBehind(), HandFingers.NONE);
    }

    static void p25_theFirstEvent() {
        due(piece(R + "play 60 by 1;play 61 by 1;play 61 by 2;").restBehind(), 0);
    }

    static void p25_theLastEventThatHasANextOne() {
        due(piece(R + "play 60 by 2;play 60 by 1;play 62 by 1;").restBehind(), 1);
    }

    static void p25_ofFortyEventsTheLastThatHasANextOne() {
        due(piece(R + "play 60 by 1;".repeat(39) + "play 80 by 1;").restBehind(), 38);
    }

    static void p25_theEventThatHasNoNextOneIsNotAsked() {
        due(piece(R + "play 60 rest 9;play 61 by 1;").restBehind(), -1);
    }

    static void p25_aDroppedEventIsNoNextOne() {
        HandFingers x = piece(R + "play 60 by 1;play 81 by 1;");
        due(x.restBehind(), 0);
        x.drop(1);
        due(x.restBehind(), -1);
    }

    static void p25_ofSeveralTheLowest() {
        due(piece(R + "play 60 by 1;play 60 by 1;play 60 by 1;play 60 by 1;").restBehind(), 0);
    }

    static void p25_theOneThatHelpsMost() {
        due(piece(R + "play 60 by 1;play 60 by 1;play 62 by 1;play 60 by 1;").restBehind(), 1);
    }

    static void p25_noneIfTheBestCostWouldBeTheSame() {
        due(piece(R + "play 60;play 62;").restBehind(), -1);
        due(piece(R + "play 60 rest 9 by 1;play 80 by 1;").restBehind(), -1);
    }

    static void p25_aRestOf9ThatFreesNothingEases() {
        HandFingers x = piece(R + "weight free 10;play 60 by 1;play 80 by 1;");
        due(x.restBehind(), 0);
        x.setWeight(7, 0);
        due(x.restBehind(), -1);
    }

    static void p25_aRestOf9FreesIfFreeIs9() {
        due(piece(R + "weight free 9;play 60 by 5;play 80 by 1;").restBehind(), 0);
        due(piece(R + "weight free 10;play 60 by 5;play 80 by 1;").restBehind(), -1);
    }

    static void p25_oneThatAllowsAFingering() {
        due(piece(R + "play 60 by 1;play 61 by 5;play 81 by 1;").restBehind(), 1);
    }

    static void p25_noneIfNoOneRestAllowsAFingering() {
        due(piece(R + "play 60 by 5;play 80 by 1;play 60 by 5;play 80 by 1;").restBehind(), -1);
        due(piece(R + "play 60 75;play 60;").restBehind(), -1);
    }

    static void p25_nothingIsChanged() {
        HandFingers x = piece(BARRED);
        String before = state(x);
        due(x.restBehind(), 0);
        due(state(x), before);
        due(x.best(), -1);
        due(x.undo(), 0);
    }
}
