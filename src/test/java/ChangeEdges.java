/** The boundary cases of promises 26 to 37: the changes, undoing them, saving and restoring. */
final class ChangeEdges extends Edges {
    private static final String TWO = "hand right;play 60 rest 1 by 3;play 61 64 by 0 5;";

    /** The latest change was that of load: the call that was refused since is none. */
    private static void noChangeButLoad(HandFingers x) {
        due(x.undo(), 0);
        due(state(x), state(new HandFingers()).replace("error -1", "error " + x.errorPosition()));
    }

    /** The call is a change: undo brings back what was ahead of it, and load can still be undone. */
    private static void isOneChange(HandFingers x, Call call) {
        String before = state(x);
        call.run();
        due(x.undo(), 1);
        due(state(x), before);
        due(x.undo(), 0);
    }

    // ---- promise 26: play

    static void p26_theFirstEventOfAll() {
        HandFingers x = new HandFingers();
        due(x.play(0, 60, 0, 0, 0), 1);
        due(eventOf(x, 0), "[60/31 rest 0]");
    }

    static void p26_aheadOfAllOthers() {
        HandFingers x = piece(TWO);
        due(x.play(0, 70, 72, 75, 9), 3);
        due(eventOf(x, 0), "[70/31 72/31 75/31 rest 9]");
        due(eventOf(x, 1), "[60/4 rest 1]");
        due(eventOf(x, 2), "[61/31 64/16 rest 0]");
    }

    static void p26_aheadOfEventsOfEachNumberOfNotes() {
        HandFingers x = piece(R + "play 60 62 64 rest 3 by 1 2 3;play 70 rest 4 by 4;play 71 73 rest 5 by 5 0;");
        due(x.play(0, 50, 0, 0, 0), 4);
        due(eventOf(x, 0), "[50/31 rest 0]");
        due(eventOf(x, 1), "[60/1 62/2 64/4 rest 3]");
        due(eventOf(x, 2), "[70/8 rest 4]");
        due(eventOf(x, 3), "[71/16 73/31 rest 5]");
    }

    static void p26_betweenOthers() {
        HandFingers x = piece(TWO);
        due(x.play(1, 70, 72, 0, 9), 3);
        due(eventOf(x, 0), "[60/4 rest 1]");
        due(eventOf(x, 1), "[70/31 72/31 rest 9]");
        due(eventOf(x, 2), "[61/31 64/16 rest 0]");
    }

    static void p26_behindAllOthers() {
        HandFingers x = piece(TWO);
        due(x.play(2, 70, 0, 0, 9), 3);
        due(eventOf(x, 1), "[61/31 64/16 rest 0]");
        due(eventOf(x, 2), "[70/31 rest 9]");
    }

    static void p26_aPlaceBelow0IsRefused() {
        HandFingers x = piece(TWO);
        refused(x, INDEX, () -> x.play(-1, 60, 0, 0, 0));
        thrown(INDEX, () -> x.play(MIN, 60, 0, 0, 0));
        noChangeButLoad(x);
    }

    static void p26_aPlaceAboveTheNumberOfEventsIsRefused() {
        HandFingers x = piece(TWO);
        refused(x, INDEX, () -> x.play(3, 60, 0, 0, 0));
        thrown(INDEX, () -> x.play(MAX, 60, 0, 0, 0));
        noChangeButLoad(x);
        thrown(INDEX, () -> new HandFingers().play(1, 60, 0, 0, 0));
    }

    static void p26_theFirstKeyIs21To108() {
        HandFingers x = new HandFingers();
        due(x.play(0, 21, 0, 0, 0), 1);
        due(x.play(0, 108, 0, 0, 0), 2);
        due(x.note(0, 0, 0), 108);
        refusedEach(x, ARGUMENT, new int[] {20, 109, 0, -1, MIN, MAX}, key -> x.play(0, key, 0, 0, 0));
        due(x.undo(), 1);
    }

    static void p26_theSecondKeyIsGreaterAndAtMost108() {
        HandFingers x = new HandFingers();
        due(x.play(0, 60, 61, 0, 0), 1);
        due(x.play(0, 60, 108, 0, 0), 2);
        refusedEach(x, ARGUMENT, new int[] {60, 59, 21, 109, 1, -1, MIN, MAX}, key -> x.play(0, 60, key, 0, 0));
        due(x.undo(), 1);
    }

    static void p26_theThirdKeyIsGreaterAndAtMost108() {
        HandFingers x = new HandFingers();
        due(x.play(0, 60, 61, 62, 0), 1);
        due(x.play(0, 60, 61, 108, 0), 2);
        refusedEach(x, ARGUMENT, new int[] {61, 60, 21, 109, 1, -1, MIN, MAX}, key -> x.play(0, 60, 61, key, 0));
        due(x.undo(), 1);
    }

    static void p26_noKeyAboveThe108th() {
        HandFingers x = new HandFingers();
        due(x.play(0, 106, 107, 108, 0), 1);
        due(x.play(0, 108, 0, 0, 0), 2);
        thrown(ARGUMENT, () -> x.play(0, 108, 109, 0, 0));
        thrown(ARGUMENT, () -> x.play(0, 107, 108, 109, 0));
    }

    static void p26_0IsNoSecondKey() {
        HandFingers x = new HandFingers();
        x.play(0, 60, 0, 0, 0);
        due(x.event(0, 0), 1);
    }

    static void p26_0IsNoThirdKey() {
        HandFingers x = new HandFingers();
        x.play(0, 60, 61, 0, 0);
        due(x.event(0, 0), 2);
    }

    static void p26_noThirdKeyWithoutASecondOne() {
        HandFingers x = new HandFingers();
        refused(x, ARGUMENT, () -> x.play(0, 60, 0, 61, 0));
        thrown(ARGUMENT, () -> x.play(0, 60, 0, -1, 0));
    }

    static void p26_aRestIs0To9() {
        HandFingers x = new HandFingers();
        due(x.play(0, 60, 0, 0, 0), 1);
        due(x.play(1, 60, 0, 0, 9), 2);
        due(x.event(1, 1), 9);
        refusedEach(x, ARGUMENT, new int[] {-1, 10, MIN, MAX}, rest -> x.play(0, 60, 0, 0, rest));
        due(x.undo(), 1);
    }

    static void p26_thePlaceIsLookedAtBeforeTheKeysAndTheRest() {
        HandFingers x = new HandFingers();
        thrown(INDEX, () -> x.play(1, 20, 0, 0, 0));
        thrown(INDEX, () -> x.play(-1, 60, 0, 0, 10));
    }

    static void p26_theFortiethEvent() {
        HandFingers x = piece(R + "play 60;".repeat(39));
        due(x.play(39, 61, 0, 0, 0), 40);
        due(x.note(39, 0, 0), 61);
        due(x.reaches(), 40);
    }

    static void p26_theFortiethEventAheadOfAllOthers() {
        HandFingers x = piece(R + "play 60;".repeat(38) + "play 62 64 rest 3 by 0 2;");
        due(x.play(0, 61, 0, 0, 0), 40);
        due(x.note(0, 0, 0), 61);
        due(eventOf(x, 39), "[62/31 64/2 rest 3]");
    }

    static void p26_the41stEventIsRefused() {
        HandFingers x = piece(R + "play 60;".repeat(40));
        String before = state(x);
        due(x.play(0, 61, 0, 0, 0), -10);
        due(x.play(40, 61, 62, 63, 9), -10);
        due(state(x), before);
        due(x.undo(), 0);
    }

    static void p26_thereIsRoomAgainBehindADrop() {
        HandFingers x = piece(R + "play 60;".repeat(40));
        x.drop(7);
        due(x.play(7, 61, 0, 0, 0), 40);
        due(x.play(7, 61, 0, 0, 0), -10);
    }

    static void p26_wrongArgumentsThrowWhereThereAre40EventsToo() {
        HandFingers x = piece(R + "play 60;".repeat(40));
        thrown(INDEX, () -> x.play(41, 60, 0, 0, 0));
        thrown(INDEX, () -> x.play(-1, 60, 0, 0, 0));
        refused(x, ARGUMENT, () -> x.play(40, 20, 0, 0, 0));
        thrown(ARGUMENT, () -> x.play(0, 109, 0, 0, 0));
        thrown(ARGUMENT, () -> x.play(0, 60, 60, 0, 0));
        thrown(ARGUMENT, () -> x.play(0, 60, 109, 0, 0));
        thrown(ARGUMENT, () -> x.play(0, 60, 0, 61, 0));
        thrown(ARGUMENT, () -> x.play(0, 60, 62, 62, 0));
        thrown(ARGUMENT, () -> x.play(0, 60, 0, 0, 10));
        thrown(ARGUMENT, () -> x.play(0, 60, 0, 0, -1));
        due(x.count(0), 40);
        due(x.play(0, 60, 0, 0, 0), -10);
        due(x.undo(), 0);
    }

    static void p26_aNewEventHasAllFingersWhereAnotherOneWas() {
        HandFingers x = piece(R + "play 60 62 64 rest 5 by 1 2 3;");
        x.drop(0);
        x.play(0, 60, 62, 64, 0);
        due(eventOf(x, 0), "[60/31 62/31 64/31 rest 0]");
    }

    // ---- promise 27: drop

    static void p27_theFirstEvent() {
        HandFingers x = piece(TWO + "play 70 rest 2 by 2;");
        due(x.drop(0), 2);
        due(eventOf(x, 0), "[61/31 64/16 rest 0]");
        due(eventOf(x, 1), "[70/2 rest 2]");
    }

    static void p27_theLastEvent() {
        HandFingers x = piece(TWO + "play 70 rest 2 by 2;");
        due(x.drop(2), 2);
        due(eventOf(x, 0), "[60/4 rest 1]");
        due(eventOf(x, 1), "[61/31 64/16 rest 0]");
    }

    static void p27_aheadOfEventsOfEachNumberOfNotes() {
        HandFingers x = piece(R + "play 50;play 70 rest 4 by 4;play 60 62 64 rest 3 by 1 2 3;play 71 73 rest 5 by 5 0;");
        due(x.drop(0), 3);
        due(eventOf(x, 0), "[70/8 rest 4]");
        due(eventOf(x, 1), "[60/1 62/2 64/4 rest 3]");
        due(eventOf(x, 2), "[71/16 73/31 rest 5]");
    }

    static void p27_theOnlyEvent() {
        HandFingers x = piece(R + "play 60 by 1;");
        due(x.drop(0), 0);
        due(x.best(), 0);
        due(x.count(3), -1);
    }

    static void p27_ofFortyEventsTheLast() {
        HandFingers x = piece(R + "play 60;".repeat(39) + "play 61;");
        due(x.drop(39), 39);
        due(x.count(4), 60);
    }

    static void p27_thereIsNoEventAheadOfTheFirst() {
        HandFingers x = piece(TWO);
        refused(x, INDEX, () -> x.drop(-1));
        thrown(INDEX, () -> x.drop(MIN));
        noChangeButLoad(x);
    }

    static void p27_thereIsNoEventBehindTheLast() {
        HandFingers x = piece(TWO);
        refused(x, INDEX, () -> x.drop(2));
        thrown(INDEX, () -> x.drop(MAX));
        noChangeButLoad(x);
    }

    static void p27_thereIsNoEventWithoutEvents() {
        HandFingers x = new HandFingers();
        refused(x, INDEX, () -> x.drop(0));
        thrown(STATE, x::undo);
    }

    // ---- promise 28: setRest

    static void p28_aRestOf0() {
        HandFingers x = piece(TWO);
        due(x.setRest(0, 0), 1);
        due(x.event(0, 1), 0);
    }

    static void p28_aRestOf9() {
        HandFingers x = piece(TWO);
        due(x.setRest(0, 9), 1);
        due(x.event(0, 1), 9);
        due(x.setRest(0, 9), 9);
    }

    static void p28_behindTheLastEvent() {
        HandFingers x = piece(TWO);
        due(x.setRest(1, 9), 0);
        due(x.event(1, 1), 9);
        due(x.event(0, 1), 1);
    }

    static void p28_aRestBelow0IsRefused() {
        HandFingers x = piece(TWO);
        refused(x, ARGUMENT, () -> x.setRest(0, -1));
        thrown(ARGUMENT, () -> x.setRest(0, MIN));
        noChangeButLoad(x);
    }

    static void p28_aRestOf10IsRefused() {
        HandFingers x = piece(TWO);
        refused(x, ARGUMENT, () -> x.setRest(0, 10));
        thrown(ARGUMENT, () -> x.setRest(0, MAX));
        noChangeButLoad(x);
    }

    static void p28_thereIsNoEventAheadOfTheFirst() {
        HandFingers x = piece(TWO);
        refused(x, INDEX, () -> x.setRest(-1, 0));
        thrown(INDEX, () -> x.setRest(MIN, 0));
        noChangeButLoad(x);
    }

    static void p28_thereIsNoEventBehindTheLast() {
        HandFingers x = piece(TWO);
        refused(x, INDEX, () -> x.setRest(2, 0));
        thrown(INDEX, () -> x.setRest(MAX, 0));
        noChangeButLoad(x);
        thrown(INDEX, () -> new HandFingers().setRest(0, 0));
    }

    static void p28_theEventIsLookedAtBeforeTheRest() {
        HandFingers x = piece(TWO);
        thrown(INDEX, () -> x.setRest(2, 10));
        thrown(INDEX, () -> x.setRest(-1, -1));
    }

    // ---- promise 29: let

    static void p29_theFirstAndTheLastFinger() {
        HandFingers x = piece(R + "play 60;");
        due(x.let(0, 0, 1, false), 30);
        due(x.let(0, 0, 5, false), 14);
        due(x.let(0, 0, 5, true), 30);
        due(x.let(0, 0, 1, true), 31);
    }

    static void p29_noFingerMayBeLeft() {
        HandFingers x = piece(R + "play 60;play 62;");
        for (int finger = 1; finger <= 5; finger++) {
            due(x.let(0, 0, finger, false), 31 >> finger << finger);
        }
        due(x.note(0, 0, 1), 0);
        due(x.note(1, 0, 1), 31);
        due(x.best(), -1);
    }

    static void p29_theOnlyFingerAgain() {
        HandFingers x = piece(R + "play 60 by 4;");
        due(x.let(0, 0, 4, false), 0);
        due(x.let(0, 0, 4, true), 8);
        due(x.best(), 1);
    }

    static void p29_whatIsSoAlreadyStays() {
        HandFingers x = piece(R + "play 60 by 4;");
        due(x.let(0, 0, 4, true), 8);
        due(x.let(0, 0, 3, false), 8);
    }

    static void p29_theLastNoteAlone() {
        HandFingers x = piece(R + "play 60;play 60 62 64;");
        due(x.let(1, 2, 3, false), 27);
        due(eventOf(x, 0), "[60/31 rest 0]");
        due(eventOf(x, 1), "[60/31 62/31 64/27 rest 0]");
    }

    static void p29_thereIsNoSuchEvent() {
        HandFingers x = piece(TWO);
        refused(x, INDEX, () -> x.let(-1, 0, 1, false));
        refused(x, INDEX, () -> x.let(2, 0, 1, false));
        thrown(INDEX, () -> x.let(MIN, 0, 1, true));
        thrown(INDEX, () -> x.let(MAX, 0, 1, true));
        noChangeButLoad(x);
        thrown(INDEX, () -> new HandFingers().let(0, 0, 1, true));
    }

    static void p29_aDroppedEventIsNotThere() {
        HandFingers x = piece(R + "play 60 62 64;play 60 62 64;");
        x.drop(1);
        refused(x, INDEX, () -> x.let(1, 0, 1, false));
    }

    static void p29_thereIsNoSuchNote() {
        HandFingers x = piece(TWO);
        refused(x, INDEX, () -> x.let(1, -1, 1, false));
        refused(x, INDEX, () -> x.let(1, 2, 1, false));
        refused(x, INDEX, () -> x.let(0, 1, 1, false));
        thrown(INDEX, () -> x.let(0, MIN, 1, true));
        thrown(INDEX, () -> x.let(0, MAX, 1, true));
        noChangeButLoad(x);
    }

    static void p29_thereIsNoSuchFinger() {
        HandFingers x = piece(TWO);
        refused(x, INDEX, () -> x.let(0, 0, 0, true));
        refused(x, INDEX, () -> x.let(0, 0, 6, true));
        thrown(INDEX, () -> x.let(0, 0, MIN, false));
        thrown(INDEX, () -> x.let(0, 0, MAX, false));
        noChangeButLoad(x);
    }

    // ---- promise 30: setWeight

    static void p30_theFirstAndTheLastWeight() {
        HandFingers x = new HandFingers();
        due(x.setWeight(0, 50), 2);
        due(x.setWeight(9, 60), 5);
        due(x.weight(0), 50);
        due(x.weight(9), 60);
    }

    static void p30_aValueOf0AndOf99() {
        HandFingers x = new HandFingers();
        due(x.setWeight(1, 0), 5);
        due(x.weight(1), 0);
        due(x.setWeight(1, 99), 0);
        due(x.weight(1), 99);
        due(x.setWeight(1, 5), 99);
    }

    static void p30_aValueBelow0IsRefused() {
        HandFingers x = piece(TWO);
        refused(x, ARGUMENT, () -> x.setWeight(0, -1));
        thrown(ARGUMENT, () -> x.setWeight(0, MIN));
        noChangeButLoad(x);
    }

    static void p30_aValueOf100IsRefused() {
        HandFingers x = piece(TWO);
        refused(x, ARGUMENT, () -> x.setWeight(0, 100));
        thrown(ARGUMENT, () -> x.setWeight(0, MAX));
        noChangeButLoad(x);
    }

    static void p30_thereIsNoWeightBelow0() {
        HandFingers x = piece(TWO);
        refused(x, INDEX, () -> x.setWeight(-1, 0));
        thrown(INDEX, () -> x.setWeight(MIN, 0));
        noChangeButLoad(x);
    }

    static void p30_thereIsNoWeight10() {
        HandFingers x = piece(TWO);
        refused(x, INDEX, () -> x.setWeight(10, 0));
        thrown(INDEX, () -> x.setWeight(MAX, 0));
        noChangeButLoad(x);
    }

    static void p30_theWeightIsLookedAtBeforeTheValue() {
        HandFingers x = new HandFingers();
        thrown(INDEX, () -> x.setWeight(10, 100));
        thrown(INDEX, () -> x.setWeight(-1, -1));
    }

    // ---- promise 31: setSpan

    static void p31_theFingersMayBeToldEitherWay() {
        HandFingers x = new HandFingers();
        due(x.setSpan(5, 1, 2, 3, 4), 14);
        due(spanOf(x, 1, 5), "1-5:2,3,4");
        due(spanOf(x, 5, 1), "5-1:2,3,4");
        due(x.setSpan(1, 5, 7, 8, 9), 4);
        due(spanOf(x, 5, 1), "5-1:7,8,9");
    }

    static void p31_allNumbersTheLeast() {
        HandFingers x = new HandFingers();
        due(x.setSpan(1, 2, 1, 1, 1), 8);
        due(spanOf(x, 1, 2), "1-2:1,1,1");
    }

    static void p31_allNumbersTheGreatest() {
        HandFingers x = new HandFingers();
        due(x.setSpan(4, 5, 24, 24, 24), 5);
        due(spanOf(x, 4, 5), "4-5:24,24,24");
        due(x.setSpan(4, 5, 1, 24, 24), 24);
        due(x.setSpan(4, 5, 1, 1, 24), 24);
    }

    static void p31_aLowOutOfRangeIsRefused() {
        HandFingers x = piece(TWO);
        refusedEach(x, ARGUMENT, new int[] {0, 25, -1, MIN, MAX}, low -> x.setSpan(1, 2, low, 24, 24));
        noChangeButLoad(x);
    }

    static void p31_aHighBelowTheLowIsRefused() {
        HandFingers x = piece(TWO);
        refused(x, ARGUMENT, () -> x.setSpan(1, 2, 5, 4, 6));
        thrown(ARGUMENT, () -> x.setSpan(1, 2, 5, MIN, 6));
        noChangeButLoad(x);
    }

    static void p31_aHighOf25IsRefused() {
        HandFingers x = piece(TWO);
        refused(x, ARGUMENT, () -> x.setSpan(1, 2, 5, 25, 25));
        thrown(ARGUMENT, () -> x.setSpan(1, 2, 5, MAX, MAX));
        noChangeButLoad(x);
    }

    static void p31_aLimitBelowTheHighIsRefused() {
        HandFingers x = piece(TWO);
        refused(x, ARGUMENT, () -> x.setSpan(1, 2, 3, 5, 4));
        thrown(ARGUMENT, () -> x.setSpan(1, 2, 3, 5, MIN));
        noChangeButLoad(x);
    }

    static void p31_aLimitOf25IsRefused() {
        HandFingers x = piece(TWO);
        refused(x, ARGUMENT, () -> x.setSpan(1, 2, 3, 5, 25));
        thrown(ARGUMENT, () -> x.setSpan(1, 2, 3, 5, MAX));
        noChangeButLoad(x);
    }

    static void p31_theSameFingerTwiceIsRefused() {
        HandFingers x = piece(TWO);
        for (int finger = 1; finger <= 5; finger++) {
            int one = finger;
            thrown(ARGUMENT, () -> x.setSpan(one, one, 1, 1, 1));
        }
        noChangeButLoad(x);
    }

    static void p31_thereIsNoFinger0() {
        HandFingers x = piece(TWO);
        refused(x, INDEX, () -> x.setSpan(0, 1, 1, 1, 1));
        refused(x, INDEX, () -> x.setSpan(1, 0, 1, 1, 1));
        thrown(INDEX, () -> x.setSpan(MIN, 1, 1, 1, 1));
        noChangeButLoad(x);
    }

    static void p31_thereIsNoFinger6() {
        HandFingers x = piece(TWO);
        refused(x, INDEX, () -> x.setSpan(6, 1, 1, 1, 1));
        refused(x, INDEX, () -> x.setSpan(1, 6, 1, 1, 1));
        thrown(INDEX, () -> x.setSpan(1, MAX, 1, 1, 1));
        noChangeButLoad(x);
    }

    static void p31_theFingersAreLookedAtFirst() {
        HandFingers x = new HandFingers();
        thrown(INDEX, () -> x.setSpan(6, 6, 1, 1, 1));
        thrown(INDEX, () -> x.setSpan(0, 0, 1, 1, 1));
        thrown(INDEX, () -> x.setSpan(1, 6, 0, 0, 0));
    }

    static void p31_noOtherSpanIsAnotherOneThen() {
        for (int one = 1; one <= 5; one++) {
            for (int other = one + 1; other <= 5; other++) {
                HandFingers x = new HandFingers();
                String before = state(x);
                String first = spanOf(x, one, other);
                x.setSpan(other, one, 22, 23, 24);
                due(state(x), before.replace(first, one + "-" + other + ":22,23,24"));
            }
        }
    }

    // ---- promise 32: setHand

    static void p32_0WithoutEvents() {
        HandFingers x = new HandFingers();
        due(x.setHand(false), 0);
        due(x.count(2), 0);
        due(x.setHand(true), 0);
        due(x.count(2), 1);
    }

    static void p32_noneIfNoFingeringIsAllowed() {
        HandFingers x = piece(R + "play 60 64 by 1 3;");
        due(x.setHand(false), HandFingers.NONE);
        due(x.setHand(true), 0);
    }

    static void p32_theSameHandAgain() {
        HandFingers x = piece(R + "play 61 by 1;");
        due(x.setHand(true), 4);
        due(x.count(2), 1);
    }

    // ---- promise 33: transpose

    static void p33_allTheWayUpAndDown() {
        HandFingers x = piece(R + "play 21 by 1;");
        due(x.transpose(87), 0);
        due(x.note(0, 0, 0), 108);
        due(x.transpose(-87), 0);
        due(x.note(0, 0, 0), 21);
    }

    static void p33_88IsRefusedWithoutEventsToo() {
        HandFingers x = new HandFingers();
        due(x.transpose(87), 0);
        due(x.transpose(-87), 0);
        refusedEach(x, ARGUMENT, new int[] {88, -88, MIN, MAX}, by -> x.transpose(by));
        due(x.undo(), 1);
    }

    static void p33_aKeyOf108() {
        HandFingers x = piece(R + "play 50 52 106;play 60;");
        due(x.transpose(2), -1);
        due(x.count(4), 108);
        refused(x, ARGUMENT, () -> x.transpose(1));
        due(x.undo(), 1);
    }

    static void p33_aKeyOf21() {
        HandFingers x = piece(R + "play 60;play 23 52 60;");
        due(x.transpose(-2), -1);
        due(x.count(3), 21);
        refused(x, ARGUMENT, () -> x.transpose(-1));
        due(x.undo(), 1);
    }

    static void p33_aRefusedNumberChangesNoKey() {
        HandFingers x = piece(R + "play 60;play 100;");
        refused(x, ARGUMENT, () -> x.transpose(9));
        refused(x, ARGUMENT, () -> x.transpose(-40));
        noChangeButLoad(x);
    }

    static void p33_noneIfNoFingeringIsAllowed() {
        HandFingers x = piece(BARRED);
        due(x.transpose(1), HandFingers.NONE);
        due(x.note(1, 0, 0), 81);
    }

    static void p33_theBestCostThen() {
        HandFingers x = piece(R + "play 60 by 1;");
        due(x.transpose(1), 4);
        due(x.transpose(0), 4);
        due(x.transpose(-1), 0);
    }

    static void p33_setsAndRestsStay() {
        HandFingers x = piece(TWO);
        x.transpose(10);
        due(eventOf(x, 0), "[70/4 rest 1]");
        due(eventOf(x, 1), "[71/31 74/16 rest 0]");
    }

    // ---- promise 34: fix

    static void p34_0WithoutNotes() {
        due(new HandFingers().fix(), 0);
    }

    static void p34_allNotes() {
        HandFingers x = piece(R + "play 60 64 67;play 60;");
        due(x.fix(), 4);
        due(eventOf(x, 0), "[60/1 64/4 67/16 rest 0]");
        due(x.many(false), 1);
    }

    static void p34_noneOfTheNotes() {
        HandFingers x = piece(R + "play 60 64 67 by 1 2 5;play 60 by 1;");
        String before = state(x);
        due(x.fix(), 0);
        due(state(x), before);
    }

    static void p34_twoFingersAreMoreThanOne() {
        HandFingers x = piece(R + "play 60 by 2;play 60 by 3;");
        x.let(0, 0, 4, true);
        due(x.fix(), 1);
        due(x.note(0, 0, 1), 2);
    }

    static void p34_120Notes() {
        HandFingers x = piece(R + "weight repeat 0;" + "play 60 64 67;".repeat(40));
        due(x.fix(), 120);
        due(x.best(), 0);
        due(x.many(false), 1);
        due(x.fix(), 0);
    }

    static void p34_noElementIfNoFingeringIsAllowed() {
        HandFingers x = piece(R + "play 60;play 60 75;");
        refused(x, ELEMENT, x::fix);
        noChangeButLoad(x);
    }

    // ---- promise 35: undo

    static void p35_nothingToUndoAtFirst() {
        HandFingers x = new HandFingers();
        refused(x, STATE, x::undo);
    }

    static void p35_nothingToUndoWhenAllIsUndone() {
        HandFingers x = piece(R + "play 60;");
        due(x.undo(), 0);
        refused(x, STATE, x::undo);
    }

    static void p35_nothingToUndoBehindCallsThatAreNoChanges() {
        HandFingers x = new HandFingers();
        x.save(0);
        x.best();
        x.writeFingers();
        tell(x, R + "play");
        x.load();
        x.costOfTold();
        x.faultOfTold();
        x.otherHand();
        x.transposed(5);
        x.easiest(3);
        x.restBehind();
        thrown(INDEX, () -> x.drop(0));
        thrown(STATE, x::undo);
    }

    static void p35_eightChangesCanBeUndone() {
        HandFingers x = new HandFingers();
        for (int value = 11; value <= 18; value++) {
            x.setWeight(0, value);
        }
        for (int left = 7; left >= 0; left--) {
            due(x.undo(), left);
            due(x.weight(0), left == 0 ? 2 : 10 + left);
        }
        thrown(STATE, x::undo);
    }

    static void p35_theNinthCannot() {
        HandFingers x = new HandFingers();
        for (int value = 11; value <= 19; value++) {
            x.setWeight(0, value);
        }
        for (int left = 7; left >= 0; left--) {
            due(x.undo(), left);
        }
        due(x.weight(0), 11);
        refused(x, STATE, x::undo);
    }

    static void p35_ofVeryManyTheLatestEight() {
        HandFingers x = new HandFingers();
        for (int value = 1; value <= 99; value++) {
            x.setWeight(0, value);
        }
        for (int left = 7; left >= 0; left--) {
            due(x.undo(), left);
            due(x.weight(0), 91 + left);
        }
        thrown(STATE, x::undo);
    }

    static void p35_ofFiveHundredTheLatestEight() {
        HandFingers x = new HandFingers();
        for (int i = 1; i <= 500; i++) {
            x.setWeight(0, i % 100);
        }
        for (int left = 7; left > 0; left--) {
            due(x.undo(), left);
        }
        due(x.undo(), 0);
        due(x.weight(0), 92);
    }

    static void p35_aChangeBehindAnUndoIsTheLatest() {
        HandFingers x = new HandFingers();
        x.setWeight(0, 11);
        x.setWeight(0, 12);
        due(x.undo(), 1);
        x.setWeight(0, 13);
        due(x.undo(), 1);
        due(x.weight(0), 11);
        due(x.undo(), 0);
        due(x.weight(0), 2);
    }

    static void p35_olderOnesStayGoneBehindAnUndo() {
        HandFingers x = new HandFingers();
        for (int value = 11; value <= 20; value++) {
            x.setWeight(0, value);
        }
        due(x.undo(), 7);
        due(x.undo(), 6);
        x.setWeight(0, 50);
        for (int left = 6; left >= 0; left--) {
            due(x.undo(), left);
        }
        due(x.weight(0), 12);
        thrown(STATE, x::undo);
    }

    static void p35_loadIsAChange() {
        HandFingers x = piece(TWO);
        isOneChange(x, () -> load(x, "hand left;weight jump 9;span 1 2 3 4 5;play 70;play 71;play 72;"));
    }

    static void p35_loadOfTheSameTextIsAChange() {
        HandFingers x = piece(TWO);
        isOneChange(x, () -> load(x, TWO));
    }

    static void p35_loadOfATextWithAnErrorIsNone() {
        HandFingers x = piece(TWO);
        due(load(x, "hand left"), -2);
        noChangeButLoad(x);
    }

    static void p35_playIsAChange() {
        HandFingers x = piece(TWO);
        isOneChange(x, () -> x.play(1, 60, 62, 64, 9));
    }

    static void p35_playThatIsRefusedIsNone() {
        HandFingers x = piece(R + "play 60;".repeat(40));
        due(x.play(0, 60, 0, 0, 0), -10);
        noChangeButLoad(x);
    }

    static void p35_dropIsAChange() {
        HandFingers x = piece(TWO);
        isOneChange(x, () -> x.drop(0));
    }

    static void p35_setRestIsAChange() {
        HandFingers x = piece(TWO);
        isOneChange(x, () -> x.setRest(0, 9));
    }

    static void p35_setRestToTheSameIsAChange() {
        HandFingers x = piece(TWO);
        isOneChange(x, () -> x.setRest(0, 1));
    }

    static void p35_letIsAChange() {
        HandFingers x = piece(TWO);
        isOneChange(x, () -> x.let(1, 0, 2, false));
    }

    static void p35_letWhatIsSoAlreadyIsAChange() {
        HandFingers x = piece(TWO);
        isOneChange(x, () -> x.let(0, 0, 3, true));
    }

    static void p35_setWeightIsAChange() {
        HandFingers x = piece(TWO);
        isOneChange(x, () -> x.setWeight(9, 9));
    }

    static void p35_setWeightToTheSameIsAChange() {
        HandFingers x = piece(TWO);
        isOneChange(x, () -> x.setWeight(9, 5));
    }

    static void p35_setSpanIsAChange() {
        HandFingers x = piece(TWO);
        isOneChange(x, () -> x.setSpan(5, 4, 2, 3, 4));
    }

    static void p35_setSpanToTheSameIsAChange() {
        HandFingers x = piece(TWO);
        isOneChange(x, () -> x.setSpan(1, 2, 1, 5, 8));
    }

    static void p35_setHandIsAChange() {
        HandFingers x = piece(TWO);
        isOneChange(x, () -> x.setHand(false));
    }

    static void p35_setHandToTheSameIsAChange() {
        HandFingers x = piece(TWO);
        isOneChange(x, () -> x.setHand(true));
    }

    static void p35_transposeIsAChange() {
        HandFingers x = piece(TWO);
        isOneChange(x, () -> x.transpose(-5));
    }

    static void p35_transposeBy0IsAChange() {
        HandFingers x = piece(TWO);
        isOneChange(x, () -> x.transpose(0));
    }

    static void p35_fixIsAChange() {
        HandFingers x = piece(TWO);
        isOneChange(x, x::fix);
    }

    static void p35_fixOfWhatIsFixedIsAChange() {
        HandFingers x = piece(R + "play 60 by 3;");
        isOneChange(x, x::fix);
    }

    static void p35_restoreIsAChange() {
        HandFingers x = new HandFingers();
        x.save(1);
        load(x, TWO);
        isOneChange(x, () -> x.restore(1));
    }

    static void p35_restoreOfTheSameIsAChange() {
        HandFingers x = piece(TWO);
        x.save(1);
        isOneChange(x, () -> x.restore(1));
    }

    static void p35_saveIsNone() {
        HandFingers x = piece(TWO);
        x.save(0);
        noChangeButLoad(x);
    }

    static void p35_theTextBufferStays() {
        HandFingers x = piece(R + "play 60;");
        tell(x, "hand left;play 70");
        x.undo();
        due(tell(x, ";"), 18);
        due(x.load(), 1);
        due(x.note(0, 0, 0), 70);
    }

    static void p35_thePositionOfTheErrorStays() {
        HandFingers x = piece(R);
        load(x, "hand!");
        x.undo();
        due(x.errorPosition(), 4);
    }

    static void p35_theWrittenTextStays() {
        HandFingers x = new HandFingers();
        x.play(0, 60, 64, 67, 0);
        x.writeFingers();
        x.undo();
        due(x.writtenByte(2), '5');
        thrown(INDEX, () -> x.writtenByte(3));
    }

    static void p35_whatWasSavedStays() {
        HandFingers x = piece(TWO);
        x.save(0);
        x.undo();
        due(x.count(0), 0);
        due(x.restore(0), 2);
        due(eventOf(x, 1), "[61/31 64/16 rest 0]");
    }

    static void p35_whatItCostsComesBackToo() {
        HandFingers x = piece(R + "play 61 by 1;");
        due(x.best(), 4);
        due(x.setHand(false), 4);
        x.let(0, 0, 2, true);
        due(x.best(), 0);
        x.undo();
        due(x.best(), 4);
        due(x.many(false), 1);
    }

    // ---- promise 36: save

    static void p36_bothSlots() {
        HandFingers x = piece(TWO);
        x.save(0);
        x.drop(1);
        x.save(1);
        x.drop(0);
        due(x.restore(0), 2);
        due(x.restore(1), 1);
    }

    static void p36_thereIsNoSlotBelow0() {
        HandFingers x = piece(TWO);
        refused(x, INDEX, () -> x.save(-1));
        thrown(INDEX, () -> x.save(MIN));
        thrown(STATE, () -> x.restore(0));
    }

    static void p36_thereIsNoSlot2() {
        HandFingers x = piece(TWO);
        refused(x, INDEX, () -> x.save(2));
        thrown(INDEX, () -> x.save(MAX));
        thrown(STATE, () -> x.restore(1));
    }

    static void p36_aSlotThatIsUsedAgainHoldsTheLatter() {
        HandFingers x = piece(TWO);
        x.save(0);
        x.save(1);
        load(x, "hand left;play 70;");
        x.save(0);
        x.drop(0);
        due(x.restore(0), 1);
        due(x.count(2), 0);
        due(x.restore(1), 2);
    }

    static void p36_aPieceWithoutEvents() {
        HandFingers x = new HandFingers();
        x.save(0);
        x.play(0, 60, 0, 0, 0);
        due(x.restore(0), 0);
    }

    static void p36_everythingThatUndoBringsBack() {
        HandFingers x = piece("hand left;weight reach 99;span 4 5 2 3 4;play 60 64 67 rest 9 by 5 3 1;play 70 rest 1 by 2;");
        String before = state(x);
        x.save(1);
        load(x, R);
        x.restore(1);
        due(state(x), before);
    }

    static void p36_fortyEventsOfThreeNotes() {
        HandFingers x = piece(R + "weight repeat 0;" + "play 60 64 67;".repeat(40));
        x.save(0);
        x.drop(0);
        due(x.restore(0), 40);
        due(eventOf(x, 39), "[60/31 64/31 67/31 rest 0]");
    }

    static void p36_butNotWhatCanBeUndone() {
        HandFingers x = new HandFingers();
        x.save(0);
        x.setWeight(0, 11);
        x.setWeight(0, 12);
        x.restore(0);
        due(x.undo(), 2);
        due(x.weight(0), 12);
        due(x.undo(), 1);
        due(x.weight(0), 11);
    }

    static void p36_laterChangesLeaveWhatWasSaved() {
        HandFingers x = piece(TWO);
        x.save(0);
        x.let(0, 0, 3, false);
        x.transpose(3);
        x.setWeight(0, 9);
        x.setSpan(1, 2, 1, 1, 1);
        x.setHand(false);
        x.restore(0);
        due(state(x), state(piece(TWO)));
    }

    // ---- promise 37: restore

    static void p37_nothingIsSavedThere() {
        HandFingers x = piece(TWO);
        refused(x, STATE, () -> x.restore(0));
        refused(x, STATE, () -> x.restore(1));
        noChangeButLoad(x);
    }

    static void p37_nothingIsSavedInTheOtherSlot() {
        HandFingers x = piece(TWO);
        x.save(0);
        refused(x, STATE, () -> x.restore(1));
        HandFingers y = piece(TWO);
        y.save(1);
        refused(y, STATE, () -> y.restore(0));
    }

    static void p37_thereIsNoSlotBelow0() {
        HandFingers x = piece(TWO);
        x.save(0);
        x.save(1);
        refused(x, INDEX, () -> x.restore(-1));
        thrown(INDEX, () -> x.restore(MIN));
        noChangeButLoad(x);
    }

    static void p37_thereIsNoSlot2() {
        HandFingers x = piece(TWO);
        x.save(0);
        x.save(1);
        refused(x, INDEX, () -> x.restore(2));
        thrown(INDEX, () -> x.restore(MAX));
        noChangeButLoad(x);
    }

    static void p37_theSlotIsLookedAtFirst() {
        HandFingers x = new HandFingers();
        thrown(INDEX, () -> x.restore(2));
        thrown(INDEX, () -> x.restore(-1));
    }

    static void p37_whatWasSavedStaysSaved() {
        HandFingers x = piece(TWO);
        x.save(0);
        x.drop(0);
        due(x.restore(0), 2);
        x.transpose(5);
        x.drop(1);
        due(x.restore(0), 2);
        due(state(x), state(piece(TWO)));
    }

    static void p37_undoOfRestoreLeavesWhatWasSaved() {
        HandFingers x = piece(TWO);
        x.save(0);
        x.drop(0);
        x.restore(0);
        due(x.undo(), 2);
        due(x.count(0), 1);
        due(x.restore(0), 2);
    }

    static void p37_theBufferAndTheErrorAndTheWrittenTextStay() {
        HandFingers x = piece(R + "play 60;");
        x.save(0);
        x.writeFingers();
        load(x, "hand!");
        tell(x, "abc");
        x.drop(0);
        x.restore(0);
        due(x.append(0, 0, 0, 0, 0), 3);
        due(x.errorPosition(), 4);
        due(x.writtenByte(0), '1');
    }

    static void p37_whatItCostsComesBackToo() {
        HandFingers x = piece(R + "play 61 by 1;");
        x.save(0);
        due(x.transpose(-1), 0);
        x.restore(0);
        due(x.best(), 4);
    }
}
