/** The boundary cases of promises 1, 2 and 4 to 9: a new object, the text buffer, and what is asked of a piece. */
final class SetupEdges extends Edges {

    // ---- promise 1: a new object

    static void p01_theHandIsRight() {
        due(new HandFingers().count(2), 1);
    }

    static void p01_thereAreNoEvents() {
        due(new HandFingers().count(0), 0);
    }

    static void p01_theWeightsAreAsAtFirst() {
        HandFingers x = new HandFingers();
        int[] first = {2, 5, 3, 1, 2, 4, 1, 2, 4, 5};
        for (int weight = 0; weight < 10; weight++) {
            due(x.weight(weight), first[weight]);
        }
    }

    static void p01_theSpansAreAsAtFirst() {
        HandFingers x = new HandFingers();
        due(spanOf(x, 1, 2), "1-2:1,5,8");
        due(spanOf(x, 1, 3), "1-3:3,7,10");
        due(spanOf(x, 1, 4), "1-4:5,9,12");
        due(spanOf(x, 1, 5), "1-5:7,11,14");
        due(spanOf(x, 2, 3), "2-3:1,2,5");
        due(spanOf(x, 2, 4), "2-4:3,4,7");
        due(spanOf(x, 2, 5), "2-5:5,7,10");
        due(spanOf(x, 3, 4), "3-4:1,2,4");
        due(spanOf(x, 3, 5), "3-5:3,4,7");
        due(spanOf(x, 4, 5), "4-5:1,2,5");
    }

    static void p01_itIsThePieceOfTheTextHandRight() {
        due(state(new HandFingers()), state(piece("hand right;")));
    }

    static void p01_theTextBufferIsEmpty() {
        due(new HandFingers().append(0, 0, 0, 0, 0), 0);
    }

    static void p01_nothingIsSavedInEitherSlot() {
        HandFingers x = new HandFingers();
        thrown(STATE, () -> x.restore(0));
        thrown(STATE, () -> x.restore(1));
    }

    static void p01_nothingCanBeUndone() {
        HandFingers x = new HandFingers();
        thrown(STATE, x::undo);
    }

    static void p01_eachObjectIsByItself() {
        HandFingers x = piece("hand left;weight jump 9;span 1 2 3 4 5;play 60;");
        x.save(0);
        x.writeFingers();
        tell(x, "1");
        HandFingers y = new HandFingers();
        due(state(y), state(piece("hand right;")));
        thrown(STATE, () -> y.restore(0));
        thrown(INDEX, () -> y.writtenByte(0));
    }

    static void p01_theConstants() {
        due(HandFingers.NONE, -1);
        due(HandFingers.SYNTAX_ERROR, -2);
        due(HandFingers.VALUE_ERROR, -3);
        due(HandFingers.MISFIT, -4);
        due(HandFingers.TOO_MANY, -5);
    }

    // ---- promise 2: append

    private static HandFingers withSpaces(String text, int length) {
        HandFingers x = new HandFingers();
        due(tell(x, text + " ".repeat(length - text.length())), length);
        return x;
    }

    static void p02_theMostSignificantByteComesFirst() {
        HandFingers x = new HandFingers();
        x.append(0x68616e64, 0x20726967, 0x68743b00, 0, 0);
        due(x.load(), 0);
    }

    static void p02_theArgumentsComeInTheirOrder() {
        HandFingers x = new HandFingers();
        // "hand", " lef", "t;pl", "ay 6", "0 ; "
        due(x.append(0x68616e64, 0x206c6566, 0x743b706c, 0x61792036, 0x30203b20), 20);
        due(x.load(), 1);
        due(x.note(0, 0, 0), 60);
    }

    static void p02_callsFollowOneAnother() {
        HandFingers x = new HandFingers();
        due(x.append(0x68616e64, 0x20, 0, 0, 0), 5);
        due(x.append(0, 0, 0, 0x6c656674, 0x3b), 10);
        due(x.load(), 0);
        due(x.count(2), 0);
    }

    static void p02_bytesThatAre0AreLeftOutWhereverTheyStand() {
        HandFingers x = new HandFingers();
        due(x.append(0x00680061, 0x6e006400, 0x20720069, 0x00000067, 0x6874003b), 11);
        due(x.load(), 0);
        due(x.errorPosition(), -1);
    }

    static void p02_fiveZerosAppendNothing() {
        HandFingers x = new HandFingers();
        due(x.append(0, 0, 0, 0, 0), 0);
        due(tell(x, "hand"), 4);
        due(x.append(0, 0, 0, 0, 0), 4);
    }

    static void p02_oneByteAtTheVeryEnd() {
        due(new HandFingers().append(0, 0, 0, 0, 1), 1);
    }

    static void p02_aByteAbove127IsOneByte() {
        HandFingers x = new HandFingers();
        due(x.append(0x80000000, 0, 0, 0, 0), 1);
        due(x.append(0, 0x00800000, 0, 0, 0), 2);
        due(x.append(0, 0, 0x0000ff00, 0, 0), 3);
        due(x.append(0, 0, 0, 0, 0xff), 4);
        due(x.append(-1, -1, -1, -1, -1), 24);
    }

    static void p02_aByteAbove127IsNoLesserOne() {
        HandFingers x = new HandFingers();
        // h with the greatest bit set
        x.append(0xe8616e64, 0x20726967, 0x68743b00, 0, 0);
        due(x.load(), -2);
        due(x.errorPosition(), 0);
    }

    static void p02_600BytesFit() {
        due(withSpaces("", 580).append(-1, -1, -1, -1, -1), 600);
    }

    static void p02_600BytesAreReadToTheirEnd() {
        HandFingers x = new HandFingers();
        tell(x, R + " ".repeat(581) + "play 60;");
        due(x.append(0, 0, 0, 0, 0), 600);
        due(x.load(), 1);
    }

    static void p02_the601stByteIsRefused() {
        HandFingers x = withSpaces("", 600);
        thrown(STATE, () -> x.append(0, 0, 0, 0, 0x20));
        due(x.append(0, 0, 0, 0, 0), 600);
    }

    static void p02_twentyBytesBehind581AreRefused() {
        HandFingers x = withSpaces("", 581);
        thrown(STATE, () -> x.append(-1, -1, -1, -1, -1));
        due(x.append(0, 0, 0, 0, 0), 581);
    }

    static void p02_twoBytesBehind599AreRefusedTogether() {
        HandFingers x = withSpaces("", 599);
        thrown(STATE, () -> x.append(0x20, 0, 0, 0, 0x20000000));
        due(x.append(0, 0, 0, 0, 0), 599);
        due(x.append(0, 0, 0x20, 0, 0), 600);
    }

    static void p02_bytesThatAre0DoNotCountTowards600() {
        HandFingers x = withSpaces("", 599);
        due(x.append(0, 0, 0x00200000, 0, 0), 600);
        due(x.append(0, 0, 0, 0, 0), 600);
    }

    static void p02_aRefusedAppendLeavesTheText() {
        HandFingers x = withSpaces(R + "play 60;", 590);
        refused(x, STATE, () -> x.append(-1, -1, -1, -1, -1));
        due(x.load(), 1);
        due(x.errorPosition(), -1);
    }

    static void p02_aRefusedAppendIsNoChange() {
        HandFingers x = piece("hand left;");
        tell(x, " ".repeat(600));
        thrown(STATE, () -> x.append(1, 0, 0, 0, 0));
        due(x.undo(), 0);
    }

    // ---- promise 4: errorPosition

    static void p04_noneWithoutACall() {
        due(new HandFingers().errorPosition(), HandFingers.NONE);
    }

    static void p04_noneBehindALoadWithoutAnError() {
        due(piece(R).errorPosition(), HandFingers.NONE);
    }

    static void p04_atTheFirstByte() {
        HandFingers x = new HandFingers();
        load(x, "!");
        due(x.errorPosition(), 0);
    }

    static void p04_atTheLengthOfAnEmptyText() {
        HandFingers x = new HandFingers();
        due(x.load(), -2);
        due(x.errorPosition(), 0);
    }

    static void p04_atTheLengthOfALongestText() {
        HandFingers x = new HandFingers();
        load(x, "hand right" + " ".repeat(590));
        due(x.errorPosition(), 600);
    }

    static void p04_anErrorIsForgottenByALoadWithoutOne() {
        HandFingers x = new HandFingers();
        load(x, "hand;");
        due(x.errorPosition(), 4);
        load(x, R);
        due(x.errorPosition(), -1);
    }

    static void p04_theLatestErrorCounts() {
        HandFingers x = new HandFingers();
        load(x, "hand;");
        load(x, "hand right;;");
        due(x.errorPosition(), 11);
    }

    static void p04_ofCostOfTold() {
        HandFingers x = piece(R + "play 60;");
        costOfTold(x, "   6");
        due(x.errorPosition(), 3);
        costOfTold(x, "1");
        due(x.errorPosition(), -1);
    }

    static void p04_ofFaultOfTold() {
        HandFingers x = piece(R + "play 60;");
        faultOfTold(x, "1 2");
        due(x.errorPosition(), 2);
        faultOfTold(x, "1");
        due(x.errorPosition(), -1);
    }

    static void p04_noneIfACostIsToldToBeNotAllowed() {
        HandFingers x = piece(BARRED);
        costOfTold(x, "x");
        due(costOfTold(x, "5 1"), -10);
        due(x.errorPosition(), -1);
    }

    static void p04_noneIfTheFirstCallOfAllIsToldToBeNotAllowed() {
        HandFingers x = new HandFingers();
        x.play(0, 60, 0, 0, 0);
        x.let(0, 0, 1, false);
        due(costOfTold(x, "1"), -10);
        due(x.errorPosition(), -1);
        due(faultOfTold(x, "2"), -10);
        due(x.errorPosition(), -1);
    }

    static void p04_aPlayThatIsRefusedLeavesIt() {
        HandFingers x = piece(R + "play 60;".repeat(40));
        load(x, "hand!");
        due(x.play(0, 60, 0, 0, 0), -10);
        due(x.errorPosition(), 4);
    }

    static void p04_noneIfAFaultIsFoundInATextWithoutAnError() {
        HandFingers x = piece(BARRED);
        faultOfTold(x, "x");
        due(faultOfTold(x, "5 1"), 12);
        due(x.errorPosition(), -1);
    }

    static void p04_otherCallsLeaveIt() {
        HandFingers x = piece(R + "play 60;");
        x.save(0);
        load(x, "hand!");
        x.best();
        x.setHand(false);
        x.restore(0);
        x.undo();
        x.writeFingers();
        thrown(INDEX, () -> x.drop(1));
        tell(x, R);
        due(x.errorPosition(), 4);
    }

    // ---- promise 5: count

    static void p05_withoutNotes() {
        HandFingers x = new HandFingers();
        due(x.count(0), 0);
        due(x.count(1), 0);
        due(x.count(5), 0);
        due(x.count(6), 0);
    }

    static void p05_theLeastKeyWithoutNotesIsNone() {
        due(new HandFingers().count(3), HandFingers.NONE);
    }

    static void p05_theGreatestKeyWithoutNotesIsNone() {
        due(new HandFingers().count(4), HandFingers.NONE);
    }

    static void p05_noneAgainWhenTheLastEventIsDropped() {
        HandFingers x = piece(R + "play 60;");
        x.drop(0);
        due(x.count(3), -1);
        due(x.count(4), -1);
        due(x.count(1), 0);
        due(x.count(5), 0);
    }

    static void p05_fortyEventsOfThreeNotes() {
        HandFingers x = piece("hand left;" + "play 61 63 66;".repeat(40));
        due(x.count(0), 40);
        due(x.count(1), 120);
        due(x.count(5), 120);
    }

    static void p05_1ForTheRightHand0ForTheLeftOne() {
        due(piece("hand right;").count(2), 1);
        due(piece("hand left;").count(2), 0);
    }

    static void p05_theLeastAndTheGreatestKeyThatThereAre() {
        HandFingers x = piece(R + "play 60;play 21 64 108;play 22 107;");
        due(x.count(3), 21);
        due(x.count(4), 108);
    }

    static void p05_oneNoteIsTheLeastAndTheGreatest() {
        HandFingers x = piece(R + "play 77;");
        due(x.count(3), 77);
        due(x.count(4), 77);
    }

    static void p05_theKeysOfALaterEventCount() {
        HandFingers x = piece(R + "play 60 62;play 59 61;play 58 70 71;");
        due(x.count(3), 58);
        due(x.count(4), 71);
    }

    static void p05_blackByEachRemainderOf12() {
        for (int key = 21; key <= 108; key++) {
            HandFingers x = new HandFingers();
            x.play(0, key, 0, 0, 0);
            due(x.count(5), "010100101010".charAt(key % 12) - '0');
        }
    }

    static void p05_blackByEachNoteOfAnEvent() {
        HandFingers x = piece(R + "play 61 62 64;play 60 63 64;play 60 62 66;");
        due(x.count(5), 3);
    }

    static void p05_aPassageIsFreeIfTheRestIsFree() {
        HandFingers x = piece(R + "weight free 6;play 60 rest 6;play 60;");
        due(x.count(6), 1);
    }

    static void p05_aPassageIsNotFreeIfTheRestIsOneLess() {
        HandFingers x = piece(R + "weight free 6;play 60 rest 5;play 60;");
        due(x.count(6), 0);
    }

    static void p05_thereIsNoPassageBehindTheLastEvent() {
        due(piece(R + "play 60 rest 9;").count(6), 0);
        due(piece(R + "play 60 rest 9;play 60 rest 9;").count(6), 1);
    }

    static void p05_allPassagesAreFreeIfFreeIs0() {
        due(piece(R + "weight free 0;" + "play 60;".repeat(40)).count(6), 39);
    }

    static void p05_noPassageIsFreeIfFreeIs10() {
        due(piece(R + "weight free 10;" + "play 60 rest 9;".repeat(30)).count(6), 0);
    }

    static void p05_anyOtherWhatIsRefused() {
        HandFingers x = piece(R + "play 60;");
        refusedEach(x, ARGUMENT, new int[] {-1, 7, MIN, MAX}, what -> x.count(what));
    }

    static void p05_anyOtherWhatIsRefusedWithoutNotes() {
        HandFingers x = new HandFingers();
        thrown(ARGUMENT, () -> x.count(-1));
        thrown(ARGUMENT, () -> x.count(7));
    }

    // ---- promise 6: event

    static void p06_theFirstAndTheLastEventAreThere() {
        HandFingers x = piece(R + "play 60 rest 1;play 60 62;play 60 62 64 rest 9;");
        due(x.event(0, 0), 1);
        due(x.event(0, 1), 1);
        due(x.event(2, 0), 3);
        due(x.event(2, 1), 9);
    }

    static void p06_thereIsNoEventAheadOfTheFirst() {
        HandFingers x = piece(R + "play 60;");
        refused(x, INDEX, () -> x.event(-1, 0));
        thrown(INDEX, () -> x.event(MIN, 0));
    }

    static void p06_thereIsNoEventBehindTheLast() {
        HandFingers x = piece(R + "play 60;play 60;");
        refused(x, INDEX, () -> x.event(2, 0));
        thrown(INDEX, () -> x.event(MAX, 0));
    }

    static void p06_thereIsNoEvent0WithoutEvents() {
        HandFingers x = new HandFingers();
        for (int what = 0; what < 3; what++) {
            int asked = what;
            thrown(INDEX, () -> x.event(0, asked));
        }
    }

    static void p06_ofFortyEventsTheLastHasTheNumber39() {
        HandFingers x = piece(R + "play 60;".repeat(40));
        due(x.event(39, 2), 5);
        thrown(INDEX, () -> x.event(40, 2));
    }

    static void p06_aDroppedEventIsNotThere() {
        HandFingers x = piece(R + "play 60;play 62;");
        x.drop(0);
        thrown(INDEX, () -> x.event(1, 0));
    }

    static void p06_anyOtherWhatIsRefused() {
        HandFingers x = piece(R + "play 60;");
        refusedEach(x, ARGUMENT, new int[] {-1, 3, MIN, MAX}, what -> x.event(0, what));
    }

    static void p06_theEventIsLookedAtBeforeWhat() {
        HandFingers x = piece(R + "play 60;");
        thrown(INDEX, () -> x.event(1, 3));
        thrown(INDEX, () -> x.event(-1, -1));
    }

    static void p06_aSingleNoteHasFiveWays() {
        due(piece(R + "play 60;").event(0, 2), 5);
    }

    static void p06_twoNotesSideBySideHaveTenWays() {
        due(piece(R + "play 60 61;").event(0, 2), 10);
    }

    static void p06_threeNotesSideBySideHaveTenWays() {
        due(piece(R + "play 60 61 62;").event(0, 2), 10);
    }

    static void p06_aDistanceThatIsALimitFits() {
        // 8 is the limit of 1 and 2; 1-3, 1-4, 1-5 and 2-5 reach farther.
        due(piece(R + "play 60 68;").event(0, 2), 5);
    }

    static void p06_aDistanceOneAboveALimitDoesNot() {
        due(piece(R + "play 60 69;").event(0, 2), 4);
    }

    static void p06_14IsTheFarthest() {
        due(piece(R + "play 60 74;").event(0, 2), 1);
        due(piece(R + "play 60 75;").event(0, 2), 0);
    }

    static void p06_outerNotesMayBeFartherThanTheirLimit() {
        // 8 for 1-2 and 10 for 2-5; together 18, above the 14 of 1-5.
        due(piece(R + "play 60 68 78;").event(0, 2), 1);
    }

    static void p06_noWayIfANoteIsLeftNoFinger() {
        HandFingers x = piece(R + "play 60 62 by 3 0;");
        due(x.event(0, 2), 2);
        x.let(0, 0, 3, false);
        due(x.event(0, 2), 0);
    }

    static void p06_oneFingerCannotPlayTwoNotes() {
        due(piece(R + "play 60 61 by 3 3;").event(0, 2), 0);
    }

    static void p06_greaterFingersPlayGreaterKeysWithTheRightHand() {
        due(piece("hand right;play 60 61 by 1 2;").event(0, 2), 1);
        due(piece("hand right;play 60 61 by 2 1;").event(0, 2), 0);
    }

    static void p06_greaterFingersPlayLesserKeysWithTheLeftHand() {
        due(piece("hand left;play 60 61 by 1 2;").event(0, 2), 0);
        due(piece("hand left;play 60 61 by 2 1;").event(0, 2), 1);
    }

    static void p06_thePassagesAreNotAsked() {
        HandFingers x = piece(BARRED);
        due(x.event(0, 2), 1);
        due(x.event(1, 2), 1);
    }

    // ---- promise 7: note

    static void p07_theFirstAndTheLastNoteAreThere() {
        HandFingers x = piece(R + "play 21;play 60 62 108 by 1 0 5;");
        due(x.note(0, 0, 0), 21);
        due(x.note(1, 0, 1), 1);
        due(x.note(1, 1, 1), 31);
        due(x.note(1, 2, 0), 108);
        due(x.note(1, 2, 1), 16);
    }

    static void p07_eachFingerIsWorthItsPower() {
        for (int finger = 1; finger <= 5; finger++) {
            due(piece(R + "play 60 by " + finger + ";").note(0, 0, 1), 1 << finger - 1);
        }
    }

    static void p07_allFiveFingersAtFirst() {
        due(piece(R + "play 60;").note(0, 0, 1), 31);
    }

    static void p07_anEmptySetIs0() {
        HandFingers x = piece(R + "play 60 by 5;");
        x.let(0, 0, 5, false);
        due(x.note(0, 0, 1), 0);
    }

    static void p07_thereIsNoEventAheadOfTheFirst() {
        HandFingers x = piece(R + "play 60 62 64;");
        refused(x, INDEX, () -> x.note(-1, 0, 0));
        // Not the third note of the event ahead, nor any other one.
        thrown(INDEX, () -> x.note(-1, 3, 0));
        thrown(INDEX, () -> x.note(MIN, 0, 0));
    }

    static void p07_thereIsNoEventBehindTheLast() {
        HandFingers x = piece(R + "play 60;");
        refused(x, INDEX, () -> x.note(1, 0, 0));
        thrown(INDEX, () -> x.note(MAX, 0, 0));
    }

    static void p07_aNoteOfADroppedEventIsNotThere() {
        HandFingers x = piece(R + "play 60 62 64;play 60 62 64;");
        x.drop(1);
        thrown(INDEX, () -> x.note(1, 0, 0));
    }

    static void p07_thereIsNoNoteWithoutEvents() {
        HandFingers x = new HandFingers();
        thrown(INDEX, () -> x.note(0, 0, 0));
    }

    static void p07_thereIsNoNoteAheadOfTheFirst() {
        HandFingers x = piece(R + "play 60;play 62;");
        refused(x, INDEX, () -> x.note(1, -1, 0));
        thrown(INDEX, () -> x.note(1, MIN, 0));
    }

    static void p07_thereIsNoNoteBehindTheLast() {
        HandFingers x = piece(R + "play 60;play 60 62;play 60 62 64;play 70;");
        thrown(INDEX, () -> x.note(0, 1, 0));
        thrown(INDEX, () -> x.note(1, 2, 0));
        refused(x, INDEX, () -> x.note(2, 3, 0));
        thrown(INDEX, () -> x.note(2, MAX, 0));
    }

    static void p07_aNoteOfALargerEventThatWasThereBeforeIsNot() {
        HandFingers x = piece(R + "play 60 62 64;play 60;");
        x.drop(0);
        thrown(INDEX, () -> x.note(0, 1, 0));
    }

    static void p07_anyOtherWhatIsRefused() {
        HandFingers x = piece(R + "play 60;");
        refusedEach(x, ARGUMENT, new int[] {-1, 2, MIN, MAX}, what -> x.note(0, 0, what));
    }

    static void p07_theNoteIsLookedAtBeforeWhat() {
        HandFingers x = piece(R + "play 60;");
        thrown(INDEX, () -> x.note(1, 0, 2));
        thrown(INDEX, () -> x.note(0, 1, -1));
    }

    // ---- promise 8: weight

    static void p08_theFirstAndTheLastWeight() {
        HandFingers x = piece(R + "weight stretch 98;weight reach 97;");
        due(x.weight(0), 98);
        due(x.weight(9), 97);
    }

    static void p08_theLeastAndTheGreatestValue() {
        HandFingers x = piece(R + "weight cross 0;weight weak 99;");
        due(x.weight(1), 0);
        due(x.weight(6), 99);
    }

    static void p08_thereIsNoWeightBelow0() {
        HandFingers x = new HandFingers();
        refused(x, INDEX, () -> x.weight(-1));
        thrown(INDEX, () -> x.weight(MIN));
    }

    static void p08_thereIsNoWeight10() {
        HandFingers x = new HandFingers();
        refused(x, INDEX, () -> x.weight(10));
        thrown(INDEX, () -> x.weight(MAX));
    }

    // ---- promise 9: span

    static void p09_theFingersMayBeToldEitherWay() {
        HandFingers x = new HandFingers();
        for (int what = 0; what < 3; what++) {
            due(x.span(1, 5, what), new int[] {7, 11, 14}[what]);
            due(x.span(5, 1, what), new int[] {7, 11, 14}[what]);
        }
    }

    static void p09_theLeastAndTheGreatestNumbers() {
        due(spanOf(piece(R + "span 1 2 1 1 1;"), 1, 2), "1-2:1,1,1");
        due(spanOf(piece(R + "span 4 5 24 24 24;"), 4, 5), "4-5:24,24,24");
    }

    static void p09_thereIsNoFinger0() {
        HandFingers x = new HandFingers();
        refused(x, INDEX, () -> x.span(0, 1, 0));
        refused(x, INDEX, () -> x.span(1, 0, 0));
        thrown(INDEX, () -> x.span(MIN, 1, 0));
        thrown(INDEX, () -> x.span(1, -1, 0));
    }

    static void p09_thereIsNoFinger6() {
        HandFingers x = new HandFingers();
        refused(x, INDEX, () -> x.span(6, 5, 0));
        refused(x, INDEX, () -> x.span(5, 6, 0));
        thrown(INDEX, () -> x.span(MAX, 1, 0));
        thrown(INDEX, () -> x.span(1, MAX, 0));
    }

    static void p09_theSameFingerTwiceIsRefused() {
        HandFingers x = new HandFingers();
        for (int finger = 1; finger <= 5; finger++) {
            int one = finger;
            refused(x, ARGUMENT, () -> x.span(one, one, 0));
        }
    }

    static void p09_anyOtherWhatIsRefused() {
        HandFingers x = new HandFingers();
        refusedEach(x, ARGUMENT, new int[] {-1, 3, MIN, MAX}, what -> x.span(1, 2, what));
    }

    static void p09_theFingersAreLookedAtFirst() {
        HandFingers x = new HandFingers();
        thrown(INDEX, () -> x.span(6, 6, 0));
        thrown(INDEX, () -> x.span(0, 0, 0));
        thrown(INDEX, () -> x.span(1, 6, 3));
        thrown(INDEX, () -> x.span(0, 2, -1));
    }
}
