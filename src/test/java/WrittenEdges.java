/** The boundary cases of promises 38 and 39: the written text. */
final class WrittenEdges extends Edges {

    // ---- promise 38: writeFingers

    static void p38_anEmptyTextWithoutEvents() {
        HandFingers x = new HandFingers();
        due(x.writeFingers(), 0);
        thrown(INDEX, () -> x.writtenByte(0));
    }

    static void p38_oneNoteIsOneDigit() {
        due(written(piece(R + "play 60;")), "1");
    }

    static void p38_theDigitsOfAnEventStandSideBySide() {
        due(written(piece(R + "play 60 64 67;")), "135");
    }

    static void p38_byNumbersOfNotesWithTheLeftHandToo() {
        due(written(piece("hand left;play 60 64 67;")), "531");
    }

    static void p38_oneSpaceBetweenTwoEventsAndNoneAtTheEnds() {
        due(written(piece(R + "play 60;play 62;play 64;")), "1 2 3");
    }

    static void p38_anApostropheIfTheRestIsFree() {
        due(written(piece(R + "play 60 rest 4 by 2;play 60 by 3;")), "2' 3");
    }

    static void p38_noApostropheIfTheRestIsOneLess() {
        due(written(piece(R + "play 60 rest 3 by 2;play 60 by 3;")), "2 3");
    }

    static void p38_noApostropheBehindTheLastEvent() {
        due(written(piece(R + "play 60 rest 9 by 2;")), "2");
        due(written(piece(R + "weight free 0;play 60 by 2;play 60 by 3;")), "2' 3");
    }

    static void p38_noApostropheIfFreeIs10() {
        due(written(piece(R + "weight free 10;play 60 rest 9 by 2;play 60 by 3;")), "2 3");
    }

    static void p38_oneApostropheBehindAnEventOfSeveralNotes() {
        due(written(piece(R + "play 60 64 67 rest 4;play 60 by 2;")), "135' 2");
    }

    static void p38_theLongestText() {
        HandFingers x = piece(R + "weight free 0;" + "play 60 64 67;".repeat(40));
        due(written(x), "135' ".repeat(39) + "135");
    }

    static void p38_noElementIfNoFingeringIsAllowed() {
        HandFingers x = piece(BARRED);
        refused(x, ELEMENT, x::writeFingers);
    }

    static void p38_aRefusedCallLeavesWhatWasWritten() {
        HandFingers x = piece(R + "play 60;play 60;");
        due(x.writeFingers(), 3);
        load(x, BARRED);
        thrown(ELEMENT, x::writeFingers);
        due(x.writtenByte(0), '1');
        due(x.writtenByte(2), '2');
        thrown(INDEX, () -> x.writtenByte(3));
    }

    static void p38_aShorterTextReplacesALongerOne() {
        HandFingers x = piece(R + "play 60 64 67;play 60 by 1;");
        due(x.writeFingers(), 5);
        x.drop(0);
        due(x.writeFingers(), 1);
        due(x.writtenByte(0), '1');
        thrown(INDEX, () -> x.writtenByte(1));
    }

    static void p38_anEmptyTextReplacesAnother() {
        HandFingers x = piece(R + "play 60;");
        due(x.writeFingers(), 1);
        x.drop(0);
        due(x.writeFingers(), 0);
        thrown(INDEX, () -> x.writtenByte(0));
    }

    static void p38_itIsNoChange() {
        HandFingers x = piece(R + "play 60;");
        x.writeFingers();
        due(x.undo(), 0);
    }

    // ---- promise 39: writtenByte

    static void p39_thereIsNoneAtFirst() {
        HandFingers x = new HandFingers();
        thrown(INDEX, () -> x.writtenByte(0));
        HandFingers y = piece(R + "play 60;");
        thrown(INDEX, () -> y.writtenByte(0));
    }

    static void p39_theFirstAndTheLastByte() {
        HandFingers x = piece(R + "play 60 rest 4 by 2;play 60 by 3;");
        due(x.writeFingers(), 4);
        due(x.writtenByte(0), 50);
        due(x.writtenByte(1), 39);
        due(x.writtenByte(2), 32);
        due(x.writtenByte(3), 51);
    }

    static void p39_thereIsNoByteBehindTheLast() {
        HandFingers x = piece(R + "play 60 rest 4 by 2;play 60 by 3;");
        x.writeFingers();
        refused(x, INDEX, () -> x.writtenByte(4));
        thrown(INDEX, () -> x.writtenByte(MAX));
    }

    static void p39_thereIsNoByteAheadOfTheFirst() {
        HandFingers x = piece(R + "play 60;");
        x.writeFingers();
        refused(x, INDEX, () -> x.writtenByte(-1));
        thrown(INDEX, () -> x.writtenByte(MIN));
    }

    static void p39_ofTheLongestTextTheLastByteHasTheNumber197() {
        HandFingers x = piece(R + "weight free 0;" + "play 60 64 67;".repeat(40));
        due(x.writeFingers(), 198);
        due(x.writtenByte(197), '5');
        thrown(INDEX, () -> x.writtenByte(198));
    }

    static void p39_aChangeOfThePieceLeavesTheText() {
        HandFingers x = piece(R + "play 60;play 62;");
        x.writeFingers();
        x.setHand(false);
        x.drop(1);
        load(x, R);
        due(x.writtenByte(0), '1');
        due(x.writtenByte(2), '2');
    }
}
