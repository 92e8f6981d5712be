/** The boundary cases of promises 20 and 21: fingerings that are told, and how their texts are read. */
final class ToldEdges extends Edges {
    private static final String CHORD = "hand right;play 60 64;play 62;";

    /** Both calls tell this error of the text, at this position, and leave the buffer empty and the piece as it was. */
    private static void bothFail(String piece, String text, int code, int position) {
        HandFingers x = piece(piece);
        String before = state(x).replace("error -1", "error " + position);
        due(costOfTold(x, text), code);
        due(x.errorPosition(), position);
        due(state(x), before);
        HandFingers y = piece(piece);
        due(faultOfTold(y, text), code);
        due(y.errorPosition(), position);
        due(state(y), before);
    }

    // ---- how a fingering is read (promise 20 and promise 21 alike)

    static void p20_p21_anEmptyTextWithoutNotesIsTheOneFingering() {
        due(costOfTold(new HandFingers(), ""), 0);
        due(faultOfTold(new HandFingers(), ""), -10);
    }

    static void p20_p21_spacesAloneWithoutNotes() {
        due(costOfTold(new HandFingers(), "   "), 0);
        due(faultOfTold(new HandFingers(), "   "), -10);
    }

    static void p20_p21_oneFingerWithoutNotesIsTooMany() {
        bothFail(R, "1", -5, 0);
        bothFail(R, "  0", -5, 2);
    }

    static void p20_p21_anEmptyTextIsTooShort() {
        bothFail(CHORD, "", -4, 0);
    }

    static void p20_p21_oneFingerTooFewIsAMisfitAtTheLengthOfTheText() {
        bothFail(CHORD, "1 3", -4, 3);
        bothFail(CHORD, "1 3   ", -4, 6);
        bothFail(CHORD, "1 3" + " ".repeat(597), -4, 600);
    }

    static void p20_p21_oneFingerMoreIsTooManyAtItsFirstDigit() {
        bothFail(CHORD, "1 3 2 2", -5, 6);
        bothFail(CHORD, "1 3 2   2 x", -5, 8);
    }

    static void p20_p21_oneFingerMoreIsTooManyWhateverItIs() {
        bothFail(CHORD, "1 3 2 0", -5, 6);
        bothFail(CHORD, "1 3 2 6", -5, 6);
        bothFail(CHORD, "1 3 2 99999999999", -5, 6);
    }

    static void p20_p21_fingersAre1To5() {
        due(costOfTold(piece(R + "play 60;play 60;"), "1 5"), 1);
        due(faultOfTold(piece(R + "play 60;play 60;"), "1 5"), -10);
        bothFail(CHORD, "0 3 2", -3, 0);
        bothFail(CHORD, "1 6 2", -3, 2);
        bothFail(CHORD, "1 3 0", -3, 4);
    }

    static void p20_p21_digitsSideBySideAreOneNumber() {
        bothFail(CHORD, "132", -3, 0);
        bothFail(CHORD, "1 32", -3, 2);
    }

    static void p20_p21_aNumberDoesNotWrapAround() {
        // 2 to the powers 32 and 64, plus 1
        bothFail(CHORD, "4294967297 3 2", -3, 0);
        bothFail(CHORD, "1 18446744073709551617 2", -3, 2);
    }

    static void p20_p21_zerosAtTheBeginningDoNotMatter() {
        due(costOfTold(piece(CHORD), "01 0003 02"), 0);
        due(faultOfTold(piece(CHORD), "01 0003 02"), -10);
    }

    static void p20_p21_spacesMayStandInFrontOfEachFingerAndAtTheEnd() {
        due(costOfTold(piece(CHORD), "  1   3  2  "), 0);
        due(faultOfTold(piece(CHORD), "  1   3  2  "), -10);
    }

    static void p20_p21_anotherTokenIsNotAllowed() {
        bothFail(CHORD, "1 by 2", -2, 2);
        bothFail(CHORD, "1 3;2", -2, 3);
        bothFail(CHORD, "1,3,2", -2, 1);
        bothFail(CHORD, "-1 3 2", -2, 0);
        bothFail(CHORD, "1 3 2;", -2, 5);
        bothFail(CHORD, "1 3 2 x", -2, 6);
        bothFail(CHORD, "1 3 2" + (char) 9, -2, 5);
    }

    static void p20_p21_readingStopsAtTheFirstError() {
        bothFail(CHORD, "1 x 9", -2, 2);
        bothFail(CHORD, "1 9 x", -3, 2);
    }

    static void p20_p21_anErrorComesAheadOfWhatIsNotAllowed() {
        bothFail(CHORD, "3 1", -4, 3);
        bothFail(CHORD, "3 1 2 2", -5, 6);
    }

    static void p20_p21_120FingersAreRead() {
        HandFingers x = piece(R + "weight repeat 0;" + "play 60 64 67;".repeat(40));
        due(costOfTold(x, "1 3 5 ".repeat(40)), 0);
        due(faultOfTold(x, "1 3 5 ".repeat(40)), -10);
        due(costOfTold(x, "1 3 5 ".repeat(39) + "1 3"), -4);
        due(x.errorPosition(), 237);
        due(costOfTold(x, "1 3 5 ".repeat(40) + "1"), -5);
        due(x.errorPosition(), 240);
    }

    static void p20_p21_aPieceIsNoFingering() {
        bothFail(CHORD, R, -2, 0);
    }

    // ---- promise 20: costOfTold

    static void p20_theBufferIsEmptyAfterwards() {
        HandFingers x = piece(CHORD);
        due(costOfTold(x, "1 3 2"), 0);
        due(x.append(0, 0, 0, 0, 0), 0);
        due(x.costOfTold(), -4);
        due(x.errorPosition(), 0);
    }

    static void p20_theBufferIsEmptyAfterAnErrorToo() {
        HandFingers x = piece(CHORD);
        due(costOfTold(x, "1 3"), -4);
        due(x.append(0, 0, 0, 0, 0), 0);
        due(costOfTold(x, "1 3 2"), 0);
    }

    static void p20_theBufferIsEmptyIfItIsNotAllowedToo() {
        HandFingers x = piece(CHORD);
        due(costOfTold(x, "3 1 2"), -10);
        due(x.append(0, 0, 0, 0, 0), 0);
    }

    static void p20_aDearFingeringHasItsOwnCost() {
        HandFingers x = piece(R + "play 61 rest 1;play 66;");
        due(x.best(), 1);
        // Both keys are black; 5 is below the low 7 by 2; less 2 for the rest.
        due(costOfTold(x, "1 5"), 4 + 4 + 4 - 2);
    }

    static void p20_notAllowedIfAFingerMayNotPlayItsNote() {
        HandFingers x = piece(R + "play 60;");
        x.let(0, 0, 5, false);
        due(costOfTold(x, "5"), -10);
        due(costOfTold(x, "4"), 1);
    }

    static void p20_notAllowedIfAnEventIsNotInOrder() {
        due(costOfTold(piece(CHORD), "3 1 2"), -10);
        due(costOfTold(piece(CHORD), "3 3 2"), -10);
        due(costOfTold(piece("hand left;play 60 64;play 62;"), "1 3 2"), -10);
    }

    static void p20_notAllowedOneAboveALimit() {
        due(costOfTold(piece(R + "play 60 68;"), "1 2"), 6);
        due(costOfTold(piece(R + "play 60 69;"), "1 2"), -10);
    }

    static void p20_notAllowedIfAPassageIsNot() {
        due(costOfTold(piece(BARRED), "5 1"), -10);
        due(costOfTold(piece(R + "play 60 rest 3;play 81;"), "5 1"), -10);
        due(costOfTold(piece(R + "play 60 rest 4;play 81;"), "5 1"), 0);
    }

    static void p20_itIsNoChange() {
        HandFingers x = piece(CHORD);
        costOfTold(x, "1 3 2");
        due(x.undo(), 0);
    }

    // ---- promise 21: faultOfTold

    static void p21_theBufferIsEmptyAfterwards() {
        HandFingers x = piece(CHORD);
        due(faultOfTold(x, "1 3 2"), -10);
        due(x.append(0, 0, 0, 0, 0), 0);
        due(faultOfTold(x, "3 1 2"), 1);
        due(x.append(0, 0, 0, 0, 0), 0);
    }

    static void p21_theBufferIsEmptyAfterAnErrorToo() {
        HandFingers x = piece(CHORD);
        due(faultOfTold(x, "1 x"), -2);
        due(x.append(0, 0, 0, 0, 0), 0);
        due(faultOfTold(x, "1 3 2"), -10);
    }

    static void p21_theFirstEventIs1() {
        due(faultOfTold(piece(R + "play 60 by 1;play 60;"), "2 1"), 1);
    }

    static void p21_theFirstPassageIs12() {
        due(faultOfTold(piece(BARRED), "5 1"), 12);
    }

    static void p21_theLastEventOfFortyIs391() {
        HandFingers x = piece(R + "play 60;".repeat(39) + "play 60 by 3;");
        due(faultOfTold(x, "1 ".repeat(39) + "4"), 391);
        due(faultOfTold(x, "1 ".repeat(39) + "3"), -10);
    }

    static void p21_theLastPassageOfFortyIs392() {
        HandFingers x = piece(R + "play 60;".repeat(39) + "play 80;");
        due(faultOfTold(x, "5 ".repeat(39) + "1"), 392);
        due(faultOfTold(x, "5 ".repeat(39) + "5"), -10);
    }

    static void p21_theEventComesAheadOfThePassageIntoIt() {
        HandFingers x = piece(R + "play 60;play 80 by 2;");
        due(faultOfTold(x, "5 1"), 11);
        due(faultOfTold(x, "5 2"), 12);
    }

    static void p21_thePassageComesAheadOfTheNextEvent() {
        due(faultOfTold(piece(R + "play 60;play 80;play 80 by 2;"), "5 1 1"), 12);
    }

    static void p21_anEarlierEventComesAheadOfALaterOne() {
        due(faultOfTold(piece(R + "play 60 by 1;play 60 by 1;"), "2 2"), 1);
    }

    static void p21_aFingerThatMayNotPlay() {
        due(faultOfTold(piece(R + "play 60 64 by 0 3;"), "1 4"), 1);
    }

    static void p21_fingersInNoOrder() {
        due(faultOfTold(piece(R + "play 60;play 60 64;"), "3 3 1"), 11);
        due(faultOfTold(piece(R + "play 60;play 60 64;"), "3 3 3"), 11);
        due(faultOfTold(piece("hand left;play 60;play 60 64;"), "3 1 3"), 11);
    }

    static void p21_aDistanceOneAboveALimit() {
        due(faultOfTold(piece(R + "play 60 68;"), "1 2"), -10);
        due(faultOfTold(piece(R + "play 60 69;"), "1 2"), 1);
        due(faultOfTold(piece(R + "play 60 62 71;"), "1 2 3"), 1);
    }

    static void p21_aFreePassageIsNoFault() {
        due(faultOfTold(piece(R + "play 60 rest 4;play 80;"), "5 1"), -10);
        due(faultOfTold(piece(R + "play 60 rest 3;play 80;"), "5 1"), 12);
    }

    static void p21_itIsNoChange() {
        HandFingers x = piece(CHORD);
        faultOfTold(x, "3 1 2");
        due(x.undo(), 0);
    }
}
