/** The boundary cases of promise 3, load, and of the grammar in section 4. R is the first 11 bytes of most texts. */
final class PieceTextEdges extends Edges {

    // ---- what load does

    static void p03_aTextWithoutEventsHasNone() {
        due(load(new HandFingers(), "hand right;"), 0);
        due(load(new HandFingers(), "hand left;"), 0);
    }

    static void p03_oneEvent() {
        due(load(new HandFingers(), R + "play 60;"), 1);
    }

    static void p03_fortyEventsAreRead() {
        HandFingers x = new HandFingers();
        due(load(x, R + "play 60;".repeat(39) + "play 61 62;"), 40);
        due(eventOf(x, 39), "[61/31 62/31 rest 0]");
    }

    static void p03_thePresentPieceIsReplacedWhole() {
        HandFingers x = piece("hand left;weight jump 9;span 1 2 3 4 5;play 60 62 64 rest 9 by 1 2 3;play 61;");
        due(load(x, R + "play 70;"), 1);
        due(state(x), state(piece(R + "play 70;")));
    }

    static void p03_weightsThatAreNotToldAreAsAtFirst() {
        HandFingers x = new HandFingers();
        x.setWeight(4, 77);
        load(x, R + "weight weak 9;");
        due(x.weight(4), 2);
        due(x.weight(6), 9);
    }

    static void p03_spansThatAreNotToldAreAsAtFirst() {
        HandFingers x = new HandFingers();
        x.setSpan(1, 2, 2, 3, 4);
        load(x, R + "span 1 3 4 5 6;");
        due(spanOf(x, 1, 2), "1-2:1,5,8");
        due(spanOf(x, 1, 3), "1-3:4,5,6");
    }

    static void p03_setsThatAreNotToldAreFull() {
        HandFingers x = piece(R + "play 60 by 2;");
        load(x, R + "play 60;");
        due(x.note(0, 0, 1), 31);
    }

    static void p03_theBufferIsEmptyAfterwards() {
        HandFingers x = piece(R);
        due(x.append(0, 0, 0, 0, 0), 0);
        due(x.load(), -2);
        due(x.errorPosition(), 0);
    }

    static void p03_theBufferIsEmptyAfterAnErrorToo() {
        HandFingers x = new HandFingers();
        due(load(x, "hand right"), -2);
        due(x.append(0, 0, 0, 0, 0), 0);
        due(load(x, R), 0);
    }

    static void p03_aTextWithAnErrorLeavesThePieceAndWhatItCosts() {
        HandFingers x = piece(R + "play 60 by 1;play 62 by 4;");
        due(x.best(), 7);
        due(load(x, "hand left;weight stretch 9;weight weak 9;span 1 4 1 1 1;play 60;play 62;play"), -2);
        due(x.best(), 7);
        due(x.many(false), 1);
    }

    static void p03_aLaterSpanIsForgottenWithItsError() {
        HandFingers x = new HandFingers();
        load(x, R + "span 1 2 3 4 5;span 1 2 1 1;");
        due(spanOf(x, 1, 2), "1-2:1,5,8");
    }

    static void p03_readingStopsAtTheFirstError() {
        valueError(R + "weight jump 100;play 60 60;play", 23);
        misfit(R + "play 60 60;weight jump 100;", 19);
    }

    // ---- bytes, words, numbers and spaces

    static void p03_anEmptyTextEndsAt0() {
        syntaxError("", 0);
    }

    static void p03_aTextOfSpacesEndsAtItsLength() {
        syntaxError(" ", 1);
        syntaxError(" ".repeat(600), 600);
    }

    static void p03_spacesMayStandInFrontOfEveryTokenAndAtTheEnd() {
        HandFingers x = new HandFingers();
        String text = " hand right ; weight jump 5 ; span 1 2 3 4 5 ; play 60 62 rest 1 by 0 2 ; ";
        due(load(x, text.replace(" ", "   ")), 1);
        due(x.weight(4), 5);
        due(spanOf(x, 1, 2), "1-2:3,4,5");
        due(eventOf(x, 0), "[60/31 62/2 rest 1]");
    }

    static void p03_noSpaceIsNeededBetweenDigitsAndLetters() {
        HandFingers x = new HandFingers();
        due(load(x, "hand right;weight jump5;span1 2 3 4 5;play60rest1by1;"), 1);
        due(eventOf(x, 0), "[60/1 rest 1]");
    }

    static void p03_aWordIsTheLongestSequenceOfLetters() {
        syntaxError("handright;", 0);
        syntaxError("hands right;", 0);
        syntaxError("hand rights;", 5);
        syntaxError(R + "weightjump 5;", 11);
        syntaxError(R + "plays 60;", 11);
        syntaxError(R + "play 60 rests 1;", 19);
        syntaxError(R + "play 60 bye 1;", 19);
    }

    static void p03_aWordThatIsTooShortIsNone() {
        syntaxError("han right;", 0);
        syntaxError("hand righ;", 5);
        syntaxError("hand lef;", 5);
        syntaxError(R + "weigh jump 5;", 11);
        syntaxError(R + "weight jum 5;", 18);
        syntaxError(R + "spa 1 2 3 4 5;", 11);
        syntaxError(R + "pla 60;", 11);
        syntaxError(R + "play 60 res 1;", 19);
        syntaxError(R + "play 60 b 1;", 19);
    }

    static void p03_aWordOfAnotherFirstLetterIsNone() {
        syntaxError("band right;", 0);
        syntaxError("hand light;", 5);
        syntaxError("hand deft;", 5);
        syntaxError(R + "height jump 5;", 11);
        syntaxError(R + "weight bump 5;", 18);
        syntaxError(R + "scan 1 2 3 4 5;", 11);
        syntaxError(R + "clay 60;", 11);
        syntaxError(R + "play 60 best 1;", 19);
        syntaxError(R + "play 60 my 1;", 19);
    }

    static void p03_aWordOfAnotherLastLetterIsNone() {
        syntaxError("hang right;", 0);
        syntaxError("hand rigid;", 5);
        syntaxError("hand lefs;", 5);
        syntaxError(R + "weighs jump 5;", 11);
        syntaxError(R + "weight junk 5;", 18);
        syntaxError(R + "spas 1 2 3 4 5;", 11);
        syntaxError(R + "plan 60;", 11);
        syntaxError(R + "play 60 resy 1;", 19);
        syntaxError(R + "play 60 be 1;", 19);
    }

    static void p03_capitalsAreNoLetters() {
        syntaxError("Hand right;", 0);
        syntaxError("hanD right;", 0);
        syntaxError("hand Right;", 5);
    }

    static void p03_aWordInTwoPartsIsTwoWords() {
        syntaxError("ha nd right;", 0);
        syntaxError(R + "pl ay 60;", 11);
    }

    static void p03_theBytesBesideTheLettersAreNone() {
        syntaxError("hand `right;", 5);
        syntaxError("hand {right;", 5);
        syntaxError("hand right{;", 10);
        syntaxError("hand right`;", 10);
    }

    static void p03_theBytesBesideTheDigitsAreNone() {
        syntaxError(R + "play 60/;", 18);
        syntaxError(R + "play 60:;", 18);
        syntaxError(R + "play /60;", 16);
        syntaxError(R + "play :60;", 16);
    }

    static void p03_theBytesBesideTheSemicolonAreNone() {
        syntaxError("hand right:", 10);
        syntaxError("hand right<", 10);
    }

    static void p03_onlyByte32IsASpace() {
        for (int one : new int[] {1, 9, 10, 13, 31, 33, 127, 160, 255}) {
            syntaxError("hand" + (char) one + "right;", 4);
            syntaxError(R + (char) one, 11);
        }
    }

    static void p03_zerosAtTheBeginningOfANumberDoNotMatter() {
        HandFingers x = new HandFingers();
        due(load(x, R + "weight jump 007;span 01 002 03 004 05;play 0060 00000000000062 rest 01 by 00 05;"), 1);
        due(x.weight(4), 7);
        due(spanOf(x, 1, 2), "1-2:3,4,5");
        due(eventOf(x, 0), "[60/31 62/16 rest 1]");
    }

    static void p03_fiveHundredZerosDoNotMatter() {
        HandFingers x = new HandFingers();
        due(load(x, R + "weight jump " + "0".repeat(500) + "99;"), 0);
        due(x.weight(4), 99);
    }

    static void p03_nothingButZerosIs0() {
        due(piece(R + "weight jump 000;").weight(4), 0);
    }

    static void p03_aNumberDoesNotWrapAround() {
        // 2 to the powers 32 and 64, each plus 60; 16, 31 and 63 too
        valueError(R + "play 4294967356;", 16);
        valueError(R + "play 18446744073709551676;", 16);
        valueError(R + "play 65596;", 16);
        valueError(R + "play 2147483708;", 16);
        valueError(R + "play 9223372036854775868;", 16);
        valueError(R + "play " + "9".repeat(500) + ";", 16);
    }

    static void p03_aSignIsNoPartOfANumber() {
        syntaxError(R + "weight jump -5;", 23);
        syntaxError(R + "weight jump +5;", 23);
    }

    // ---- where the text ends

    static void p03_theEndBehindEachToken() {
        String text = R + "weight jump 5;span 1 2 3 4 5;play 60 62 rest 1 by 0 2;";
        // A text may end behind a semicolon, and nowhere else.
        String[] tokens = {"hand", "hand right", R + "weight", R + "weight jump", R + "weight jump 5",
            R + "weight jump 5;span", R + "weight jump 5;span 1", R + "weight jump 5;span 1 2",
            R + "weight jump 5;span 1 2 3", R + "weight jump 5;span 1 2 3 4", R + "weight jump 5;span 1 2 3 4 5",
            R + "weight jump 5;span 1 2 3 4 5;play", R + "weight jump 5;span 1 2 3 4 5;play 60",
            R + "weight jump 5;span 1 2 3 4 5;play 60 62", R + "weight jump 5;span 1 2 3 4 5;play 60 62 rest",
            R + "weight jump 5;span 1 2 3 4 5;play 60 62 rest 1", R + "weight jump 5;span 1 2 3 4 5;play 60 62 rest 1 by",
            R + "weight jump 5;span 1 2 3 4 5;play 60 62 rest 1 by 0",
            R + "weight jump 5;span 1 2 3 4 5;play 60 62 rest 1 by 0 2"};
        for (String one : tokens) {
            syntaxError(one, one.length());
            syntaxError(one + "  ", one.length() + 2);
        }
        due(load(new HandFingers(), text), 1);
    }

    static void p03_aSecondSemicolonIsTooMuch() {
        syntaxError("hand right;;", 11);
        syntaxError(R + "play 60;;", 19);
    }

    static void p03_nothingMayStandBehindTheEvents() {
        syntaxError(R + "play 60; 60;", 20);
        syntaxError(R + "play 60;hand left;", 19);
        syntaxError(R + "play 60;weight jump 5;", 19);
        syntaxError(R + "play 60;span 1 2 3 4 5;", 19);
        syntaxError(R + "play 60;by 1;", 19);
    }

    static void p03_noWeightBehindTheSpans() {
        syntaxError(R + "span 1 2 3 4 5;weight jump 5;", 26);
    }

    static void p03_theHandComesFirst() {
        syntaxError("play 60;", 0);
        syntaxError("weight jump 5;hand right;", 0);
        syntaxError("right;", 0);
    }

    static void p03_noOtherHand() {
        syntaxError("hand both;", 5);
        syntaxError("hand ;", 5);
        syntaxError("hand 1;", 5);
        syntaxError("hand right left;", 11);
    }

    // ---- weights

    static void p03_eachWeightByItsName() {
        String[] names = {"stretch", "cross", "repeat", "change", "jump", "black", "weak", "ease", "free", "reach"};
        for (int weight = 0; weight < 10; weight++) {
            HandFingers x = piece(R + "weight " + names[weight] + " 88;");
            for (int other = 0; other < 10; other++) {
                due(x.weight(other), other == weight ? 88 : new HandFingers().weight(other));
            }
        }
    }

    static void p03_noOtherNameOfAWeight() {
        syntaxError(R + "weight loud 5;", 18);
        syntaxError(R + "weight weight 5;", 18);
        syntaxError(R + "weight 5;", 18);
        syntaxError(R + "weight ;", 18);
    }

    static void p03_aWeightOf0AndOf99() {
        due(piece(R + "weight jump 0;").weight(4), 0);
        due(piece(R + "weight jump 99;").weight(4), 99);
    }

    static void p03_aWeightOf100IsOutOfItsRange() {
        valueError(R + "weight jump 100;", 23);
    }

    static void p03_aWeightNeedsItsNumber() {
        syntaxError(R + "weight jump;", 22);
        syntaxError(R + "weight jump cross;", 23);
    }

    static void p03_aWeightHasOneNumber() {
        syntaxError(R + "weight jump 5 6;", 25);
    }

    static void p03_aWeightThatIsToldAgainReplacesTheOneAhead() {
        HandFingers x = piece(R + "weight jump 5;weight weak 6;weight jump 0;");
        due(x.weight(4), 0);
        due(x.weight(6), 6);
    }

    static void p03_anyNumberOfWeights() {
        due(piece(R + "weight weak4;".repeat(43) + "weight weak5;").weight(6), 5);
    }

    // ---- spans

    static void p03_theFingersOfASpanAre1To5() {
        due(spanOf(piece(R + "span 1 5 3 4 5;"), 1, 5), "1-5:3,4,5");
        valueError(R + "span 0 5 3 4 5;", 16);
        valueError(R + "span 1 6 3 4 5;", 18);
        valueError(R + "span 6 7 3 4 5;", 16);
        valueError(R + "span 5 6 3 4 5;", 18);
    }

    static void p03_theSecondFingerMustBeGreater() {
        due(spanOf(piece(R + "span 4 5 3 4 5;"), 4, 5), "4-5:3,4,5");
        misfit(R + "span 4 4 3 4 5;", 18);
        misfit(R + "span 4 3 3 4 5;", 18);
        misfit(R + "span 5 1 3 4 5;", 18);
        misfit(R + "span 5 5 3 4 5;", 18);
    }

    static void p03_aSecondFingerOf0IsOutOfItsRangeAheadOfTheMisfit() {
        valueError(R + "span 2 0 3 4 5;", 18);
    }

    static void p03_aLowIs1To24() {
        due(spanOf(piece(R + "span 1 2 1 4 5;"), 1, 2), "1-2:1,4,5");
        due(spanOf(piece(R + "span 1 2 24 24 24;"), 1, 2), "1-2:24,24,24");
        valueError(R + "span 1 2 0 4 5;", 20);
        valueError(R + "span 1 2 25 25 25;", 20);
    }

    static void p03_aHighIsNotLessThanTheLow() {
        due(spanOf(piece(R + "span 1 2 7 7 9;"), 1, 2), "1-2:7,7,9");
        misfit(R + "span 1 2 7 6 9;", 22);
        misfit(R + "span 1 2 7 1 9;", 22);
    }

    static void p03_aHighOutOfItsRangeIsToldAheadOfTheMisfit() {
        valueError(R + "span 1 2 7 0 9;", 22);
        valueError(R + "span 1 2 7 25 25;", 22);
    }

    static void p03_aLimitIsNotLessThanTheHigh() {
        due(spanOf(piece(R + "span 1 2 1 9 9;"), 1, 2), "1-2:1,9,9");
        misfit(R + "span 1 2 1 9 8;", 24);
        misfit(R + "span 1 2 1 9 1;", 24);
    }

    static void p03_aLimitOutOfItsRangeIsToldAheadOfTheMisfit() {
        valueError(R + "span 1 2 1 9 0;", 24);
        valueError(R + "span 1 2 1 9 25;", 24);
    }

    static void p03_aLimitOf24() {
        due(spanOf(piece(R + "span 1 2 1 9 24;"), 1, 2), "1-2:1,9,24");
    }

    static void p03_aSpanOfTooFewNumbers() {
        syntaxError(R + "span;", 15);
        syntaxError(R + "span 1;", 17);
        syntaxError(R + "span 1 2;", 19);
        syntaxError(R + "span 1 2 3;", 21);
        syntaxError(R + "span 1 2 3 4;", 23);
    }

    static void p03_aSpanOfTooManyNumbers() {
        syntaxError(R + "span 1 2 3 4 5 6;", 26);
    }

    static void p03_aSpanThatIsToldAgainReplacesTheOneAhead() {
        HandFingers x = piece(R + "span 1 2 3 4 5;span 2 3 1 1 1;span 1 2 6 7 8;");
        due(spanOf(x, 1, 2), "1-2:6,7,8");
        due(spanOf(x, 2, 3), "2-3:1,1,1");
    }

    // ---- events

    static void p03_anEventNeedsAKey() {
        syntaxError(R + "play;", 15);
        syntaxError(R + "play rest 1;", 16);
        syntaxError(R + "play by 1;", 16);
        syntaxError(R + "play play 60;", 16);
    }

    static void p03_oneTwoAndThreeKeys() {
        HandFingers x = piece(R + "play 60;play 60 61;play 60 61 62;");
        due(x.event(0, 0), 1);
        due(x.event(1, 0), 2);
        due(x.event(2, 0), 3);
    }

    static void p03_aFourthKeyIsTooMany() {
        tooMany(R + "play 60 61 62 63;", 25);
    }

    static void p03_aFourthKeyIsTooManyWhateverTheNumberIs() {
        tooMany(R + "play 60 61 62 0;", 25);
        tooMany(R + "play 60 61 62 109;", 25);
        tooMany(R + "play 60 61 62 62;", 25);
        tooMany(R + "play 60 61 62 61;", 25);
        tooMany(R + "play 60 61 62 99999999999;", 25);
    }

    static void p03_aWrongThirdKeyIsToldAheadOfTheFourth() {
        misfit(R + "play 60 61 61 62;", 22);
    }

    static void p03_theKeysAre21To108() {
        due(eventOf(piece(R + "play 21 108;"), 0), "[21/31 108/31 rest 0]");
        valueError(R + "play 20;", 16);
        valueError(R + "play 109;", 16);
        valueError(R + "play 0;", 16);
        valueError(R + "play 60 109;", 19);
        valueError(R + "play 60 61 109;", 22);
    }

    static void p03_aKeyThatIsNotGreaterThanTheOneAheadIsAMisfit() {
        misfit(R + "play 60 60;", 19);
        misfit(R + "play 60 59;", 19);
        misfit(R + "play 60 62 62;", 22);
        misfit(R + "play 60 62 61;", 22);
        misfit(R + "play 60 62 60;", 22);
        misfit(R + "play 60 62 21;", 22);
    }

    static void p03_aLesserKeyOutOfItsRangeIsToldAheadOfTheMisfit() {
        valueError(R + "play 60 20;", 19);
        valueError(R + "play 60 0;", 19);
    }

    static void p03_aKeyNeedNotBeGreaterThanTheEventAhead() {
        due(load(new HandFingers(), R + "play 60 62;play 60;play 21;"), 3);
    }

    static void p03_aRestIs0To9() {
        HandFingers x = piece(R + "play 60 rest 0;play 60 rest 9;");
        due(x.event(0, 1), 0);
        due(x.event(1, 1), 9);
        valueError(R + "play 60 rest 10;", 24);
    }

    static void p03_theRestIs0WithoutOne() {
        due(piece(R + "play 60 rest 5;play 60;").event(1, 1), 0);
    }

    static void p03_aRestNeedsItsNumber() {
        syntaxError(R + "play 60 rest;", 23);
        syntaxError(R + "play 60 rest by 1;", 24);
    }

    static void p03_aRestHasOneNumber() {
        syntaxError(R + "play 60 rest 1 2;", 26);
    }

    static void p03_oneRestAtMost() {
        syntaxError(R + "play 60 rest 1 rest 1;", 26);
    }

    static void p03_theRestComesAheadOfBy() {
        syntaxError(R + "play 60 by 1 rest 1;", 24);
    }

    static void p03_noKeyBehindTheRest() {
        syntaxError(R + "play 60 rest 1 62;", 26);
    }

    static void p03_theFingersAre1To5Or0ForAll() {
        due(eventOf(piece(R + "play 60 61 62 by 0 1 5;"), 0), "[60/31 61/1 62/16 rest 0]");
        valueError(R + "play 60 by 6;", 22);
        valueError(R + "play 60 61 by 0 6;", 27);
    }

    static void p03_behindByANumberMustStand() {
        syntaxError(R + "play 60 by;", 21);
        syntaxError(R + "play 60 by by 1;", 22);
        syntaxError(R + "play 60 by rest 1;", 22);
    }

    static void p03_tooFewFingers() {
        syntaxError(R + "play 60 61 by 1;", 26);
        syntaxError(R + "play 60 61 62 by 1 2;", 31);
        syntaxError(R + "play 60 61 by 1 play 60;", 27);
    }

    static void p03_aFingerMoreThanNotesIsTooMany() {
        tooMany(R + "play 60 by 1 2;", 24);
        tooMany(R + "play 60 61 by 1 2 3;", 29);
        tooMany(R + "play 60 61 62 by 1 2 3 4;", 34);
    }

    static void p03_aFingerMoreIsTooManyWhateverTheNumberIs() {
        tooMany(R + "play 60 by 1 0;", 24);
        tooMany(R + "play 60 by 1 6;", 24);
        tooMany(R + "play 60 by 1 99999999999;", 24);
    }

    static void p03_oneByAtMost() {
        syntaxError(R + "play 60 by 1 by 1;", 24);
    }

    static void p03_fingersInNoOrderAreRead() {
        due(eventOf(piece(R + "play 60 61 62 by 5 5 1;"), 0), "[60/16 61/16 62/1 rest 0]");
    }

    static void p03_the41stEventIsTooManyAtItsWordPlay() {
        tooMany(R + "play 60;".repeat(40) + "  play 60;", 333);
    }

    static void p03_the41stEventIsTooManyBeforeAnythingBehindItIsRead() {
        tooMany(R + "play 60;".repeat(40) + "play", 331);
        tooMany(R + "play 60;".repeat(40) + "play 0 by ;", 331);
        tooMany(R + "play 60;".repeat(40) + "play!", 331);
    }

    static void p03_anotherWordBehindFortyEventsIsNotAllowed() {
        syntaxError(R + "play 60;".repeat(40) + "plays 60;", 331);
        syntaxError(R + "play 60;".repeat(40) + "hand", 331);
    }

    static void p03_anErrorInTheFortiethEventComesFirst() {
        misfit(R + "play 60;".repeat(39) + "play 60 60;play 60;", 331);
    }
}
