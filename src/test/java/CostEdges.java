/** The boundary cases of promises 10 to 19: links, the cheapest fingering, and what is counted of fingerings. */
final class CostEdges extends Edges {
    private static final String FIVE = "hand right;play 60;play 62;play 64;play 65;play 67;";
    /** Each chord has ten ways, each passage is free, and all of it costs nothing. */
    private static final String ALL_FREE = "hand right;weight free 0;weight stretch 0;weight weak 0;weight black 0;";

    // ---- promises 11 to 19 together

    /** What the fingerings cost when each is told: the least is best, the first of these is the first cheapest one. */
    private static void dueByTelling(String text) {
        HandFingers x = piece(text);
        int notes = x.count(1);
        int all = (int) Math.pow(5, notes);
        int[] costs = new int[all];
        int best = -1;
        HandFingers teller = x;
        for (int i = 0; i < all; i++) {
            teller = i % 100 == 0 ? piece(text) : teller;
            StringBuilder told = new StringBuilder();
            for (int note = 0; note < notes; note++) {
                told.append(fingerOf(i, note, notes)).append(' ');
            }
            costs[i] = costOfTold(teller, told.toString());
            best = costs[i] >= 0 && (best < 0 || costs[i] < best) ? costs[i] : best;
        }
        due(x.best(), best);
        dueCounts(x, costs, best);
        int event = 0;
        int note = 0;
        for (int n = 0; n < notes; n++) {
            for (int finger = 1; finger <= 5; finger++) {
                due(x.costWith(event, note, finger), leastWith(costs, n, notes, finger));
            }
            due(x.finger(event, note), fingerOf(firstOf(costs, best), n, notes));
            note++;
            if (note == x.event(event, 0)) {
                event++;
                note = 0;
            }
        }
    }

    /** The finger of a note in the fingering of a number, all of them being numbered in their order. */
    private static int fingerOf(int fingering, int note, int notes) {
        return fingering / (int) Math.pow(5, notes - 1 - note) % 5 + 1;
    }

    private static int leastWith(int[] costs, int note, int notes, int finger) {
        int least = -1;
        for (int i = 0; i < costs.length; i++) {
            if (costs[i] >= 0 && fingerOf(i, note, notes) == finger && (least < 0 || costs[i] < least)) {
                least = costs[i];
            }
        }
        return least;
    }

    private static int firstOf(int[] costs, int best) {
        int first = 0;
        while (costs[first] != best) {
            first++;
        }
        return first;
    }

    private static void dueCounts(HandFingers x, int[] costs, int best) {
        int notes = x.count(1);
        int[] sets = new int[notes];
        int allowed = 0;
        int cheapest = 0;
        for (int i = 0; i < costs.length; i++) {
            allowed += costs[i] >= 0 ? 1 : 0;
            cheapest += costs[i] == best ? 1 : 0;
            for (int note = 0; note < notes; note++) {
                sets[note] |= costs[i] == best ? 1 << fingerOf(i, note, notes) : 0;
            }
        }
        due(x.many(false), allowed);
        due(x.many(true), cheapest);
        due(x.mean(), (double) best / (double) notes);
        int sure = 0;
        for (int set : sets) {
            sure += Integer.bitCount(set) == 1 ? 1 : 0;
        }
        due(x.sure(), sure);
        for (int finger = 1; finger <= 5; finger++) {
            int uses = 0;
            for (int note = 0; note < notes; note++) {
                uses += fingerOf(firstOf(costs, best), note, notes) == finger ? 1 : 0;
            }
            due(x.uses(finger), uses);
        }
        int sum = 0;
        for (int event = 0; event < x.count(0); event++) {
            sum += x.part(event, 0) + x.part(event, 1);
        }
        due(sum, best);
    }

    static void p11_p12_p13_p14_p15_p17_p18_p19_asWhenAllFingeringsAreTold() {
        dueByTelling("hand right;play 61;play 60 rest 1;play 66;play 65;play 70;");
        dueByTelling("hand left;play 61;play 60 rest 1;play 66;play 65;play 70;");
        dueByTelling("hand right;play 60 61;play 62 63;");
        dueByTelling("hand left;play 60 61;play 62 63 by 0 2;");
    }

    static void p11_p12_p13_p14_p15_p17_p18_p19_ofTwoEventsOfTenWaysEach() {
        dueByTelling("hand right;play 60 61 62;play 61 63 64;");
        dueByTelling("hand left;weight reach 1;play 60 62 64;play 59 61 63;");
    }

    static void p11_p12_p13_p14_p15_p17_p18_p19_ofManyCheapestOnes() {
        dueByTelling("hand right;weight stretch 0;weight change 0;weight weak 0;play 60 62 64;play 60;play 60 62;");
        dueByTelling("hand left;weight free 2;play 60 62 rest 2;play 60 64 rest 1;play 66 67;");
    }

    // ---- promise 10: link

    static void p10_theSameFingerOnTheSameKeyRepeats() {
        due(new HandFingers().link(3, 60, 3, 60), 3);
    }

    static void p10_anotherFingerOnTheSameKeyIsAChange() {
        HandFingers x = new HandFingers();
        due(x.link(1, 60, 2, 60), 1);
        due(x.link(2, 60, 1, 60), 1);
        due(x.link(5, 60, 4, 60), 1);
    }

    static void p10_theLeastAndTheGreatestKey() {
        HandFingers x = new HandFingers();
        due(x.link(1, 21, 1, 21), 3);
        due(x.link(5, 108, 5, 108), 3);
        due(x.link(3, 21, 3, 108), 174);
        due(x.link(3, 108, 3, 21), 174);
    }

    static void p10_theShortestJump() {
        HandFingers x = new HandFingers();
        due(x.link(3, 60, 3, 61), 2);
        due(x.link(3, 60, 3, 59), 2);
    }

    static void p10_noWeightNoCost() {
        HandFingers x = piece(R + "weight stretch 0;weight cross 0;weight repeat 0;weight change 0;weight jump 0;");
        due(x.link(1, 60, 1, 60), 0);
        due(x.link(1, 60, 2, 60), 0);
        due(x.link(1, 60, 1, 108), 0);
        due(x.link(1, 60, 2, 68), 0);
        due(x.link(2, 60, 1, 61), 0);
    }

    static void p10_theGreatestCost() {
        due(piece(R + "weight jump 99;").link(1, 21, 1, 108), 8613);
    }

    static void p10_aDistanceAtTheLowCostsNothing() {
        HandFingers x = new HandFingers();
        due(x.link(1, 60, 3, 63), 0);
        due(x.link(3, 63, 1, 60), 0);
    }

    static void p10_aDistanceOneBelowTheLowIsOffBy1() {
        HandFingers x = new HandFingers();
        due(x.link(1, 60, 3, 62), 2);
        due(x.link(3, 62, 1, 60), 2);
    }

    static void p10_aDistanceAtTheHighCostsNothing() {
        HandFingers x = new HandFingers();
        due(x.link(1, 60, 3, 67), 0);
        due(x.link(3, 67, 1, 60), 0);
    }

    static void p10_aDistanceOneAboveTheHighIsOffBy1() {
        HandFingers x = new HandFingers();
        due(x.link(1, 60, 3, 68), 2);
        due(x.link(3, 68, 1, 60), 2);
    }

    static void p10_aDistanceAtTheLimitFits() {
        HandFingers x = new HandFingers();
        due(x.link(1, 60, 3, 70), 6);
        due(x.link(3, 70, 1, 60), 6);
    }

    static void p10_aDistanceOneAboveTheLimitDoesNot() {
        HandFingers x = new HandFingers();
        due(x.link(1, 60, 3, 71), -1);
        due(x.link(3, 71, 1, 60), -1);
    }

    static void p10_ifTheDistanceDoesNotFitACrossingIsNotAsked() {
        HandFingers x = piece(R + "weight reach 99;");
        due(x.link(1, 60, 3, 71), -1);
        due(x.link(3, 71, 1, 60), -1);
    }

    static void p10_theSpanOfTheTwoFingersIsAsked() {
        HandFingers x = new HandFingers();
        due(x.link(4, 60, 5, 65), 6);
        due(x.link(4, 60, 5, 66), -1);
        due(x.link(1, 60, 5, 74), 6);
        due(x.link(1, 60, 5, 75), -1);
    }

    static void p10_aCrossingAtReach() {
        HandFingers x = new HandFingers();
        due(x.link(2, 60, 1, 65), 5);
        due(x.link(1, 65, 2, 60), 5);
    }

    static void p10_noCrossingOneAboveReach() {
        HandFingers x = new HandFingers();
        due(x.link(2, 60, 1, 66), -1);
        due(x.link(1, 66, 2, 60), -1);
    }

    static void p10_noCrossingIfReachIs0() {
        HandFingers x = piece(R + "weight reach 0;");
        due(x.link(2, 60, 1, 61), -1);
        due(x.link(1, 61, 2, 60), -1);
    }

    static void p10_aReachOf99IsAsFarAsTheKeysGo() {
        HandFingers x = piece(R + "weight reach 99;");
        due(x.link(2, 21, 1, 108), 5);
        due(x.link(1, 108, 2, 21), 5);
    }

    static void p10_fingers2To4CrossTheThumb() {
        HandFingers x = new HandFingers();
        for (int finger = 2; finger <= 4; finger++) {
            due(x.link(finger, 60, 1, 61), 5);
            due(x.link(1, 61, finger, 60), 5);
        }
    }

    static void p10_finger5NeverCrossesTheThumb() {
        HandFingers x = new HandFingers();
        due(x.link(5, 60, 1, 61), -1);
        due(x.link(1, 61, 5, 60), -1);
    }

    static void p10_withoutTheThumbThereIsNoCrossing() {
        HandFingers x = new HandFingers();
        for (int one = 2; one <= 4; one++) {
            for (int other = one + 1; other <= 5; other++) {
                due(x.link(other, 60, one, 61), -1);
                due(x.link(one, 61, other, 60), -1);
            }
        }
    }

    static void p10_theWayOfTheLeftHandIsTheOppositeOne() {
        HandFingers x = piece("hand left;");
        due(x.link(1, 60, 3, 57), 0);
        due(x.link(3, 57, 1, 60), 0);
        due(x.link(1, 60, 3, 50), 6);
        due(x.link(1, 60, 3, 49), -1);
        due(x.link(1, 60, 3, 65), 5);
        due(x.link(1, 60, 3, 66), -1);
    }

    static void p10_thereIsNoFinger0() {
        HandFingers x = new HandFingers();
        refused(x, INDEX, () -> x.link(0, 60, 1, 60));
        refused(x, INDEX, () -> x.link(1, 60, 0, 60));
        thrown(INDEX, () -> x.link(MIN, 60, 1, 60));
        thrown(INDEX, () -> x.link(1, 60, -1, 60));
    }

    static void p10_thereIsNoFinger6() {
        HandFingers x = new HandFingers();
        refused(x, INDEX, () -> x.link(6, 60, 1, 60));
        refused(x, INDEX, () -> x.link(1, 60, 6, 60));
        thrown(INDEX, () -> x.link(MAX, 60, 1, 60));
        thrown(INDEX, () -> x.link(1, 60, MAX, 60));
    }

    static void p10_key20IsOutOfRange() {
        HandFingers x = new HandFingers();
        refused(x, ARGUMENT, () -> x.link(1, 20, 1, 60));
        refused(x, ARGUMENT, () -> x.link(1, 60, 1, 20));
        thrown(ARGUMENT, () -> x.link(1, MIN, 1, 60));
        thrown(ARGUMENT, () -> x.link(1, 60, 1, 0));
    }

    static void p10_key109IsOutOfRange() {
        HandFingers x = new HandFingers();
        refused(x, ARGUMENT, () -> x.link(1, 109, 1, 60));
        refused(x, ARGUMENT, () -> x.link(1, 60, 1, 109));
        thrown(ARGUMENT, () -> x.link(1, MAX, 1, 60));
        thrown(ARGUMENT, () -> x.link(1, 60, 1, MAX));
        thrown(ARGUMENT, () -> x.link(1, 109, 1, 109));
    }

    static void p10_theFingersAreLookedAtBeforeTheKeys() {
        HandFingers x = new HandFingers();
        thrown(INDEX, () -> x.link(1, 20, 6, 60));
        thrown(INDEX, () -> x.link(0, 109, 1, 109));
    }

    // ---- promise 11: best

    static void p11_0WithoutEvents() {
        due(new HandFingers().best(), 0);
        due(piece("hand left;weight free 0;").best(), 0);
    }

    static void p11_noneIfNoFingeringIsAllowed() {
        due(piece(BARRED).best(), HandFingers.NONE);
    }

    static void p11_noneIfANoteIsLeftNoFinger() {
        HandFingers x = piece(R + "play 60 by 1;play 60;");
        x.let(0, 0, 1, false);
        due(x.best(), -1);
    }

    static void p11_aSingleNoteOnAWhiteKeyCostsNothing() {
        due(piece(R + "play 60;").best(), 0);
    }

    static void p11_blackCostsForFingers1And5() {
        int[] costs = {4, 0, 0, 1, 4};
        for (int finger = 1; finger <= 5; finger++) {
            due(piece(R + "play 61 by " + finger + ";").best(), costs[finger - 1]);
        }
    }

    static void p11_weakCostsForFinger4() {
        int[] costs = {0, 0, 0, 1, 0};
        for (int finger = 1; finger <= 5; finger++) {
            due(piece(R + "play 60 by " + finger + ";").best(), costs[finger - 1]);
        }
    }

    static void p11_eachNoteOfAnEventCosts() {
        // Both keys are black, and 5 is below the low 7 by 2.
        due(piece(R + "play 61 66 by 1 5;").best(), 4 + 4 + 4);
    }

    static void p11_aDistanceOfAnEventAtTheLow() {
        due(piece(R + "play 60 63 by 1 3;").best(), 0);
        due(piece(R + "play 60 62 by 1 3;").best(), 2);
    }

    static void p11_aDistanceOfAnEventAtTheHigh() {
        due(piece(R + "play 60 67 by 1 3;").best(), 0);
        due(piece(R + "play 60 68 by 1 3;").best(), 2);
    }

    static void p11_aDistanceOfAnEventAtTheLimit() {
        due(piece(R + "play 60 70 by 1 3;").best(), 6);
        due(piece(R + "play 60 71 by 1 3;").best(), -1);
    }

    static void p11_oneFingerCannotPlayTwoNotes() {
        due(piece(R + "play 60 61 by 2 2;").best(), -1);
    }

    static void p11_aPassageIsFreeIfTheRestIsFree() {
        due(piece(R + "play 60 rest 4 by 5;play 81 by 1;").best(), 0);
    }

    static void p11_aPassageIsNotFreeIfTheRestIsOneLess() {
        due(piece(R + "play 60 rest 3 by 5;play 81 by 1;").best(), -1);
    }

    static void p11_everyPassageIsFreeIfFreeIs0() {
        due(piece(R + "weight free 0;play 60 by 5;play 81 by 1;").best(), 0);
    }

    static void p11_noPassageIsFreeIfFreeIs10() {
        due(piece(R + "weight free 10;play 60 rest 9 by 5;play 80 by 1;").best(), -1);
    }

    static void p11_freeIsAskedOfTheRestBehindTheFirstEvent() {
        due(piece(R + "play 60 by 5;play 80 rest 9 by 1;").best(), -1);
    }

    static void p11_easeIsTakenOffDownTo0() {
        due(piece(R + "play 60 rest 3 by 3;play 64 by 3;").best(), 2);
        due(piece(R + "play 60 rest 3 by 3;play 63 by 3;").best(), 0);
    }

    static void p11_aPassageCostsNotLessThan0() {
        // The second passage costs 2; the first one would cost -4.
        due(piece(R + "play 60 rest 3 by 3;play 61 by 3;play 62 by 3;").best(), 2);
    }

    static void p11_easeIsTakenOffOnceForBothLinks() {
        due(piece(R + "play 60 64 rest 1 by 1 3;play 60 64 by 1 3;").best(), 3 + 3 - 2);
    }

    static void p11_easeAllowsNothing() {
        due(piece(R + "weight ease 99;play 60 rest 3 by 5;play 80 by 1;").best(), -1);
    }

    static void p11_theRestBehindTheLastEventEasesNothing() {
        due(piece(R + "play 60 by 3;play 61 rest 9 by 3;").best(), 2);
    }

    static void p11_oneLinkBetweenTwoSingleNotes() {
        due(piece(R + "play 60 by 3;play 60 by 3;").best(), 3);
    }

    static void p11_twoLinksIfTheSecondEventHasSeveralNotes() {
        due(piece(R + "play 64 by 3;play 60 64 by 1 3;").best(), 0 + 3);
        due(piece(R + "play 60 by 1;play 60 64 by 1 3;").best(), 3 + 0);
    }

    static void p11_twoLinksIfTheFirstEventHasSeveralNotes() {
        due(piece(R + "play 60 64 by 1 3;play 64 by 3;").best(), 0 + 3);
        due(piece(R + "play 60 64 by 1 3;play 60 by 1;").best(), 3 + 0);
    }

    static void p11_noLinkOfTheMiddleNote() {
        // 1 on 60 and 5 on 67 repeat; 3 goes from 64 to 65, and 2 between 65 and 67 is below the 3 of 3-5.
        due(piece(R + "play 60 64 67 by 1 3 5;play 60 65 67 by 1 3 5;").best(), 3 + 3 + 2);
    }

    static void p11_bothLinksMustBeAllowed() {
        due(piece(R + "play 60 64 by 1 3;play 75 by 1;").best(), -1);
        due(piece(R + "play 60 64 by 1 3;play 52 by 3;").best(), -1);
    }

    static void p11_linksOfTheLeftHand() {
        // From 1 on 67 to 5 on 60: 7; from 5 on 60 to 5 on 60: repeat.
        due(piece("hand left;play 60 67 by 5 1;play 60 by 5;").best(), 3);
        // From 1 on 67 to 5 on 67: change; from 5 on 60 to 5 on 67: a jump of 7.
        due(piece("hand left;play 60 67 by 5 1;play 67 by 5;").best(), 1 + 14);
    }

    static void p11_theGreatestCost() {
        HandFingers x = piece(R + "weight jump 99;" + "play 21 by 3;play 108 by 3;".repeat(20));
        due(x.best(), 39 * 87 * 99);
    }

    static void p11_fortyEventsOfThreeNotes() {
        due(piece(R + "weight repeat 0;" + "play 60 64 67;".repeat(40)).best(), 0);
        due(piece("hand left;weight repeat 0;" + "play 60 64 67;".repeat(40)).best(), 0);
    }

    // ---- promise 12: finger

    static void p12_theFirstAndTheLastNote() {
        HandFingers x = piece(R + "play 60;play 60 64 67 by 1 3 5;");
        due(x.finger(0, 0), 2);
        due(x.finger(1, 0), 1);
        due(x.finger(1, 2), 5);
    }

    static void p12_thereIsNoEventAheadOfTheFirst() {
        HandFingers x = piece(R + "play 60;");
        refused(x, INDEX, () -> x.finger(-1, 0));
        thrown(INDEX, () -> x.finger(MIN, 0));
    }

    static void p12_thereIsNoEventBehindTheLast() {
        HandFingers x = piece(R + "play 60;");
        refused(x, INDEX, () -> x.finger(1, 0));
        thrown(INDEX, () -> x.finger(MAX, 0));
    }

    static void p12_thereIsNoNoteAheadOfTheFirst() {
        HandFingers x = piece(R + "play 60;play 60;");
        refused(x, INDEX, () -> x.finger(1, -1));
        thrown(INDEX, () -> x.finger(1, MIN));
    }

    static void p12_thereIsNoNoteBehindTheLast() {
        HandFingers x = piece(R + "play 60;play 60 64;play 60 64 67;");
        thrown(INDEX, () -> x.finger(0, 1));
        thrown(INDEX, () -> x.finger(1, 2));
        refused(x, INDEX, () -> x.finger(2, 3));
        thrown(INDEX, () -> x.finger(2, MAX));
    }

    static void p12_thereIsNoNoteWithoutEvents() {
        HandFingers x = new HandFingers();
        thrown(INDEX, () -> x.finger(0, 0));
    }

    static void p12_aNoteOfADroppedEventIsNotThere() {
        HandFingers x = piece(R + "play 60 62 64 by 1 2 3;play 60 62 64 by 1 2 3;");
        due(x.finger(1, 2), 3);
        x.drop(1);
        thrown(INDEX, () -> x.finger(1, 0));
    }

    static void p12_noElementIfNoFingeringIsAllowed() {
        HandFingers x = piece(BARRED);
        refused(x, ELEMENT, () -> x.finger(0, 0));
    }

    static void p12_theNoteIsLookedAtBeforeTheFingerings() {
        HandFingers x = piece(BARRED);
        thrown(INDEX, () -> x.finger(2, 0));
        thrown(INDEX, () -> x.finger(0, 1));
    }

    static void p12_theCheaperOneComesAheadOfTheLesserFinger() {
        due(piece(R + "play 61;").finger(0, 0), 2);
    }

    static void p12_theLesserFingerWhereTheyFirstDiffer() {
        HandFingers x = piece(R + "play 60;play 60;");
        due(x.finger(0, 0), 1);
        due(x.finger(1, 0), 2);
    }

    static void p12_byNumbersOfNotesInAnEventOfTheLeftHandToo() {
        // The thumb reaches 5 alone: 3 2 comes ahead of 5 1, for 3 is less than 5 on the lesser key.
        HandFingers x = piece("hand left;weight stretch 0;span 1 2 1 1 1;span 1 3 1 1 1;play 60 62;");
        due(x.costWith(0, 1, 1), 0);
        due(x.finger(0, 0), 3);
        due(x.finger(0, 1), 2);
    }

    static void p12_anEarlierNoteComesAheadOfALaterOne() {
        // 1 and 5 or 2 and 1, each by a change: the first note tells.
        HandFingers x = piece(R + "play 60;play 60;");
        x.let(1, 0, 2, false);
        x.let(1, 0, 3, false);
        due(x.finger(0, 0), 1);
        due(x.finger(1, 0), 5);
    }

    // ---- promise 13: part

    static void p13_nothingComesIntoTheFirstEvent() {
        HandFingers x = piece(R + "play 61 by 1;play 60 by 2;");
        due(x.part(0, 0), 4);
        due(x.part(0, 1), 0);
        due(x.part(0, 2), 0);
    }

    static void p13_thePassageIntoTheLastEvent() {
        HandFingers x = piece(R + "play 60 by 1;play 61 by 1;");
        due(x.part(1, 0), 4);
        due(x.part(1, 1), 2);
        due(x.part(1, 2), 0);
    }

    static void p13_aPassageEasedTo0() {
        HandFingers x = piece(R + "play 60 rest 3 by 3;play 63 by 3;play 70 rest 1 by 3;play 71 by 3;");
        due(x.part(1, 1), 6 - 6);
        due(x.part(2, 1), 14);
        due(x.part(3, 1), 2 - 2);
    }

    static void p13_aPassageCostsNotLessThan0() {
        due(piece(R + "play 60 rest 3 by 3;play 62 by 3;").part(1, 1), 0);
    }

    static void p13_aFreePassageCostsNothingAndHasNoCrossing() {
        HandFingers x = piece(R + "play 62 rest 4 by 2;play 63 by 1;");
        due(x.part(1, 1), 0);
        due(x.part(1, 2), 0);
    }

    static void p13_anEasedPassageThatCosts0HasItsCrossing() {
        HandFingers x = piece(R + "play 62 rest 3 by 2;play 64 by 1;");
        due(x.part(1, 1), 0);
        due(x.part(1, 2), 1);
    }

    static void p13_twoCrossings() {
        HandFingers x = piece(R + "play 60 62 by 2 3;play 64 by 1;");
        due(x.part(1, 1), 10);
        due(x.part(1, 2), 2);
        HandFingers y = piece(R + "play 64 by 1;play 60 62 by 2 3;");
        due(y.part(1, 1), 10);
        due(y.part(1, 2), 2);
    }

    static void p13_eachPassageOfAScale() {
        // 1 2 3 1 2 3 4, but that 3 on the sixth note is told: fingers that are free to choose on both sides.
        HandFingers x = piece(R + "play 60;play 62;play 64;play 65;play 67;play 69 by 3;play 70;");
        int[] events = {0, 0, 0, 0, 0, 0, 1};
        int[] passages = {0, 0, 0, 5, 0, 0, 0};
        int[] crossings = {0, 0, 0, 1, 0, 0, 0};
        for (int event = 0; event < 7; event++) {
            due(x.part(event, 0), events[event]);
            due(x.part(event, 1), passages[event]);
            due(x.part(event, 2), crossings[event]);
        }
    }

    static void p13_oneCrossingOfTwoLinks() {
        // From 2 on 60 to 1 on 62 is a crossing; from 3 on 62 to 5 on 67 is none, and 5 is above the high 4 by 1.
        HandFingers x = piece(R + "play 60 62 by 2 3;play 62 67 by 1 5;");
        due(x.part(1, 1), 5 + 2);
        due(x.part(1, 2), 1);
    }

    static void p13_aChangeIsNoCrossing() {
        HandFingers x = piece(R + "play 60 by 2;play 60 by 1;");
        due(x.part(1, 1), 1);
        due(x.part(1, 2), 0);
    }

    static void p13_thereIsNoEventAheadOfTheFirst() {
        HandFingers x = piece(R + "play 60;");
        refused(x, INDEX, () -> x.part(-1, 0));
        thrown(INDEX, () -> x.part(MIN, 1));
    }

    static void p13_thereIsNoEventBehindTheLast() {
        HandFingers x = piece(R + "play 60;");
        refused(x, INDEX, () -> x.part(1, 0));
        thrown(INDEX, () -> x.part(MAX, 2));
    }

    static void p13_thereIsNoEventWithoutEvents() {
        HandFingers x = new HandFingers();
        thrown(INDEX, () -> x.part(0, 0));
    }

    static void p13_anyOtherWhatIsRefused() {
        HandFingers x = piece(R + "play 60;");
        refusedEach(x, ARGUMENT, new int[] {-1, 3, MIN, MAX}, what -> x.part(0, what));
    }

    static void p13_noElementIfNoFingeringIsAllowed() {
        HandFingers x = piece(BARRED);
        refused(x, ELEMENT, () -> x.part(0, 0));
        thrown(ELEMENT, () -> x.part(0, 1));
        thrown(ELEMENT, () -> x.part(1, 2));
    }

    static void p13_theEventIsLookedAtFirst() {
        HandFingers x = piece(BARRED);
        thrown(INDEX, () -> x.part(2, 3));
        thrown(INDEX, () -> x.part(2, 0));
    }

    static void p13_whatIsLookedAtBeforeTheFingerings() {
        HandFingers x = piece(BARRED);
        thrown(ARGUMENT, () -> x.part(0, 3));
        thrown(ARGUMENT, () -> x.part(0, -1));
    }

    // ---- promise 14: many

    static void p14_oneFingeringWithoutEvents() {
        due(new HandFingers().many(false), 1);
        due(new HandFingers().many(true), 1);
    }

    static void p14_0IfNoFingeringIsAllowed() {
        due(piece(BARRED).many(false), 0);
        due(piece(BARRED).many(true), 0);
    }

    static void p14_0IfANoteIsLeftNoFinger() {
        HandFingers x = piece(R + "play 60;play 60 by 1;");
        x.let(1, 0, 1, false);
        due(x.many(false), 0);
        due(x.many(true), 0);
    }

    static void p14_aSingleNote() {
        due(piece(R + "play 60;").many(false), 5);
        due(piece(R + "play 60;").many(true), 4);
    }

    static void p14_exactlyThisManyAreToldAsTheyAre() {
        HandFingers x = piece(ALL_FREE + "play 60 61;".repeat(15));
        due(x.many(false), 1000000000000000L);
        due(x.many(true), 1000000000000000L);
    }

    static void p14_exactlyThisManyAheadOfTheLastEvent() {
        HandFingers x = piece(ALL_FREE + "play 60 61;".repeat(15) + "play 60 by 1;play 60 by 1;");
        due(x.many(false), 1000000000000000L);
        due(x.many(true), 1000000000000000L);
    }

    static void p14_fewerAreToldAsTheyAre() {
        HandFingers x = piece(ALL_FREE + "play 60 61;".repeat(15));
        // 4 on the first note was one of ten ways.
        x.let(7, 0, 4, false);
        due(x.many(false), 900000000000000L);
        due(x.many(true), 900000000000000L);
    }

    static void p14_aboveThisManyTheyAreToldAsThisMany() {
        HandFingers x = piece(ALL_FREE + "play 60 61;".repeat(15) + "play 60;");
        due(x.many(false), 1000000000000000L);
        due(x.many(true), 1000000000000000L);
        x.drop(15);
        x.play(15, 60, 61, 62, 0);
        due(x.many(false), 1000000000000000L);
        due(x.many(true), 1000000000000000L);
    }

    static void p14_10ToThePower40DoesNotWrapAround() {
        HandFingers x = piece(ALL_FREE + "play 60 61;".repeat(40));
        due(x.many(false), 1000000000000000L);
        due(x.many(true), 1000000000000000L);
    }

    static void p14_2ToThePower64DoesNotWrapAroundTo0() {
        HandFingers x = piece("hand right;weight free 0;weight weak 0;" + "play 60;".repeat(32));
        for (int event = 0; event < 32; event++) {
            x.let(event, 0, 3, false);
        }
        due(x.many(false), 1000000000000000L);
        due(x.many(true), 1000000000000000L);
    }

    static void p14_manyAreAllowedAndFewCheapest() {
        // 1-2 and 2-3 and 3-4 and 4-5, but 4 is weak: two of ten ways each.
        HandFingers x = piece(R + "weight free 0;" + "play 60 61;".repeat(40));
        due(x.many(false), 1000000000000000L);
        due(x.many(true), 1L << 40);
    }

    static void p14_manyThatLeadNowhereDoNotCount() {
        // The last passage is not allowed: of so many none is left.
        HandFingers x = piece(R + "weight free 1;" + "play 60 61 rest 1;".repeat(20) + "play 60 by 5;play 80 by 5;play 99 by 1;");
        due(x.many(false), 0);
        due(x.many(true), 0);
    }

    // ---- promise 15: costWith

    static void p15_theFirstAndTheLastNote() {
        HandFingers x = piece(FIVE);
        due(x.costWith(0, 0, 1), 1);
        due(x.costWith(4, 0, 5), 1);
    }

    static void p15_theFirstAndTheLastFinger() {
        HandFingers x = piece(R + "play 61;");
        int[] costs = {4, 0, 0, 1, 4};
        for (int finger = 1; finger <= 5; finger++) {
            due(x.costWith(0, 0, finger), costs[finger - 1]);
        }
    }

    static void p15_noneIfTheFingerMayNotPlayTheNote() {
        HandFingers x = piece(R + "play 60;");
        x.let(0, 0, 5, false);
        due(x.costWith(0, 0, 5), HandFingers.NONE);
        due(x.costWith(0, 0, 3), 0);
    }

    static void p15_noneIfTheFingerHasNoOrderInItsEvent() {
        HandFingers x = piece(R + "play 60 62 64;");
        due(x.costWith(0, 0, 3), 1);
        due(x.costWith(0, 0, 4), -1);
        due(x.costWith(0, 2, 3), 0);
        due(x.costWith(0, 2, 2), -1);
        due(x.costWith(0, 1, 1), -1);
        due(x.costWith(0, 1, 5), -1);
    }

    static void p15_noneIfNoPassageLeadsThere() {
        HandFingers x = piece(R + "play 60 by 5;play 81;");
        // From 5 up by 21 only 5 jumps.
        due(x.costWith(1, 0, 5), 42);
        due(x.costWith(1, 0, 1), -1);
        due(x.costWith(1, 0, 4), -1);
    }

    static void p15_noneIfNoPassageLeadsAway() {
        HandFingers x = piece(R + "play 60;play 81 by 1;");
        due(x.costWith(0, 0, 1), 42);
        due(x.costWith(0, 0, 2), -1);
    }

    static void p15_noneIfNoFingeringIsAllowed() {
        HandFingers x = piece(BARRED);
        due(x.costWith(0, 0, 5), -1);
        due(x.costWith(1, 0, 1), -1);
    }

    static void p15_thereIsNoEventAheadOfTheFirst() {
        HandFingers x = piece(R + "play 60;");
        refused(x, INDEX, () -> x.costWith(-1, 0, 1));
        thrown(INDEX, () -> x.costWith(MIN, 0, 1));
    }

    static void p15_thereIsNoEventBehindTheLast() {
        HandFingers x = piece(R + "play 60;");
        refused(x, INDEX, () -> x.costWith(1, 0, 1));
        thrown(INDEX, () -> x.costWith(MAX, 0, 1));
        thrown(INDEX, () -> new HandFingers().costWith(0, 0, 1));
    }

    static void p15_aNoteOfADroppedEventIsNotThere() {
        HandFingers x = piece(R + "play 60 62 64 by 1 2 3;play 60 62 64 by 1 2 3;");
        due(x.costWith(1, 2, 3), 6);
        x.drop(1);
        thrown(INDEX, () -> x.costWith(1, 2, 3));
    }

    static void p15_thereIsNoNoteAheadOfTheFirst() {
        HandFingers x = piece(R + "play 60;play 60;");
        refused(x, INDEX, () -> x.costWith(1, -1, 1));
        thrown(INDEX, () -> x.costWith(1, MIN, 1));
    }

    static void p15_thereIsNoNoteBehindTheLast() {
        HandFingers x = piece(R + "play 60;play 60 62 64;");
        refused(x, INDEX, () -> x.costWith(0, 1, 1));
        thrown(INDEX, () -> x.costWith(1, 3, 1));
        thrown(INDEX, () -> x.costWith(1, MAX, 1));
    }

    static void p15_thereIsNoFinger0() {
        HandFingers x = piece(R + "play 60;");
        refused(x, INDEX, () -> x.costWith(0, 0, 0));
        thrown(INDEX, () -> x.costWith(0, 0, -1));
        thrown(INDEX, () -> x.costWith(0, 0, MIN));
    }

    static void p15_thereIsNoFinger6() {
        HandFingers x = piece(R + "play 60;");
        refused(x, INDEX, () -> x.costWith(0, 0, 6));
        thrown(INDEX, () -> x.costWith(0, 0, MAX));
    }

    static void p15_thereIsNoFinger0IfNoFingeringIsAllowed() {
        HandFingers x = piece(BARRED);
        thrown(INDEX, () -> x.costWith(0, 0, 0));
        thrown(INDEX, () -> x.costWith(0, 0, 6));
    }

    // ---- promise 16: reaches

    static void p16_0WithoutEvents() {
        due(new HandFingers().reaches(), 0);
    }

    static void p16_0IfTheFirstEventIsNotAllowed() {
        due(piece(R + "play 60 75;play 60;").reaches(), 0);
    }

    static void p16_1IfTheFirstPassageIsNotAllowed() {
        due(piece(BARRED + "play 80;").reaches(), 1);
    }

    static void p16_allIfAFingeringIsAllowed() {
        due(piece(R + "play 60;").reaches(), 1);
        due(piece(R + "play 60;".repeat(40)).reaches(), 40);
    }

    static void p16_oneLessIfTheLastEventIsNotAllowed() {
        due(piece(R + "play 60;".repeat(39) + "play 60 75;").reaches(), 39);
    }

    static void p16_oneLessIfTheLastPassageIsNotAllowed() {
        due(piece(R + "play 60;".repeat(38) + "play 60 by 5;play 80 by 1;").reaches(), 39);
    }

    static void p16_whatComesBehindDoesNotCount() {
        // By themselves the events 0 to 2 have a fingering, and 4 to 5 too.
        due(piece(R + "play 60;play 60;play 60;play 60 75;play 60;play 60;").reaches(), 3);
    }

    static void p16_upToANoteThatIsLeftNoFinger() {
        HandFingers x = piece(R + "play 60;play 60 by 1;play 60;");
        x.let(1, 0, 1, false);
        due(x.reaches(), 1);
    }

    static void p16_oneFingeringMustReachAllOfThem() {
        // Into the second event by 1 alone, out of it by 5 alone.
        due(piece(R + "play 80 by 1;play 60 rest 0;play 80 by 5;").reaches(), 2);
    }

    // ---- promise 17: uses

    static void p17_0WithoutNotes() {
        HandFingers x = new HandFingers();
        for (int finger = 1; finger <= 5; finger++) {
            due(x.uses(finger), 0);
        }
    }

    static void p17_eachFingerOnce() {
        HandFingers x = piece(FIVE);
        for (int finger = 1; finger <= 5; finger++) {
            due(x.uses(finger), 1);
        }
    }

    static void p17_upTo120Notes() {
        HandFingers x = piece(R + "play 60 64 67 by 1 3 5;".repeat(24));
        due(x.uses(1), 24);
        due(x.uses(2), 0);
        due(x.uses(3), 24);
        due(x.uses(4), 0);
        due(x.uses(5), 24);
        HandFingers all = piece(R + "play 60 64 67;".repeat(40));
        due(all.uses(1) + all.uses(2) + all.uses(3) + all.uses(4) + all.uses(5), 120);
    }

    static void p17_thereIsNoFinger0() {
        HandFingers x = piece(FIVE);
        refused(x, INDEX, () -> x.uses(0));
        thrown(INDEX, () -> x.uses(MIN));
    }

    static void p17_thereIsNoFinger6() {
        HandFingers x = piece(FIVE);
        refused(x, INDEX, () -> x.uses(6));
        thrown(INDEX, () -> x.uses(MAX));
    }

    static void p17_noElementIfNoFingeringIsAllowed() {
        HandFingers x = piece(BARRED);
        refused(x, ELEMENT, () -> x.uses(2));
    }

    static void p17_theFingerIsLookedAtBeforeTheFingerings() {
        HandFingers x = piece(BARRED);
        thrown(INDEX, () -> x.uses(0));
        thrown(INDEX, () -> x.uses(6));
    }

    // ---- promise 18: sure

    static void p18_0WithoutNotes() {
        due(new HandFingers().sure(), 0);
    }

    static void p18_noneOfTheNotes() {
        due(piece(R + "play 60;play 60;").sure(), 0);
    }

    static void p18_allOfTheNotes() {
        due(piece(FIVE).sure(), 5);
        due(piece(R + "weight repeat 0;" + "play 60 64 67;".repeat(40)).sure(), 120);
    }

    static void p18_aNoteOfOneFingerIsSure() {
        due(piece(R + "play 60 by 2;play 60;").sure(), 1);
    }

    static void p18_dearerFingeringsDoNotCount() {
        HandFingers x = piece(R + "play 61;");
        x.let(0, 0, 3, false);
        due(x.many(false), 4);
        due(x.sure(), 1);
    }

    static void p18_oneNoteOfAnEvent() {
        // 1 and 2 or 1 and 3 cost nothing.
        due(piece(R + "play 60 64 by 1 0;").sure(), 1);
    }

    static void p18_noElementIfNoFingeringIsAllowed() {
        HandFingers x = piece(BARRED);
        refused(x, ELEMENT, x::sure);
    }

    // ---- promise 19: mean

    static void p19_0WithoutNotes() {
        due(new HandFingers().mean(), 0.0);
    }

    static void p19_0IfNothingCosts() {
        due(piece(R + "play 60;").mean(), 0.0);
    }

    static void p19_itIsNotRounded() {
        due(piece(FIVE).mean(), 1.0 / 5.0);
        due(piece(R + "play 60;play 60;play 60;").mean(), 2.0 / 3.0);
    }

    static void p19_ofNotesNotOfEvents() {
        due(piece(R + "play 61 66 by 1 5;").mean(), 12.0 / 2.0);
    }

    static void p19_theGreatestCost() {
        due(piece(R + "weight jump 99;" + "play 21 by 3;play 108 by 3;".repeat(20)).mean(), 335907.0 / 40.0);
    }

    static void p19_noElementIfNoFingeringIsAllowed() {
        HandFingers x = piece(BARRED);
        refused(x, ELEMENT, x::mean);
    }
}
