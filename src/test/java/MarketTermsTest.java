import java.io.IOException;

/** Each sentence of the terms of packings, selling, buying and moving at its boundaries, by a test of its own. */
public final class MarketTermsTest extends Checks {
    private static Document document;
    private static String place = "";

    private static void sentence(String text, Call test) {
        document.test(place, text, test);
    }

    private static void packings() {
        place = "Packings";
        sentence("A packing of some protected stations into the channels below a number gives each one such that no"
            + " two bar each other; the first one is that with the lowest channel for the lowest station, then for"
            + " the next one, and so on.", MarketTermsTest::firstPacking);
        sentence("The border does not matter.", MarketTermsTest::borderDoesNotMatter);
    }

    private static void firstPacking() {
        Bandplan none = oneCell(-400, -400);
        for (int channels = 1; channels <= 8; channels++) {
            yes("no station in " + channels, new Bandplan().canPack(channels));
            yes("no protected one in " + channels, none.canPack(channels));
        }
        for (int stations = 1; stations <= 8; stations++) {
            Bandplan x = crowd(stations);
            for (int channels = 1; channels <= 8; channels++) {
                same(stations + " in " + channels, x.canPack(channels) ? 1 : 0, stations <= channels ? 1 : 0);
            }
            for (int i = 0; i < stations; i++) {
                same("one channel each", x.packed(stations, i), i);
                same("the lowest ones of 8", x.packed(8, i), i);
            }
        }
        // A weak one needs 3 channels to a strong one, weak ones 2 to each other.
        Bandplan y = oneCell(200, 500, 200, -500);
        y.setRatio(500);
        int[][] due = {{0, 5, 2}, {0, 3, 6}, {0, 3, 6}};
        no("5 are too few", y.canPack(5));
        fails("no place in 5", MISSING, () -> y.packed(5, 0));
        for (int channels = 6; channels <= 8; channels++) {
            for (int i = 0; i < 3; i++) {
                same("in " + channels + " station " + i, y.packed(channels, i), due[channels - 6][i]);
            }
        }
        // The lowest ones give way to the others: all ahead of these, counted through, are barred.
        packs(new int[] {400, 300, 200, 500}, 350, 7, 2, 4, 6, 0);
        packs(new int[] {400, 300, 200, 500}, 350, 8, 0, 2, 4, 7);
        packs(new int[] {400, 200, 400, 500, 300}, 300, 8, 0, 3, 1, 7, 5);
        packs(new int[] {200, 500, 500, 200}, 400, 8, 0, 5, 7, 2);
        packs(new int[] {500, 500, 400, 500}, 450, 8, 0, 2, 7, 4);
        // Twice as far apart: 4 fit into 7 channels, 5 into none.
        Bandplan z = crowd(4);
        z.setRatio(301);
        no("4 in 6", z.canPack(6));
        yes("4 in 7", z.canPack(7));
        same("the last channel", z.packed(7, 3), 6);
        z.addStation(0, 1, 400, true);
        no("5 in 8", z.canPack(8));
    }

    private static void packs(int[] powers, int ratio, int channels, int... due) {
        Bandplan x = oneCell(powers);
        x.setRatio(ratio);
        for (int i = 0; i < due.length; i++) {
            same("ratio " + ratio + " station " + i, x.packed(channels, i), due[i]);
        }
    }

    private static void borderDoesNotMatter() {
        Bandplan x = new Bandplan();
        x.addSite(19, 0, 0);
        x.addSite(19, 0, 0);
        x.addStation(0, 1, 400, true);
        x.addStation(1, 0, 400, true);
        for (int channel = 0; channel < 8; channel++) {
            x.setForeign(channel, true);
        }
        x.askAbroad(0, 0);
        x.object(0, 0);
        same("spacing", x.packed(8, 1), 2);
        same("on a foreign channel without a yes", x.packed(3, 0), 0);
        yes("packed", x.canPack(3));
        no("not in two", x.canPack(2));
    }

    private static void selling() {
        place = "Selling";
        sentence("The protected stations that are on take part, at a first price; those of them that ask for more than"
            + " this stay at once.", MarketTermsTest::takePart);
        sentence("In each round, the next price is the price less the step; by rising numbers, each one that is still"
            + " in it: if it cannot be packed with those that stay, those of this round, too, into the channels told,"
            + " it is bought at the price; otherwise, if it asks for more than the next price, it stays; otherwise it"
            + " is still in it.", MarketTermsTest::rounds);
        sentence("Then the next price is the price.", MarketTermsTest::nextPrice);
        sentence("It ends when none is in it, or when the next price would be less than 0, which is no round any more:"
            + " those still in it are bought at the price then.", MarketTermsTest::sellingEnds);
        sentence("Who is bought goes off.", MarketTermsTest::boughtGoesOff);
        sentence("What a station asks is 0 at first.", MarketTermsTest::asksNothingAtFirst);
    }

    /** Sells a crowd that asks these prices; a price of -1 as due stands for a station that stays. */
    private static void sells(String what, int[] asked, int[] terms, int rounds, int... prices) {
        Bandplan x = crowd(asked.length);
        for (int i = 0; i < asked.length; i++) {
            x.putOn(i, 7 - i);
            x.setAsked(i, asked[i]);
        }
        int count = 0;
        for (int price : prices) {
            count += price < 0 ? 0 : 1;
        }
        same(what + ": bought", x.sell(terms[0], terms[1], terms[2]), count);
        same(what + ": rounds", x.rounds(), rounds);
        for (int i = 0; i < asked.length; i++) {
            int station = i;
            if (prices[i] < 0) {
                fails(what + ": price of " + i, MISSING, () -> x.priceOf(station));
                same(what + ": stays on", x.channelOf(i, 0), 7 - i);
            } else {
                same(what + ": price of " + i, x.priceOf(i), prices[i]);
                same(what + ": goes off", x.channelOf(i, 0), -1);
            }
        }
    }

    private static void takePart() {
        Bandplan x = oneCell(400, -400, 400);
        putAll(x, 0, 7);
        same("one that is on, protected", x.sell(9, 10, 1), 1);
        same("a secondary one is not bought", x.channelOf(1, 0), 7);
        fails("none that is off", MISSING, () -> x.priceOf(2));
        fails("none that is secondary", MISSING, () -> x.priceOf(1));
        sells("more than the first price", new int[] {51}, new int[] {50, 1, 1}, 0, -1);
        sells("as much as the first price", new int[] {50}, new int[] {50, 1, 1}, 1, -1);
        sells("as much, with no round", new int[] {50}, new int[] {50, 51, 1}, 0, 50);
        sells("all eight at once", new int[] {9, 9, 9, 9, 9, 9, 9, 9}, new int[] {8, 1, 8}, 0,
            -1, -1, -1, -1, -1, -1, -1, -1);
        sells("one stays at once, behind all others", new int[] {8, 8, 9}, new int[] {8, 1, 1}, 1, 8, 8, -1);
        // Off, it asks for much and is in nobody's way.
        Bandplan y = crowd(2);
        y.putOn(1, 3);
        askAll(y, 9999, 0);
        same("without the one that is off", y.sell(1, 1, 1), 1);
        same("it had its round", y.priceOf(1), 0);
    }

    private static void rounds() {
        // It asks for as much as the next price, and is still in it; for one more, and it stays.
        sells("as much as the next price", new int[] {7}, new int[] {10, 3, 1}, 2, -1);
        sells("more than the next price", new int[] {8}, new int[] {10, 3, 1}, 1, -1);
        // The first one stays in the second round; behind it, in this round, there is no room.
        sells("those of this round, too", new int[] {7, 0}, new int[] {10, 3, 1}, 2, -1, 7);
        // By rising numbers it was asked ahead of the one that stays, and had room then.
        sells("by rising numbers", new int[] {0, 7}, new int[] {10, 3, 1}, 3, 4, -1);
        sells("two that would stay", new int[] {7, 7}, new int[] {10, 3, 1}, 2, -1, 7);
        sells("no room ahead of asking", new int[] {11, 10}, new int[] {10, 3, 1}, 1, -1, 10);
        sells("room for two of three", new int[] {7, 7, 7}, new int[] {10, 3, 2}, 2, -1, -1, 7);
        sells("seven in seven channels", new int[] {9, 9, 9, 9, 9, 9, 9, 0}, new int[] {9, 1, 7}, 1,
            -1, -1, -1, -1, -1, -1, -1, 9);
        sells("who is bought needs no room", new int[] {11, 0, 6}, new int[] {10, 3, 1}, 1, -1, 10, 10);
    }

    private static void nextPrice() {
        sells("each price once", new int[] {11, 0, 0}, new int[] {10, 4, 3}, 2, -1, 2, 2);
        // 50, 43, 36, 29: the first one asks for 30 and stays when the next price is 29.
        sells("down by steps", new int[] {30, 0}, new int[] {50, 7, 1}, 3, -1, 36);
        sells("down by 1 to 0", new int[] {0}, new int[] {9999, 1, 1}, 9999, 0);
        sells("down by 1, asks for 1", new int[] {1}, new int[] {9999, 1, 1}, 9999, -1);
        sells("down by 999", new int[] {9}, new int[] {9999, 999, 1}, 10, 9);
        sells("down by 999, asks for one more", new int[] {10}, new int[] {9999, 999, 1}, 10, -1);
    }

    private static void sellingEnds() {
        sells("a next price of 0 is a round", new int[] {0}, new int[] {10, 10, 1}, 1, 0);
        sells("one of -1 is none", new int[] {0}, new int[] {9, 10, 1}, 0, 9);
        sells("nor is it behind a round", new int[] {0}, new int[] {19, 10, 1}, 1, 9);
        sells("the lowest price", new int[] {0}, new int[] {1, 1, 1}, 1, 0);
        sells("the lowest price, the greatest step", new int[] {0}, new int[] {1, 999, 1}, 0, 1);
        sells("no round in spite of no room", new int[] {11, 0}, new int[] {10, 11, 1}, 0, -1, 10);
        sells("more than can be packed, all to the end", new int[] {0, 0, 0}, new int[] {5, 2, 1}, 2, 1, 1, 1);
        sells("none is in it ahead of 0", new int[] {6, 5}, new int[] {7, 1, 2}, 3, -1, -1);
        sells("all bought ahead of 0", new int[] {8, 0, 0}, new int[] {7, 1, 1}, 1, -1, 7, 7);
    }

    private static void boughtGoesOff() {
        Bandplan x = oneCell(400, 400, -400);
        putAll(x, 0, 1, 7);
        x.setAsked(0, 3);
        x.goOn(1);
        same("one", x.sell(2, 1, 2), 1);
        same("off", x.channelOf(1, 1), -1);
        same("from this day on", x.channelOf(1, 0), 1);
        same("who stays is on", x.channelOf(0, 1), 0);
        same("a secondary one too", x.channelOf(2, 1), 7);
        fails("no harm to tell", UNSUPPORTED, () -> x.harm(1));
        same("may come again", x.putOn(1, 1), 0);
    }

    private static void asksNothingAtFirst() {
        Bandplan x = crowd(8);
        for (int i = 0; i < 8; i++) {
            x.putOn(i, i);
        }
        same("all eight are bought", x.sell(5, 5, 8), 8);
        for (int i = 0; i < 8; i++) {
            same("for 0", x.priceOf(i), 0);
            same("asked", x.setAsked(i, 1), 0);
        }
    }

    private static void buying() {
        place = "Buying";
        sentence("At most 4 bidders are numbered from 0, each with three worths, none greater than the one before, for"
            + " a first, second and third channel.", MarketTermsTest::fourBidders);
        sentence("The channels go to the greatest worths, those of 0 excepted, of several to the lowest bidder.",
            MarketTermsTest::greatestWorths);
        sentence("A bidder pays what the others would have had more, all together, without this one.",
            MarketTermsTest::paysForOthers);
    }

    private static void fourBidders() {
        int[][] worths = {{0, 0, 0}, {9999, 9999, 9999}, {9999, 0, 0}, {2, 1, 0}};
        Bandplan x = new Bandplan();
        for (int i = 0; i < 4; i++) {
            same("number", x.addBidder(worths[i][0], worths[i][1], worths[i][2]), i);
        }
        fails("a fifth one", STATE, () -> x.addBidder(0, 0, 0));
        fails("is not there", BOUNDS, () -> x.bought(4));
        same("the last one is", x.bought(3), 0);
        int[][] refused = {{5, 6, 0}, {5, 4, 5}, {5, 5, 6}, {0, 1, 0}, {0, 0, 1}, {10000, 0, 0}, {9999, 10000, 0},
            {9999, 9999, 10000}, {-1, -1, -1}, {0, -1, -1}, {0, 0, -1}, {5, -1, 0}};
        for (int[] three : refused) {
            fails(three[0] + " " + three[1] + " " + three[2], ARGUMENT,
                () -> new Bandplan().addBidder(three[0], three[1], three[2]));
        }
        Bandplan y = new Bandplan();
        y.addBidder(7, 7, 7);
        same("three and no fourth one", y.buy(8), 3);
    }

    /** Sells channels to bidders: how many each one buys, then what each one pays. */
    private static void buys(String what, int channels, int[][] worths, int[] bought, int[] prices) {
        Bandplan x = new Bandplan();
        int sum = 0;
        for (int i = 0; i < worths.length; i++) {
            x.addBidder(worths[i][0], worths[i][1], worths[i][2]);
            sum += bought[i];
        }
        same(what, x.buy(channels), sum);
        for (int i = 0; i < worths.length; i++) {
            same(what + ": bought by " + i, x.bought(i), bought[i]);
            same(what + ": paid by " + i, x.pays(i), prices[i]);
        }
        yes(what + ": sound", x.isSound());
    }

    private static void greatestWorths() {
        int[] no = {0, 0};
        buys("no bidder", 8, new int[0][], no, no);
        buys("worth nothing", 8, new int[][] {{0, 0, 0}, {0, 0, 0}}, no, no);
        buys("no channel", 0, new int[][] {{9, 8, 7}, {6, 5, 4}}, no, no);
        buys("worths of 0 excepted", 8, new int[][] {{1, 0, 0}, {3, 2, 0}}, new int[] {1, 2}, no);
        buys("one left over", 4, new int[][] {{1, 0, 0}, {3, 2, 0}}, new int[] {1, 2}, no);
        buys("one too few", 2, new int[][] {{1, 0, 0}, {3, 2, 0}}, new int[] {0, 2}, new int[] {0, 1});
        buys("the same worth", 1, new int[][] {{5, 0, 0}, {5, 0, 0}}, new int[] {1, 0}, new int[] {5, 0});
        buys("a later worth of the lowest one", 2, new int[][] {{5, 5, 0}, {5, 0, 0}}, new int[] {2, 0},
            new int[] {5, 0});
        buys("greater of a higher one", 1, new int[][] {{5, 5, 5}, {6, 0, 0}}, new int[] {0, 1}, new int[] {0, 5});
        int[] all = {9, 9, 9};
        buys("eight of twelve", 8, new int[][] {all, all, all, all}, new int[] {3, 3, 2, 0}, new int[] {27, 27, 18, 0});
        Bandplan x = new Bandplan();
        x.addBidder(2, 1, 0);
        x.buy(8);
        x.buy(0);
        same("in place of what was bought", x.bought(0), 0);
    }

    private static void paysForOthers() {
        buys("alone", 3, new int[][] {{9999, 9999, 9999}}, new int[] {3}, new int[] {0});
        buys("all together", 3, new int[][] {{9999, 9999, 9999}, {9999, 9999, 0}, {9999, 0, 0}},
            new int[] {3, 0, 0}, new int[] {29997, 0, 0});
        buys("others that are there already", 3, new int[][] {{100, 60, 10}, {80, 70, 0}, {60, 0, 0}},
            new int[] {1, 2, 0}, new int[] {60, 120, 0});
        buys("nobody misses them", 8, new int[][] {{9, 9, 9}, {9, 9, 9}, {9, 9, 0}}, new int[] {3, 3, 2},
            new int[] {0, 0, 0});
        buys("one is missed", 7, new int[][] {{9, 9, 9}, {9, 9, 9}, {9, 1, 0}}, new int[] {3, 3, 1},
            new int[] {1, 1, 0});
        buys("who bought nothing", 1, new int[][] {{9, 0, 0}, {8, 0, 0}}, new int[] {1, 0}, new int[] {8, 0});
    }

    private static void move() {
        place = "Move";
        sentence("The stations of the last selling that stayed, and are on, move to the channels of their first packing"
            + " into the channels told there; if there is none, there is no move.", MarketTermsTest::whoMoves);
        sentence("In each phase, by rising numbers, at most as many as there are crews move: each one whose new channel"
            + " is not barred by a protected station that is on, wherever it is when its turn comes.",
            MarketTermsTest::phases);
        sentence("If none can, the lowest one that is on and has not moved goes off, which is a dark one, and this"
            + " phase is over and counts; one that went off so moves likewise, by being on.",
            MarketTermsTest::darkOnes);
        sentence("If none can, and none that has not moved is on, the move is over, and the others stay off, in no"
            + " phase.", MarketTermsTest::moveIsOver);
        sentence("Who is there already is moved in the phase 0; other phases count from 1 on.",
            MarketTermsTest::thereAlready);
        sentence("All of it is done on this day; secondary stations that bar a moved one go off.",
            MarketTermsTest::onThisDay);
    }

    private static void whoMoves() {
        Bandplan x = sold(3, new int[] {7, 5, 3}, 400, 400, 400);
        x.setAsked(0, 0);
        x.sell(50, 5, 3);
        x.putOn(0, 7);
        same("those of the last selling", x.move(4), 1);
        fails("not one that was bought and is on again", MISSING, () -> x.phaseOf(0));
        same("it is where it was", x.channelOf(0, 0), 7);
        same("the lowest one", x.channelOf(1, 0), 0);
        same("the next one", x.channelOf(2, 0), 1);
        // Into 6 channels the strong one goes behind the weak ones, into 7 between them.
        int[][] due = {{0, 5, 2}, {0, 3, 6}};
        for (int channels = 6; channels <= 7; channels++) {
            Bandplan y = oneCell(200, 500, 200);
            y.setRatio(500);
            putAll(y, 7, 4, 1);
            askAll(y, 9, 9, 9);
            y.sell(1, 1, channels);
            y.move(4);
            for (int i = 0; i < 3; i++) {
                same("channels told: " + channels, y.channelOf(i, 0), due[channels - 6][i]);
            }
        }
        Bandplan z = sold(2, new int[] {7, 5}, 400, 400);
        z.putOff(0);
        same("only who is on", z.move(1), 1);
        same("to its packing alone", z.channelOf(1, 0), 0);
        fails("not who is off", MISSING, () -> z.phaseOf(0));
        z.putOff(1);
        same("none that is on", z.move(1), 0);
        fails("none moved", MISSING, () -> z.phaseOf(1));
        z.putOn(1, 6);
        same("on again, elsewhere", z.move(1), 1);
        noMove();
    }

    private static void noMove() {
        Bandplan x = crowd(1);
        x.putOn(0, 5);
        fails("no selling", UNSUPPORTED, () -> x.move(1));
        same("nothing moved", x.channelOf(0, 0), 5);
        Bandplan y = sold(2, new int[] {7, 4}, 400, 400);
        y.putOff(0);
        y.putOff(1);
        y.setRatio(301);
        putAll(y, 7, 4);
        fails("no packing any more", UNSUPPORTED, () -> y.move(1));
        same("the first one stays", y.channelOf(0, 0), 7);
        same("and the second one", y.channelOf(1, 0), 4);
        fails("no phase", MISSING, () -> y.phaseOf(0));
        same("no dark one", y.dark(), 0);
        y.putOff(0);
        same("there is one for one alone", y.move(1), 1);
    }

    private static void phases() {
        for (int crews = 1; crews <= 4; crews++) {
            // The lower half goes down into free channels, at most one a crew in a phase.
            Bandplan x = sold(4, new int[] {4, 5, 6, 7}, 400, 400, 400, 400);
            same("crews " + crews, x.move(crews), (4 + crews - 1) / crews);
            for (int i = 0; i < 4; i++) {
                same("by rising numbers " + i, x.phaseOf(i), 1 + i / crews);
            }
            // The second one's new channel is left by the first one ahead of its turn.
            Bandplan y = sold(2, new int[] {1, 5}, 400, 400);
            same("left ahead of its turn", y.move(crews), crews == 1 ? 2 : 1);
            // The first one's new channel is left by the second one behind its turn.
            Bandplan z = sold(2, new int[] {5, 0}, 400, 400);
            same("left behind its turn", z.move(crews), 2);
            same("the second one first", z.phaseOf(1), 1);
            same("then the first one", z.phaseOf(0), 2);
            same("none went dark", z.dark(), 0);
        }
        Bandplan x = sold(1, new int[] {5, 3, 0}, 400, -400, -400);
        x.addStation(0, 1, 400, true);
        same("neither a secondary one nor one that is off bars", x.move(1), 1);
        for (int other = 0; other < 8; other++) {
            // The new channel 0 is barred within 1 channel of a strong one that is not in the move.
            Bandplan y = sold(1, new int[] {5}, 300);
            y.addStation(0, 1, 450, true);
            if (Math.abs(other - 5) > 1) {
                y.putOn(1, other);
                same("beside one on " + other, y.channelOf(0, 0), 5);
                y.move(1);
                same("one on " + other, y.channelOf(0, 0), other > 1 ? 0 : -1);
            }
        }
    }

    private static void darkOnes() {
        for (int crews = 1; crews <= 4; crews++) {
            Bandplan x = sold(2, new int[] {1, 0}, 400, 400);
            same("a swap", x.move(crews), 3);
            same("one dark one", x.dark(), 1);
            same("the other one in the next phase", x.phaseOf(1), 2);
            same("the lowest one went off, and is on again", x.phaseOf(0), 3);
            same("on its new channel", x.channelOf(0, 0), 0);
            // The first one is there; the lowest one that has not moved goes off.
            Bandplan y = sold(3, new int[] {0, 2, 1}, 400, 400, 400);
            same("a swap of the higher ones", y.move(crews), 3);
            same("not the one that is there", y.phaseOf(0), 0);
            same("the second one", y.phaseOf(1), 3);
            same("one dark one there", y.dark(), 1);
        }
        Bandplan z = sold(8, new int[] {1, 0, 3, 2, 5, 4, 7, 6}, 400, 400, 400, 400, 400, 400, 400, 400);
        same("four swaps, one by one", z.move(1), 12);
        same("four dark ones", z.dark(), 4);
        same("the last of all", z.phaseOf(6), 12);
        same("again, all are there", z.move(1), 0);
        same("the last move alone", z.dark(), 0);
    }

    private static void moveIsOver() {
        Bandplan x = sold(1, new int[] {3}, 400);
        x.addStation(0, 1, 400, true);
        x.putOn(1, 0);
        same("only the phase in which it went off counts", x.move(4), 1);
        same("dark", x.dark(), 1);
        fails("in no phase", MISSING, () -> x.phaseOf(0));
        same("stays off", x.channelOf(0, 0), -1);
        // A strong one from without bars each of the three new channels, the nearest ones to its own too.
        Bandplan y = sold(3, new int[] {5, 6, 7}, 300, 300, 300);
        y.addStation(0, 1, 500, true);
        y.putOn(3, 1);
        same("none can at all", y.move(4), 3);
        same("all three dark", y.dark(), 3);
        for (int i = 0; i < 3; i++) {
            int station = i;
            fails("no phase for " + i, MISSING, () -> y.phaseOf(station));
            same("off", y.channelOf(i, 0), -1);
        }
        yes("sound", y.isSound());
        same("nothing is left to move", y.move(4), 0);
        // A secondary one beside the new channel, which is borne by the one that is there, stays on.
        Bandplan z = sold(1, new int[] {5, 1}, 290, -500);
        z.addStation(0, 1, 500, true);
        z.putOn(2, 0);
        same("it can't move", z.move(1), 1);
        same("and puts none off", z.channelOf(1, 0), 1);
    }

    private static void thereAlready() {
        Bandplan x = sold(3, new int[] {0, 1, 2}, 400, 400, 400);
        same("all there", x.move(1), 0);
        for (int i = 0; i < 3; i++) {
            same("phase 0", x.phaseOf(i), 0);
        }
        same("no dark one", x.dark(), 0);
        Bandplan y = sold(3, new int[] {0, 7, 2}, 400, 400, 400);
        same("one is not", y.move(1), 1);
        same("it moves in phase 1", y.phaseOf(1), 1);
        same("the first one", y.phaseOf(0) + y.phaseOf(2), 0);
    }

    private static void onThisDay() {
        // At the ratio of 170, a power of 230 is borne on the same channel, 231 is not; on the next one all are.
        Bandplan x = sold(1, new int[] {7, 0, 0, 0, 1}, 400, -230, -231, -500, -500);
        x.goOn(3);
        same("one phase", x.move(1), 1);
        same("borne", x.channelOf(1, 3), 0);
        same("not borne", x.channelOf(2, 3), -1);
        same("nor this one", x.channelOf(3, 3), -1);
        same("on the next one", x.channelOf(4, 3), 1);
        same("the day before", x.channelOf(0, 2), 7);
        same("the day before, a secondary one", x.channelOf(2, 2), 0);
        same("this day", x.channelOf(0, 3), 0);
        fails("a secondary one has no phase", MISSING, () -> x.phaseOf(2));
        Bandplan z = oneCell(-400, 400);
        putAll(z, 0, 7);
        z.setAsked(1, 9);
        z.sell(1, 1, 1);
        z.move(1);
        same("the lowest one of all goes off", z.channelOf(0, 0), -1);
        same("for the one that moves", z.channelOf(1, 0), 0);
        // With a level of 90, a power of 500 is not borne on the next channel.
        Bandplan y = sold(1, new int[] {7, 1, 2}, 290, -500, -500);
        y.move(1);
        same("not borne on the next one", y.channelOf(1, 0), -1);
        same("borne on the one behind", y.channelOf(2, 0), 2);
    }

    public static void main(String[] args) throws IOException {
        document = new Document();
        packings();
        selling();
        buying();
        move();
        document.needTests("(Packings|Selling|Buying|Move) \\| (.{12,})");
        end("packings, selling, buying and moving hold at their boundaries");
    }
}
