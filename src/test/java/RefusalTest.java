import java.io.IOException;

/** What the document says of exceptions: a refused call changes nothing, and the one listed first is thrown. */
public final class RefusalTest extends Checks {
    private static final int MOST_CALLS = 512;

    private interface World {
        Bandplan make();
    }

    private interface Using {
        void use(Bandplan x);
    }

    private interface Reading {
        double read();
    }

    /** All answers of an object as one text, the hidden ones too: at its end the object is used up. */
    private static final class Reader {
        private final Bandplan x;
        private final StringBuilder text = new StringBuilder();
        private int calls;

        Reader(Bandplan x) {
            this.x = x;
        }

        private void read(String name, Reading reading) {
            calls++;
            text.append(name).append(' ');
            try {
                text.append(reading.read());
            } catch (RuntimeException e) {
                text.append(e.getClass().getSimpleName());
            }
            text.append('\n');
        }

        private void land() {
            for (int i = 0; i < 10; i++) {
                for (int j = i + 1; j < 10; j++) {
                    int one = i;
                    int other = j;
                    read("loss " + i + " " + j, () -> x.loss(one, other));
                }
            }
            read("rounds", x::rounds);
            read("dark", x::dark);
            read("onShare", x::onShare);
            read("meanLevel", x::meanLevel);
            read("isSound", () -> x.isSound() ? 1 : 0);
        }

        private void stations() {
            for (int i = 0; i < 8; i++) {
                int it = i;
                read("level " + i, () -> x.level(it));
                read("harm " + i, () -> x.harm(it));
                read("keeps " + i, () -> x.keeps(it) ? 1 : 0);
                read("priceOf " + i, () -> x.priceOf(it));
                read("packed " + i, () -> x.packed(8, it));
                for (int day = 0; day < 8; day++) {
                    int then = day;
                    read("channelOf " + i + " " + day, () -> x.channelOf(it, then));
                }
                phases(i);
            }
        }

        private void phases(int station) {
            read("phaseOf " + station, () -> x.phaseOf(station));
        }

        private void bidders() {
            for (int i = 0; i < 5; i++) {
                int it = i;
                read("bought " + i, () -> x.bought(it));
                read("pays " + i, () -> x.pays(it));
            }
        }

        private void yeses() {
            for (int i = 0; i < 4; i++) {
                for (int channel = 0; channel < 8; channel++) {
                    int station = i;
                    int it = channel;
                    read("hasYes " + i + " " + channel, () -> x.hasYes(station, it) ? 1 : 0);
                }
            }
        }

        /** What no call reads is told by calls that change it. */
        private void hidden() {
            read("move", () -> x.move(2));
            read("dark", x::dark);
            for (int i = 0; i < 8; i++) {
                phases(i);
            }
            for (int channels : new int[] {4, 8}) {
                read("buy " + channels, () -> x.buy(channels));
                bidders();
            }
            yeses();
            read("goOn", () -> x.goOn(3));
            yeses();
            for (int i = 0; i < 32; i++) {
                int it = i;
                read("object " + i, () -> x.object(it / 8, it % 8) ? 1 : 0);
            }
            for (int i = 0; i < 8; i++) {
                int it = i;
                read("setForeign " + i, () -> x.setForeign(it, false) ? 1 : 0);
                read("setAsked " + i, () -> x.setAsked(it, 0));
                read("putOff " + i, () -> x.putOff(it));
            }
            read("setRatio", () -> x.setRatio(0));
            for (int i = 0; i < 3; i++) {
                int column = 3 + i;
                read("setGround " + column, () -> x.setGround(column, 3, 0));
            }
            read("addBidder", () -> x.addBidder(1, 1, 1));
            read("addStation", () -> x.addStation(0, 1, 1, true));
            read("addSite", () -> x.addSite(1, 1, 1));
        }

        String readAll() {
            land();
            stations();
            bidders();
            hidden();
            if (calls > MOST_CALLS - 80) {
                tell("too many calls on one object: " + calls);
            }
            return text.toString();
        }
    }

    private static String everything(Bandplan x) {
        return new Reader(x).readAll();
    }

    /** A land in which all has happened; the first, second and fourth stations are protected. */
    private static Bandplan lively() {
        Bandplan x = new Bandplan();
        x.setGround(4, 3, 60);
        int[][] sites = {{3, 3, 5}, {3, 3, 0}, {6, 3, 10}, {15, 9, 0}, {15, 9, 0}};
        for (int[] site : sites) {
            x.addSite(site[0], site[1], site[2]);
        }
        x.setRatio(160);
        x.addStation(0, 1, 400, true);
        x.addStation(0, 1, 400, true);
        x.addStation(1, 0, 300, false);
        x.addStation(3, 4, 450, true);
        x.addBidder(100, 60, 10);
        x.addBidder(80, 70, 0);
        x.buy(3);
        putAll(x, 5, 1, 3);
        x.askAbroad(3, 2);
        x.askAbroad(0, 6);
        x.object(0, 6);
        x.goOn(3);
        x.setForeign(2, true);
        x.setForeign(6, true);
        x.putOn(3, 2);
        x.goOn(1);
        askAll(x, 70, 10, 30, 500);
        x.sell(100, 9, 1);
        x.goOn(1);
        x.move(1);
        x.goOn(1);
        putAll(x, 5, 3, 1);
        x.askAbroad(1, 7);
        return x;
    }

    private static Bandplan livelyOff() {
        Bandplan x = lively();
        for (int i = 0; i < 4; i++) {
            x.putOff(i);
        }
        return x;
    }

    private static Bandplan livelyFull() {
        Bandplan x = lively();
        for (int i = 0; i < 5; i++) {
            x.addSite(3 + i, 4, i);
        }
        for (int i = 0; i < 4; i++) {
            x.addStation(5 + i, 6 + i, 300, i % 2 == 0);
        }
        x.addBidder(9, 9, 9);
        x.addBidder(8, 8, 8);
        return x;
    }

    /** Sold and moved, and then too near for another move. */
    private static Bandplan tooNear() {
        Bandplan x = threeCells();
        putAll(x, 0, 3, 6);
        askAll(x, 2, 2, 2);
        x.sell(1, 1, 1);
        x.move(1);
        for (int i = 0; i < 3; i++) {
            x.putOff(i);
        }
        x.setRatio(300);
        putAll(x, 7, 3, 0);
        return x;
    }

    /** The first station would put the fourth one off, and be hindered by the others together. */
    private static Bandplan hindered() {
        Bandplan x = oneCell(400, -228, -228, -400);
        putAll(x, 5, 2, 2, 2);
        return x;
    }

    private static void refused(String what, Class<?> due, World world, Using call) {
        Bandplan x = world.make();
        fails(what, due, () -> call.use(x));
        same(what + ": everything behind it", everything(x), everything(world.make()));
    }

    private static void changesNothing() {
        landRefuses();
        stationsRefuse();
        registerRefuses();
        abroadRefuses();
        packingsRefuse();
        marketsRefuse();
        moveRefuses();
    }

    private static void landRefuses() {
        refused("setGround column", BOUNDS, RefusalTest::livelyOff, x -> x.setGround(20, 3, 7));
        refused("setGround row", BOUNDS, RefusalTest::livelyOff, x -> x.setGround(4, -1, 7));
        refused("setGround ground", ARGUMENT, RefusalTest::livelyOff, x -> x.setGround(4, 3, 100));
        refused("setGround on", STATE, RefusalTest::lively, x -> x.setGround(4, 3, 7));
        refused("addSite column", BOUNDS, RefusalTest::lively, x -> x.addSite(20, 3, 7));
        refused("addSite row", BOUNDS, RefusalTest::lively, x -> x.addSite(4, -1, 7));
        refused("addSite height", ARGUMENT, RefusalTest::lively, x -> x.addSite(4, 3, -1));
        refused("addSite full", STATE, RefusalTest::livelyFull, x -> x.addSite(4, 3, 7));
        refused("loss", BOUNDS, RefusalTest::lively, x -> x.loss(0, 5));
        refused("setRatio range", ARGUMENT, RefusalTest::livelyOff, x -> x.setRatio(501));
        refused("setRatio on", STATE, RefusalTest::lively, x -> x.setRatio(7));
    }

    private static void stationsRefuse() {
        refused("addStation sends", BOUNDS, RefusalTest::lively, x -> x.addStation(5, 0, 7, true));
        refused("addStation receives", BOUNDS, RefusalTest::lively, x -> x.addStation(0, 5, 7, true));
        refused("addStation same", ARGUMENT, RefusalTest::lively, x -> x.addStation(1, 1, 7, true));
        refused("addStation power", ARGUMENT, RefusalTest::lively, x -> x.addStation(0, 1, 501, true));
        refused("addStation full", STATE, RefusalTest::livelyFull, x -> x.addStation(0, 1, 7, true));
        refused("level", BOUNDS, RefusalTest::lively, x -> x.level(4));
        refused("harm", BOUNDS, RefusalTest::lively, x -> x.harm(4));
        refused("harm off", UNSUPPORTED, RefusalTest::livelyOff, x -> x.harm(0));
        refused("harm nothing", MISSING, () -> sold(1, new int[] {1}, 400), x -> x.harm(0));
        refused("keeps", BOUNDS, RefusalTest::lively, x -> x.keeps(4));
        refused("keeps off", UNSUPPORTED, RefusalTest::livelyOff, x -> x.keeps(0));
        refused("bars station", BOUNDS, RefusalTest::lively, x -> x.bars(0, 0, 4, 0));
        refused("bars same", ARGUMENT, RefusalTest::lively, x -> x.bars(0, 0, 0, 1));
        refused("bars channel", ARGUMENT, RefusalTest::lively, x -> x.bars(0, 0, 1, 8));
    }

    private static void registerRefuses() {
        refused("putOn station", BOUNDS, RefusalTest::lively, x -> x.putOn(4, 0));
        refused("putOn channel", ARGUMENT, RefusalTest::lively, x -> x.putOn(0, 8));
        refused("putOn yes", STATE, RefusalTest::lively, x -> x.putOn(3, 6));
        refused("putOn level", UNSUPPORTED, RefusalTest::lively, x -> x.putOn(1, 5));
        refused("putOn level, secondary", UNSUPPORTED, RefusalTest::lively, x -> x.putOn(2, 5));
        refused("putOn level, others would go off", UNSUPPORTED, RefusalTest::hindered, x -> x.putOn(0, 2));
        refused("putOff", BOUNDS, RefusalTest::lively, x -> x.putOff(4));
        refused("channelOf station", BOUNDS, RefusalTest::lively, x -> x.channelOf(4, 0));
        refused("channelOf day", ARGUMENT, RefusalTest::lively, x -> x.channelOf(0, 7));
    }

    private static void abroadRefuses() {
        refused("setForeign", ARGUMENT, RefusalTest::lively, x -> x.setForeign(8, true));
        refused("askAbroad station", BOUNDS, RefusalTest::lively, x -> x.askAbroad(4, 2));
        refused("askAbroad channel", ARGUMENT, RefusalTest::lively, x -> x.askAbroad(1, 8));
        refused("object station", BOUNDS, RefusalTest::lively, x -> x.object(-1, 7));
        refused("object channel", ARGUMENT, RefusalTest::lively, x -> x.object(1, 8));
        refused("object nothing", MISSING, RefusalTest::lively, x -> x.object(2, 7));
        refused("hasYes station", BOUNDS, RefusalTest::lively, x -> x.hasYes(4, 2));
        refused("hasYes channel", ARGUMENT, RefusalTest::lively, x -> x.hasYes(3, -1));
        refused("goOn", ARGUMENT, RefusalTest::lively, x -> x.goOn(100));
        refused("goOn 0", ARGUMENT, RefusalTest::lively, x -> x.goOn(0));
    }

    private static void packingsRefuse() {
        refused("canPack", ARGUMENT, RefusalTest::lively, x -> x.canPack(9));
        refused("packed channels", ARGUMENT, RefusalTest::lively, x -> x.packed(0, 0));
        refused("packed station", BOUNDS, RefusalTest::lively, x -> x.packed(8, 4));
        refused("packed secondary", UNSUPPORTED, RefusalTest::lively, x -> x.packed(8, 2));
        refused("packed none", MISSING, RefusalTest::lively, x -> x.packed(1, 0));
    }

    private static void marketsRefuse() {
        refused("setAsked station", BOUNDS, RefusalTest::lively, x -> x.setAsked(4, 7));
        refused("setAsked price", ARGUMENT, RefusalTest::lively, x -> x.setAsked(0, 10000));
        refused("sell price", ARGUMENT, RefusalTest::lively, x -> x.sell(0, 1, 1));
        refused("sell step", ARGUMENT, RefusalTest::lively, x -> x.sell(1, 1000, 1));
        refused("sell channels", ARGUMENT, RefusalTest::lively, x -> x.sell(1, 1, 9));
        refused("sell none on", UNSUPPORTED, RefusalTest::livelyOff, x -> x.sell(1, 1, 8));
        refused("sell too many stay", UNSUPPORTED, RefusalTest::lively, x -> x.sell(1, 1, 1));
        refused("priceOf station", BOUNDS, RefusalTest::lively, x -> x.priceOf(4));
        refused("priceOf", MISSING, RefusalTest::lively, x -> x.priceOf(0));
        refused("addBidder first", ARGUMENT, RefusalTest::lively, x -> x.addBidder(10000, 1, 1));
        refused("addBidder second", ARGUMENT, RefusalTest::lively, x -> x.addBidder(7, 8, 1));
        refused("addBidder third", ARGUMENT, RefusalTest::lively, x -> x.addBidder(7, 7, 8));
        refused("addBidder full", STATE, RefusalTest::livelyFull, x -> x.addBidder(7, 7, 7));
        refused("buy", ARGUMENT, RefusalTest::lively, x -> x.buy(9));
        refused("bought", BOUNDS, RefusalTest::lively, x -> x.bought(2));
        refused("pays", BOUNDS, RefusalTest::lively, x -> x.pays(2));
    }

    private static void moveRefuses() {
        refused("move crews", ARGUMENT, RefusalTest::lively, x -> x.move(5));
        refused("move, no selling", UNSUPPORTED, RefusalTest::hindered, x -> x.move(1));
        refused("move, no packing", UNSUPPORTED, RefusalTest::tooNear, x -> x.move(4));
        refused("phaseOf station", BOUNDS, RefusalTest::lively, x -> x.phaseOf(4));
        refused("phaseOf", MISSING, RefusalTest::lively, x -> x.phaseOf(1));
        refused("onShare", ARITHMETIC, Bandplan::new, x -> x.onShare());
        refused("meanLevel", ARITHMETIC, RefusalTest::livelyOff, x -> x.meanLevel());
    }

    /** A call that is not refused shows in what everything answers: else nothing above would be told. */
    private static void isSeen(String what, World world, Using call) {
        Bandplan x = world.make();
        call.use(x);
        no(what + " is not seen", everything(x).equals(everything(world.make())));
    }

    private static void changesAreSeen() {
        isSeen("setGround", RefusalTest::livelyOff, x -> x.setGround(4, 3, 7));
        isSeen("addSite", RefusalTest::lively, x -> x.addSite(4, 3, 7));
        isSeen("setRatio", RefusalTest::livelyOff, x -> x.setRatio(7));
        isSeen("addStation", RefusalTest::lively, x -> x.addStation(0, 1, 7, true));
        isSeen("putOn", RefusalTest::lively, x -> x.putOn(1, 7));
        isSeen("putOff", RefusalTest::lively, x -> x.putOff(2));
        isSeen("setForeign", RefusalTest::lively, x -> x.setForeign(2, false));
        isSeen("askAbroad", RefusalTest::lively, x -> x.askAbroad(3, 2));
        isSeen("object", RefusalTest::lively, x -> x.object(1, 7));
        isSeen("goOn", RefusalTest::lively, x -> x.goOn(1));
        isSeen("setAsked", RefusalTest::lively, x -> x.setAsked(2, 7));
        isSeen("sell", RefusalTest::lively, x -> x.sell(100, 9, 2));
        isSeen("addBidder", RefusalTest::lively, x -> x.addBidder(1, 1, 1));
        isSeen("buy", RefusalTest::lively, x -> x.buy(2));
        isSeen("move", RefusalTest::lively, x -> x.move(1));
        same("a land made twice", everything(lively()), everything(lively()));
    }

    private static void listedFirst() {
        Bandplan x = livelyFull();
        fails("setGround cell and ground", BOUNDS, () -> x.setGround(20, 0, 100));
        fails("setGround cell and on", BOUNDS, () -> x.setGround(0, 20, 1));
        fails("setGround ground and on", ARGUMENT, () -> x.setGround(0, 0, 100));
        fails("setGround all", BOUNDS, () -> x.setGround(-1, 0, -1));
        fails("addSite cell and height", BOUNDS, () -> x.addSite(20, 0, 100));
        fails("addSite cell and full", BOUNDS, () -> x.addSite(0, -1, 1));
        fails("addSite height and full", ARGUMENT, () -> x.addSite(0, 0, 100));
        fails("addSite all", BOUNDS, () -> x.addSite(0, 20, -1));
        fails("addStation site and same", BOUNDS, () -> x.addStation(10, 10, 1, true));
        fails("addStation site and power", BOUNDS, () -> x.addStation(10, 0, 501, true));
        fails("addStation other site and power", BOUNDS, () -> x.addStation(0, -1, -1, true));
        fails("addStation site and full", BOUNDS, () -> x.addStation(0, 10, 1, true));
        fails("addStation same and full", ARGUMENT, () -> x.addStation(0, 0, 1, true));
        fails("addStation power and full", ARGUMENT, () -> x.addStation(0, 1, 501, true));
        fails("addStation all", BOUNDS, () -> x.addStation(-1, -1, 501, true));
        fails("setRatio range and on", ARGUMENT, () -> x.setRatio(501));
        fails("harm off and nothing", UNSUPPORTED, () -> crowd(1).harm(0));
        fails("bars station and same", BOUNDS, () -> x.bars(8, 0, 8, 0));
        fails("bars station and channel", BOUNDS, () -> x.bars(0, 8, 8, 0));
        fails("bars all", BOUNDS, () -> x.bars(-1, 8, -1, 8));
        registerListedFirst(x);
        marketsListedFirst(x);
    }

    private static void registerListedFirst(Bandplan x) {
        fails("putOn station and channel", BOUNDS, () -> x.putOn(8, 8));
        fails("putOn channel and yes and level", ARGUMENT, () -> x.putOn(3, 8));
        Bandplan y = new Bandplan();
        y.addSite(15, 0, 0);
        y.addSite(15, 0, 0);
        y.addStation(0, 1, 400, true);
        y.addStation(0, 1, 400, false);
        putAll(y, 4);
        y.setForeign(4, true);
        fails("putOn yes and level", STATE, () -> y.putOn(1, 4));
        fails("putOn level alone", UNSUPPORTED, () -> {
            y.setForeign(4, false);
            y.putOn(1, 4);
        });
        fails("channelOf station and day", BOUNDS, () -> x.channelOf(8, 99));
        fails("askAbroad station and channel", BOUNDS, () -> x.askAbroad(8, 8));
        fails("object station and channel", BOUNDS, () -> x.object(8, -1));
        fails("object station and nothing", BOUNDS, () -> x.object(8, 0));
        fails("object channel and nothing", ARGUMENT, () -> x.object(0, 8));
        fails("hasYes station and channel", BOUNDS, () -> x.hasYes(-1, 8));
    }

    private static void marketsListedFirst(Bandplan x) {
        fails("packed channels and station", ARGUMENT, () -> x.packed(9, 8));
        fails("packed channels and secondary", ARGUMENT, () -> x.packed(0, 2));
        fails("packed channels and all", ARGUMENT, () -> x.packed(0, -1));
        fails("packed station and none", BOUNDS, () -> x.packed(1, 8));
        fails("packed secondary and none", UNSUPPORTED, () -> x.packed(1, 2));
        fails("packed none alone", MISSING, () -> x.packed(1, 0));
        fails("setAsked station and price", BOUNDS, () -> x.setAsked(8, 10000));
        fails("sell price and none on", ARGUMENT, () -> new Bandplan().sell(0, 1, 1));
        fails("sell step and none on", ARGUMENT, () -> new Bandplan().sell(1, 0, 1));
        fails("sell channels and none on", ARGUMENT, () -> new Bandplan().sell(1, 1, 0));
        fails("sell channels and too many stay", ARGUMENT, () -> lively().sell(1, 1, 0));
        fails("priceOf station and not bought", BOUNDS, () -> new Bandplan().priceOf(0));
        fails("addBidder first and full", ARGUMENT, () -> x.addBidder(10000, 0, 0));
        fails("addBidder second and full", ARGUMENT, () -> x.addBidder(1, 2, 0));
        fails("addBidder third and full", ARGUMENT, () -> x.addBidder(1, 1, -1));
        fails("move crews and no selling", ARGUMENT, () -> new Bandplan().move(0));
        fails("move crews and no packing", ARGUMENT, () -> tooNear().move(5));
        fails("phaseOf station and no move", BOUNDS, () -> new Bandplan().phaseOf(0));
    }

    public static void main(String[] args) throws IOException {
        Document document = new Document();
        document.test("Exceptions", "A method that throws an exception changes nothing.", RefusalTest::changesNothing);
        document.test("Exceptions", "If several conditions of a method apply, the exception that is listed first is"
            + " thrown.", RefusalTest::listedFirst);
        document.needTests("Exceptions \\| .{12,}");
        changesAreSeen();
        end("refused calls change nothing, and throw what is listed first");
    }
}
